theorem dX4_isFree_70 : decode cX4_isFree 70 = .ok (.iload 5, 2) := by decide +kernel
theorem dX4_isFree_72 : decode cX4_isFree 72 = .ok (.iload 6, 2) := by decide +kernel
theorem dX4_isFree_74 : decode cX4_isFree 74 = .ok (.invokevirtual 96, 3) := by decide +kernel
theorem dX4_isFree_77 : decode cX4_isFree 77 = .ok (.ifCond .eq 5, 3) := by decide +kernel
theorem dX4_isFree_80 : decode cX4_isFree 80 = .ok (.iconst 0, 1) := by decide +kernel
theorem dX4_isFree_81 : decode cX4_isFree 81 = .ok (.ireturn, 1) := by decide +kernel
theorem dX4_isFree_82 : decode cX4_isFree 82 = .ok (.iinc 5 1, 3) := by decide +kernel
theorem dX4_isFree_85 : decode cX4_isFree 85 = .ok (.goto (-72), 3) := by decide +kernel
theorem dX4_isFree_88 : decode cX4_isFree 88 = .ok (.iconst 1, 1) := by decide +kernel
theorem dX4_isFree_89 : decode cX4_isFree 89 = .ok (.ireturn, 1) := by decide +kernel
theorem dX4_silenceSecondariesNear_0 : decode cX4_silenceSecondariesNear 0 = .ok (.aload_n 2, 1) := by decide +kernel
theorem dX4_silenceSecondariesNear_1 : decode cX4_silenceSecondariesNear 1 = .ok (.getfield 48, 3) := by decide +kernel
theorem dX4_silenceSecondariesNear_4 : decode cX4_silenceSecondariesNear 4 = .ok (.iload_n 0, 1) := by decide +kernel
theorem dX4_silenceSecondariesNear_5 : decode cX4_silenceSecondariesNear 5 = .ok (.invokevirtual 44, 3) := by decide +kernel
theorem dX4_silenceSecondariesNear_8 : decode cX4_silenceSecondariesNear 8 = .ok (.istore 4, 2) := by decide +kernel
theorem dX4_silenceSecondariesNear_10 : decode cX4_silenceSecondariesNear 10 = .ok (.iconst 0, 1) := by decide +kernel
theorem dX4_silenceSecondariesNear_11 : decode cX4_silenceSecondariesNear 11 = .ok (.istore 5, 2) := by decide +kernel
theorem dX4_silenceSecondariesNear_13 : decode cX4_silenceSecondariesNear 13 = .ok (.iload 5, 2) := by decide +kernel
theorem dX4_silenceSecondariesNear_15 : decode cX4_silenceSecondariesNear 15 = .ok (.aload_n 1, 1) := by decide +kernel
theorem dX4_silenceSecondariesNear_16 : decode cX4_silenceSecondariesNear 16 = .ok (.getfield 67, 3) := by decide +kernel
theorem dX4_silenceSecondariesNear_19 : decode cX4_silenceSecondariesNear 19 = .ok (.invokevirtual 73, 3) := by decide +kernel
theorem dX4_silenceSecondariesNear_22 : decode cX4_silenceSecondariesNear 22 = .ok (.if_icmp .ge 65, 3) := by decide +kernel
theorem dX4_silenceSecondariesNear_25 : decode cX4_silenceSecondariesNear 25 = .ok (.aload_n 3, 1) := by decide +kernel
theorem dX4_silenceSecondariesNear_26 : decode cX4_silenceSecondariesNear 26 = .ok (.getfield 39, 3) := by decide +kernel
theorem dX4_silenceSecondariesNear_29 : decode cX4_silenceSecondariesNear 29 = .ok (.iload 5, 2) := by decide +kernel
theorem dX4_silenceSecondariesNear_31 : decode cX4_silenceSecondariesNear 31 = .ok (.invokevirtual 44, 3) := by decide +kernel
theorem dX4_silenceSecondariesNear_34 : decode cX4_silenceSecondariesNear 34 = .ok (.istore 6, 2) := by decide +kernel
theorem dX4_silenceSecondariesNear_36 : decode cX4_silenceSecondariesNear 36 = .ok (.aload_n 1, 1) := by decide +kernel
theorem dX4_silenceSecondariesNear_37 : decode cX4_silenceSecondariesNear 37 = .ok (.getfield 67, 3) := by decide +kernel
theorem dX4_silenceSecondariesNear_40 : decode cX4_silenceSecondariesNear 40 = .ok (.iload 5, 2) := by decide +kernel
theorem dX4_silenceSecondariesNear_42 : decode cX4_silenceSecondariesNear 42 = .ok (.invokevirtual 87, 3) := by decide +kernel
theorem dX4_silenceSecondariesNear_45 : decode cX4_silenceSecondariesNear 45 = .ok (.checkcast 91, 3) := by decide +kernel
theorem dX4_silenceSecondariesNear_48 : decode cX4_silenceSecondariesNear 48 = .ok (.getfield 93, 3) := by decide +kernel
theorem dX4_silenceSecondariesNear_51 : decode cX4_silenceSecondariesNear 51 = .ok (.ifCond .ne 30, 3) := by decide +kernel
theorem dX4_silenceSecondariesNear_54 : decode cX4_silenceSecondariesNear 54 = .ok (.iload 6, 2) := by decide +kernel
theorem dX4_silenceSecondariesNear_56 : decode cX4_silenceSecondariesNear 56 = .ok (.iconst (-1), 1) := by decide +kernel
theorem dX4_silenceSecondariesNear_57 : decode cX4_silenceSecondariesNear 57 = .ok (.if_icmp .eq 24, 3) := by decide +kernel
theorem dX4_silenceSecondariesNear_60 : decode cX4_silenceSecondariesNear 60 = .ok (.aload_n 2, 1) := by decide +kernel
theorem dX4_silenceSecondariesNear_61 : decode cX4_silenceSecondariesNear 61 = .ok (.iload_n 0, 1) := by decide +kernel
theorem dX4_silenceSecondariesNear_62 : decode cX4_silenceSecondariesNear 62 = .ok (.iload 4, 2) := by decide +kernel
theorem dX4_silenceSecondariesNear_64 : decode cX4_silenceSecondariesNear 64 = .ok (.iload 5, 2) := by decide +kernel
theorem dX4_silenceSecondariesNear_66 : decode cX4_silenceSecondariesNear 66 = .ok (.iload 6, 2) := by decide +kernel
theorem dX4_silenceSecondariesNear_68 : decode cX4_silenceSecondariesNear 68 = .ok (.invokevirtual 96, 3) := by decide +kernel
theorem dX4_silenceSecondariesNear_71 : decode cX4_silenceSecondariesNear 71 = .ok (.ifCond .eq 10, 3) := by decide +kernel
theorem dX4_silenceSecondariesNear_74 : decode cX4_silenceSecondariesNear 74 = .ok (.aload_n 3, 1) := by decide +kernel
theorem dX4_silenceSecondariesNear_75 : decode cX4_silenceSecondariesNear 75 = .ok (.iload 5, 2) := by decide +kernel
theorem dX4_silenceSecondariesNear_77 : decode cX4_silenceSecondariesNear 77 = .ok (.iconst (-1), 1) := by decide +kernel
theorem dX4_silenceSecondariesNear_78 : decode cX4_silenceSecondariesNear 78 = .ok (.invokevirtual 64, 3) := by decide +kernel
theorem dX4_silenceSecondariesNear_81 : decode cX4_silenceSecondariesNear 81 = .ok (.iinc 5 1, 3) := by decide +kernel
theorem dX4_silenceSecondariesNear_84 : decode cX4_silenceSecondariesNear 84 = .ok (.goto (-71), 3) := by decide +kernel
theorem dX4_silenceSecondariesNear_87 : decode cX4_silenceSecondariesNear 87 = .ok (.return_, 1) := by decide +kernel
theorem dX4_lowestWaitingOn_0 : decode cX4_lowestWaitingOn 0 = .ok (.iconst 0, 1) := by decide +kernel
theorem dX4_lowestWaitingOn_1 : decode cX4_lowestWaitingOn 1 = .ok (.istore_n 2, 1) := by decide +kernel
theorem dX4_lowestWaitingOn_2 : decode cX4_lowestWaitingOn 2 = .ok (.iload_n 2, 1) := by decide +kernel
theorem dX4_lowestWaitingOn_3 : decode cX4_lowestWaitingOn 3 = .ok (.bipush 8, 2) := by decide +kernel
theorem dX4_lowestWaitingOn_5 : decode cX4_lowestWaitingOn 5 = .ok (.if_icmp .ge 34, 3) := by decide +kernel
theorem dX4_lowestWaitingOn_8 : decode cX4_lowestWaitingOn 8 = .ok (.iload_n 2, 1) := by decide +kernel
theorem dX4_lowestWaitingOn_9 : decode cX4_lowestWaitingOn 9 = .ok (.aload_n 0, 1) := by decide +kernel
theorem dX4_lowestWaitingOn_10 : decode cX4_lowestWaitingOn 10 = .ok (.getfield 28, 3) := by decide +kernel
theorem dX4_lowestWaitingOn_13 : decode cX4_lowestWaitingOn 13 = .ok (.invokestatic 35, 3) := by decide +kernel
theorem dX4_lowestWaitingOn_16 : decode cX4_lowestWaitingOn 16 = .ok (.ifCond .eq 17, 3) := by decide +kernel
theorem dX4_lowestWaitingOn_19 : decode cX4_lowestWaitingOn 19 = .ok (.aload_n 1, 1) := by decide +kernel
theorem dX4_lowestWaitingOn_20 : decode cX4_lowestWaitingOn 20 = .ok (.getfield 39, 3) := by decide +kernel
theorem dX4_lowestWaitingOn_23 : decode cX4_lowestWaitingOn 23 = .ok (.iload_n 2, 1) := by decide +kernel
theorem dX4_lowestWaitingOn_24 : decode cX4_lowestWaitingOn 24 = .ok (.invokevirtual 44, 3) := by decide +kernel
theorem dX4_lowestWaitingOn_27 : decode cX4_lowestWaitingOn 27 = .ok (.iconst (-1), 1) := by decide +kernel
theorem dX4_lowestWaitingOn_28 : decode cX4_lowestWaitingOn 28 = .ok (.if_icmp .eq 5, 3) := by decide +kernel
theorem dX4_lowestWaitingOn_31 : decode cX4_lowestWaitingOn 31 = .ok (.iload_n 2, 1) := by decide +kernel
theorem dX4_lowestWaitingOn_32 : decode cX4_lowestWaitingOn 32 = .ok (.ireturn, 1) := by decide +kernel
theorem dX4_lowestWaitingOn_33 : decode cX4_lowestWaitingOn 33 = .ok (.iinc 2 1, 3) := by decide +kernel
theorem dX4_lowestWaitingOn_36 : decode cX4_lowestWaitingOn 36 = .ok (.goto (-34), 3) := by decide +kernel
theorem dX4_lowestWaitingOn_39 : decode cX4_lowestWaitingOn 39 = .ok (.iconst (-1), 1) := by decide +kernel
theorem dX4_lowestWaitingOn_40 : decode cX4_lowestWaitingOn 40 = .ok (.ireturn, 1) := by decide +kernel
theorem dX5_init_0 : decode cX5_init 0 = .ok (.aload_n 0, 1) := by decide +kernel
theorem dX5_init_1 : decode cX5_init 1 = .ok (.invokespecial 3, 3) := by decide +kernel
theorem dX5_init_4 : decode cX5_init 4 = .ok (.aload_n 0, 1) := by decide +kernel
theorem dX5_init_5 : decode cX5_init 5 = .ok (.new 9, 3) := by decide +kernel
theorem dX5_init_8 : decode cX5_init 8 = .ok (.dup, 1) := by decide +kernel
theorem dX5_init_9 : decode cX5_init 9 = .ok (.bipush 8, 2) := by decide +kernel
theorem dX5_init_11 : decode cX5_init 11 = .ok (.iconst (-1), 1) := by decide +kernel
theorem dX5_init_12 : decode cX5_init 12 = .ok (.invokespecial 11, 3) := by decide +kernel
theorem dX5_init_15 : decode cX5_init 15 = .ok (.putfield 14, 3) := by decide +kernel
theorem dX5_init_18 : decode cX5_init 18 = .ok (.aload_n 0, 1) := by decide +kernel
theorem dX5_init_19 : decode cX5_init 19 = .ok (.new 9, 3) := by decide +kernel
theorem dX5_init_22 : decode cX5_init 22 = .ok (.dup, 1) := by decide +kernel
theorem dX5_init_23 : decode cX5_init 23 = .ok (.bipush 64, 2) := by decide +kernel
theorem dX5_init_25 : decode cX5_init 25 = .ok (.iconst 0, 1) := by decide +kernel
theorem dX5_init_26 : decode cX5_init 26 = .ok (.invokespecial 11, 3) := by decide +kernel
theorem dX5_init_29 : decode cX5_init 29 = .ok (.putfield 20, 3) := by decide +kernel
theorem dX5_init_32 : decode cX5_init 32 = .ok (.aload_n 0, 1) := by decide +kernel
theorem dX5_init_33 : decode cX5_init 33 = .ok (.new 9, 3) := by decide +kernel
theorem dX5_init_36 : decode cX5_init 36 = .ok (.dup, 1) := by decide +kernel
theorem dX5_init_37 : decode cX5_init 37 = .ok (.sipush 256, 3) := by decide +kernel
theorem dX5_init_40 : decode cX5_init 40 = .ok (.iconst 0, 1) := by decide +kernel
theorem dX5_init_41 : decode cX5_init 41 = .ok (.invokespecial 11, 3) := by decide +kernel
theorem dX5_init_44 : decode cX5_init 44 = .ok (.putfield 23, 3) := by decide +kernel
theorem dX5_init_47 : decode cX5_init 47 = .ok (.return_, 1) := by decide +kernel
theorem dX5_prepare_0 : decode cX5_prepare 0 = .ok (.aload_n 0, 1) := by decide +kernel
theorem dX5_prepare_1 : decode cX5_prepare 1 = .ok (.iload_n 2, 1) := by decide +kernel
theorem dX5_prepare_2 : decode cX5_prepare 2 = .ok (.putfield 26, 3) := by decide +kernel
theorem dX5_prepare_5 : decode cX5_prepare 5 = .ok (.aload_n 0, 1) := by decide +kernel
theorem dX5_prepare_6 : decode cX5_prepare 6 = .ok (.getfield 23, 3) := by decide +kernel
theorem dX5_prepare_9 : decode cX5_prepare 9 = .ok (.iconst 0, 1) := by decide +kernel
theorem dX5_prepare_10 : decode cX5_prepare 10 = .ok (.invokevirtual 30, 3) := by decide +kernel
theorem dX5_prepare_13 : decode cX5_prepare 13 = .ok (.iconst 0, 1) := by decide +kernel
theorem dX5_prepare_14 : decode cX5_prepare 14 = .ok (.istore_n 3, 1) := by decide +kernel
theorem dX5_prepare_15 : decode cX5_prepare 15 = .ok (.iload_n 3, 1) := by decide +kernel
theorem dX5_prepare_16 : decode cX5_prepare 16 = .ok (.aload_n 1, 1) := by decide +kernel
theorem dX5_prepare_17 : decode cX5_prepare 17 = .ok (.getfield 34, 3) := by decide +kernel
theorem dX5_prepare_20 : decode cX5_prepare 20 = .ok (.invokevirtual 40, 3) := by decide +kernel
theorem dX5_prepare_23 : decode cX5_prepare 23 = .ok (.if_icmp .ge 85, 3) := by decide +kernel
theorem dX5_prepare_26 : decode cX5_prepare 26 = .ok (.iconst 0, 1) := by decide +kernel
theorem dX5_prepare_27 : decode cX5_prepare 27 = .ok (.istore 4, 2) := by decide +kernel
theorem dX5_prepare_29 : decode cX5_prepare 29 = .ok (.iload 4, 2) := by decide +kernel
theorem dX5_prepare_31 : decode cX5_prepare 31 = .ok (.iload_n 3, 1) := by decide +kernel
theorem dX5_prepare_32 : decode cX5_prepare 32 = .ok (.if_icmp .ge 70, 3) := by decide +kernel
theorem dX5_prepare_35 : decode cX5_prepare 35 = .ok (.aload_n 1, 1) := by decide +kernel
theorem dX5_prepare_36 : decode cX5_prepare 36 = .ok (.aload_n 1, 1) := by decide +kernel
theorem dX5_prepare_37 : decode cX5_prepare 37 = .ok (.getfield 34, 3) := by decide +kernel
theorem dX5_prepare_40 : decode cX5_prepare 40 = .ok (.iload_n 3, 1) := by decide +kernel
theorem dX5_prepare_41 : decode cX5_prepare 41 = .ok (.invokevirtual 46, 3) := by decide +kernel
theorem dX5_prepare_44 : decode cX5_prepare 44 = .ok (.checkcast 50, 3) := by decide +kernel
theorem dX5_prepare_47 : decode cX5_prepare 47 = .ok (.aload_n 1, 1) := by decide +kernel
theorem dX5_prepare_48 : decode cX5_prepare 48 = .ok (.getfield 34, 3) := by decide +kernel
theorem dX5_prepare_51 : decode cX5_prepare 51 = .ok (.iload 4, 2) := by decide +kernel
theorem dX5_prepare_53 : decode cX5_prepare 53 = .ok (.invokevirtual 46, 3) := by decide +kernel
theorem dX5_prepare_56 : decode cX5_prepare 56 = .ok (.checkcast 50, 3) := by decide +kernel
theorem dX5_prepare_59 : decode cX5_prepare 59 = .ok (.invokestatic 52, 3) := by decide +kernel
theorem dX5_prepare_62 : decode cX5_prepare 62 = .ok (.istore 5, 2) := by decide +kernel
theorem dX5_prepare_64 : decode cX5_prepare 64 = .ok (.aload_n 0, 1) := by decide +kernel
theorem dX5_prepare_65 : decode cX5_prepare 65 = .ok (.getfield 20, 3) := by decide +kernel
theorem dX5_prepare_68 : decode cX5_prepare 68 = .ok (.iload_n 3, 1) := by decide +kernel
theorem dX5_prepare_69 : decode cX5_prepare 69 = .ok (.bipush 8, 2) := by decide +kernel
theorem dX5_prepare_71 : decode cX5_prepare 71 = .ok (.imul, 1) := by decide +kernel
theorem dX5_prepare_72 : decode cX5_prepare 72 = .ok (.iload 4, 2) := by decide +kernel
theorem dX5_prepare_74 : decode cX5_prepare 74 = .ok (.iadd, 1) := by decide +kernel
theorem dX5_prepare_75 : decode cX5_prepare 75 = .ok (.iload 5, 2) := by decide +kernel
theorem dX5_prepare_77 : decode cX5_prepare 77 = .ok (.invokevirtual 56, 3) := by decide +kernel
theorem dX5_prepare_80 : decode cX5_prepare 80 = .ok (.aload_n 0, 1) := by decide +kernel
theorem dX5_prepare_81 : decode cX5_prepare 81 = .ok (.getfield 20, 3) := by decide +kernel
theorem dX5_prepare_84 : decode cX5_prepare 84 = .ok (.iload 4, 2) := by decide +kernel
theorem dX5_prepare_86 : decode cX5_prepare 86 = .ok (.bipush 8, 2) := by decide +kernel
theorem dX5_prepare_88 : decode cX5_prepare 88 = .ok (.imul, 1) := by decide +kernel
theorem dX5_prepare_89 : decode cX5_prepare 89 = .ok (.iload_n 3, 1) := by decide +kernel
theorem dX5_prepare_90 : decode cX5_prepare 90 = .ok (.iadd, 1) := by decide +kernel
theorem dX5_prepare_91 : decode cX5_prepare 91 = .ok (.iload 5, 2) := by decide +kernel
theorem dX5_prepare_93 : decode cX5_prepare 93 = .ok (.invokevirtual 56, 3) := by decide +kernel
theorem dX5_prepare_96 : decode cX5_prepare 96 = .ok (.iinc 4 1, 3) := by decide +kernel
theorem dX5_prepare_99 : decode cX5_prepare 99 = .ok (.goto (-70), 3) := by decide +kernel
theorem dX5_prepare_102 : decode cX5_prepare 102 = .ok (.iinc 3 1, 3) := by decide +kernel
theorem dX5_prepare_105 : decode cX5_prepare 105 = .ok (.goto (-90), 3) := by decide +kernel
theorem dX5_prepare_108 : decode cX5_prepare 108 = .ok (.return_, 1) := by decide +kernel
theorem dX5_areTooNear_0 : decode cX5_areTooNear 0 = .ok (.iload_n 2, 1) := by decide +kernel
theorem dX5_areTooNear_1 : decode cX5_areTooNear 1 = .ok (.iload 4, 2) := by decide +kernel
theorem dX5_areTooNear_3 : decode cX5_areTooNear 3 = .ok (.isub, 1) := by decide +kernel
theorem dX5_areTooNear_4 : decode cX5_areTooNear 4 = .ok (.invokestatic 59, 3) := by decide +kernel
theorem dX5_areTooNear_7 : decode cX5_areTooNear 7 = .ok (.aload_n 0, 1) := by decide +kernel
theorem dX5_areTooNear_8 : decode cX5_areTooNear 8 = .ok (.getfield 20, 3) := by decide +kernel
theorem dX5_areTooNear_11 : decode cX5_areTooNear 11 = .ok (.iload_n 1, 1) := by decide +kernel
theorem dX5_areTooNear_12 : decode cX5_areTooNear 12 = .ok (.bipush 8, 2) := by decide +kernel
theorem dX5_areTooNear_14 : decode cX5_areTooNear 14 = .ok (.imul, 1) := by decide +kernel
theorem dX5_areTooNear_15 : decode cX5_areTooNear 15 = .ok (.iload_n 3, 1) := by decide +kernel
theorem dX5_areTooNear_16 : decode cX5_areTooNear 16 = .ok (.iadd, 1) := by decide +kernel
theorem dX5_areTooNear_17 : decode cX5_areTooNear 17 = .ok (.invokevirtual 65, 3) := by decide +kernel
theorem dX5_areTooNear_20 : decode cX5_areTooNear 20 = .ok (.if_icmp .ge 7, 3) := by decide +kernel
theorem dX5_areTooNear_23 : decode cX5_areTooNear 23 = .ok (.iconst 1, 1) := by decide +kernel
theorem dX5_areTooNear_24 : decode cX5_areTooNear 24 = .ok (.goto 4, 3) := by decide +kernel
theorem dX5_areTooNear_27 : decode cX5_areTooNear 27 = .ok (.iconst 0, 1) := by decide +kernel
theorem dX5_areTooNear_28 : decode cX5_areTooNear 28 = .ok (.ireturn, 1) := by decide +kernel
theorem dX5_fits_0 : decode cX5_fits 0 = .ok (.aload_n 0, 1) := by decide +kernel
theorem dX5_fits_1 : decode cX5_fits 1 = .ok (.getfield 23, 3) := by decide +kernel
theorem dX5_fits_4 : decode cX5_fits 4 = .ok (.iload_n 1, 1) := by decide +kernel
theorem dX5_fits_5 : decode cX5_fits 5 = .ok (.invokevirtual 65, 3) := by decide +kernel
theorem dX5_fits_8 : decode cX5_fits 8 = .ok (.ifCond .ne 24, 3) := by decide +kernel
theorem dX5_fits_11 : decode cX5_fits 11 = .ok (.aload_n 0, 1) := by decide +kernel
theorem dX5_fits_12 : decode cX5_fits 12 = .ok (.getfield 23, 3) := by decide +kernel
theorem dX5_fits_15 : decode cX5_fits 15 = .ok (.iload_n 1, 1) := by decide +kernel
theorem dX5_fits_16 : decode cX5_fits 16 = .ok (.aload_n 0, 1) := by decide +kernel
theorem dX5_fits_17 : decode cX5_fits 17 = .ok (.iload_n 1, 1) := by decide +kernel
theorem dX5_fits_18 : decode cX5_fits 18 = .ok (.invokevirtual 68, 3) := by decide +kernel
theorem dX5_fits_21 : decode cX5_fits 21 = .ok (.ifCond .eq 7, 3) := by decide +kernel
theorem dX5_fits_24 : decode cX5_fits 24 = .ok (.iconst 1, 1) := by decide +kernel
theorem dX5_fits_25 : decode cX5_fits 25 = .ok (.goto 4, 3) := by decide +kernel
theorem dX5_fits_28 : decode cX5_fits 28 = .ok (.iconst 2, 1) := by decide +kernel
theorem dX5_fits_29 : decode cX5_fits 29 = .ok (.invokevirtual 56, 3) := by decide +kernel
theorem dX5_fits_32 : decode cX5_fits 32 = .ok (.aload_n 0, 1) := by decide +kernel
theorem dX5_fits_33 : decode cX5_fits 33 = .ok (.getfield 23, 3) := by decide +kernel
theorem dX5_fits_36 : decode cX5_fits 36 = .ok (.iload_n 1, 1) := by decide +kernel
theorem dX5_fits_37 : decode cX5_fits 37 = .ok (.invokevirtual 65, 3) := by decide +kernel
theorem dX5_fits_40 : decode cX5_fits 40 = .ok (.iconst 1, 1) := by decide +kernel
theorem dX5_fits_41 : decode cX5_fits 41 = .ok (.if_icmp .ne 7, 3) := by decide +kernel
theorem dX5_fits_44 : decode cX5_fits 44 = .ok (.iconst 1, 1) := by decide +kernel
theorem dX5_fits_45 : decode cX5_fits 45 = .ok (.goto 4, 3) := by decide +kernel
theorem dX5_fits_48 : decode cX5_fits 48 = .ok (.iconst 0, 1) := by decide +kernel
theorem dX5_fits_49 : decode cX5_fits 49 = .ok (.ireturn, 1) := by decide +kernel
theorem dX5_findFirst_0 : decode cX5_findFirst 0 = .ok (.aload_n 0, 1) := by decide +kernel
theorem dX5_findFirst_1 : decode cX5_findFirst 1 = .ok (.iload_n 1, 1) := by decide +kernel
theorem dX5_findFirst_2 : decode cX5_findFirst 2 = .ok (.putfield 72, 3) := by decide +kernel
theorem dX5_findFirst_5 : decode cX5_findFirst 5 = .ok (.aload_n 0, 1) := by decide +kernel
theorem dX5_findFirst_6 : decode cX5_findFirst 6 = .ok (.getfield 14, 3) := by decide +kernel
theorem dX5_findFirst_9 : decode cX5_findFirst 9 = .ok (.iconst (-1), 1) := by decide +kernel
theorem dX5_findFirst_10 : decode cX5_findFirst 10 = .ok (.invokevirtual 30, 3) := by decide +kernel
theorem dX5_findFirst_13 : decode cX5_findFirst 13 = .ok (.aload_n 0, 1) := by decide +kernel
theorem dX5_findFirst_14 : decode cX5_findFirst 14 = .ok (.iconst 0, 1) := by decide +kernel
theorem dX5_findFirst_15 : decode cX5_findFirst 15 = .ok (.invokestatic 75, 3) := by decide +kernel
theorem dX5_findFirst_18 : decode cX5_findFirst 18 = .ok (.iconst (-1), 1) := by decide +kernel
theorem dX5_findFirst_19 : decode cX5_findFirst 19 = .ok (.if_icmp .ne 7, 3) := by decide +kernel
theorem dX5_findFirst_22 : decode cX5_findFirst 22 = .ok (.iconst 1, 1) := by decide +kernel
theorem dX5_findFirst_23 : decode cX5_findFirst 23 = .ok (.goto 4, 3) := by decide +kernel
theorem dX5_findFirst_26 : decode cX5_findFirst 26 = .ok (.iconst 0, 1) := by decide +kernel
theorem dX5_findFirst_27 : decode cX5_findFirst 27 = .ok (.ireturn, 1) := by decide +kernel
theorem dX5_place_0 : decode cX5_place 0 = .ok (.iload_n 1, 1) := by decide +kernel
theorem dX5_place_1 : decode cX5_place 1 = .ok (.bipush 8, 2) := by decide +kernel
theorem dX5_place_3 : decode cX5_place 3 = .ok (.if_icmp .lt 5, 3) := by decide +kernel
theorem dX5_place_6 : decode cX5_place 6 = .ok (.iconst (-1), 1) := by decide +kernel
theorem dX5_place_7 : decode cX5_place 7 = .ok (.ireturn, 1) := by decide +kernel
theorem dX5_place_8 : decode cX5_place 8 = .ok (.iload_n 1, 1) := by decide +kernel
theorem dX5_place_9 : decode cX5_place 9 = .ok (.aload_n 0, 1) := by decide +kernel
theorem dX5_place_10 : decode cX5_place 10 = .ok (.getfield 72, 3) := by decide +kernel
theorem dX5_place_13 : decode cX5_place 13 = .ok (.invokestatic 79, 3) := by decide +kernel
theorem dX5_place_16 : decode cX5_place 16 = .ok (.ifCond .ne 11, 3) := by decide +kernel
theorem dX5_place_19 : decode cX5_place 19 = .ok (.aload_n 0, 1) := by decide +kernel
theorem dX5_place_20 : decode cX5_place 20 = .ok (.iload_n 1, 1) := by decide +kernel
theorem dX5_place_21 : decode cX5_place 21 = .ok (.iconst 1, 1) := by decide +kernel
theorem dX5_place_22 : decode cX5_place 22 = .ok (.iadd, 1) := by decide +kernel
theorem dX5_place_23 : decode cX5_place 23 = .ok (.invokestatic 75, 3) := by decide +kernel
theorem dX5_place_26 : decode cX5_place 26 = .ok (.ireturn, 1) := by decide +kernel
theorem dX5_place_27 : decode cX5_place 27 = .ok (.iconst 0, 1) := by decide +kernel
theorem dX5_place_28 : decode cX5_place 28 = .ok (.istore_n 2, 1) := by decide +kernel
theorem dX5_place_29 : decode cX5_place 29 = .ok (.iconst 0, 1) := by decide +kernel
theorem dX5_place_30 : decode cX5_place 30 = .ok (.istore_n 3, 1) := by decide +kernel
theorem dX5_place_31 : decode cX5_place 31 = .ok (.iload_n 3, 1) := by decide +kernel
theorem dX5_place_32 : decode cX5_place 32 = .ok (.aload_n 0, 1) := by decide +kernel
theorem dX5_place_33 : decode cX5_place 33 = .ok (.getfield 26, 3) := by decide +kernel
theorem dX5_place_36 : decode cX5_place 36 = .ok (.if_icmp .ge 80, 3) := by decide +kernel
theorem dX5_place_39 : decode cX5_place 39 = .ok (.aload_n 0, 1) := by decide +kernel
theorem dX5_place_40 : decode cX5_place 40 = .ok (.iload_n 1, 1) := by decide +kernel
theorem dX5_place_41 : decode cX5_place 41 = .ok (.iload_n 3, 1) := by decide +kernel
theorem dX5_place_42 : decode cX5_place 42 = .ok (.invokevirtual 83, 3) := by decide +kernel
theorem dX5_place_45 : decode cX5_place 45 = .ok (.istore 4, 2) := by decide +kernel
theorem dX5_place_47 : decode cX5_place 47 = .ok (.iload 4, 2) := by decide +kernel
theorem dX5_place_49 : decode cX5_place 49 = .ok (.iconst (-1), 1) := by decide +kernel
theorem dX5_place_50 : decode cX5_place 50 = .ok (.if_icmp .eq 13, 3) := by decide +kernel
theorem dX5_place_53 : decode cX5_place 53 = .ok (.iload_n 2, 1) := by decide +kernel
theorem dX5_place_54 : decode cX5_place 54 = .ok (.iconst 1, 1) := by decide +kernel
theorem dX5_place_55 : decode cX5_place 55 = .ok (.iload 4, 2) := by decide +kernel
theorem dX5_place_57 : decode cX5_place 57 = .ok (.ishl, 1) := by decide +kernel
theorem dX5_place_58 : decode cX5_place 58 = .ok (.ior, 1) := by decide +kernel
theorem dX5_place_59 : decode cX5_place 59 = .ok (.istore_n 2, 1) := by decide +kernel
theorem dX5_place_60 : decode cX5_place 60 = .ok (.goto 50, 3) := by decide +kernel
theorem dX5_place_63 : decode cX5_place 63 = .ok (.aload_n 0, 1) := by decide +kernel
theorem dX5_place_64 : decode cX5_place 64 = .ok (.getfield 14, 3) := by decide +kernel
theorem dX5_place_67 : decode cX5_place 67 = .ok (.iload_n 1, 1) := by decide +kernel
theorem dX5_place_68 : decode cX5_place 68 = .ok (.iload_n 3, 1) := by decide +kernel
theorem dX5_place_69 : decode cX5_place 69 = .ok (.invokevirtual 56, 3) := by decide +kernel
theorem dX5_place_72 : decode cX5_place 72 = .ok (.aload_n 0, 1) := by decide +kernel
theorem dX5_place_73 : decode cX5_place 73 = .ok (.iload_n 1, 1) := by decide +kernel
theorem dX5_place_74 : decode cX5_place 74 = .ok (.iconst 1, 1) := by decide +kernel
theorem dX5_place_75 : decode cX5_place 75 = .ok (.iadd, 1) := by decide +kernel
theorem dX5_place_76 : decode cX5_place 76 = .ok (.invokestatic 75, 3) := by decide +kernel
theorem dX5_place_79 : decode cX5_place 79 = .ok (.istore 5, 2) := by decide +kernel
theorem dX5_place_81 : decode cX5_place 81 = .ok (.iload 5, 2) := by decide +kernel
theorem dX5_place_83 : decode cX5_place 83 = .ok (.iconst (-1), 1) := by decide +kernel
theorem dX5_place_84 : decode cX5_place 84 = .ok (.if_icmp .eq 12, 3) := by decide +kernel
theorem dX5_place_87 : decode cX5_place 87 = .ok (.iload_n 1, 1) := by decide +kernel
theorem dX5_place_88 : decode cX5_place 88 = .ok (.iload 5, 2) := by decide +kernel
theorem dX5_place_90 : decode cX5_place 90 = .ok (.invokestatic 79, 3) := by decide +kernel
theorem dX5_place_93 : decode cX5_place 93 = .ok (.ifCond .ne 6, 3) := by decide +kernel
theorem dX5_place_96 : decode cX5_place 96 = .ok (.iload 5, 2) := by decide +kernel
theorem dX5_place_98 : decode cX5_place 98 = .ok (.ireturn, 1) := by decide +kernel
theorem dX5_place_99 : decode cX5_place 99 = .ok (.iload_n 2, 1) := by decide +kernel
theorem dX5_place_100 : decode cX5_place 100 = .ok (.iload 5, 2) := by decide +kernel
theorem dX5_place_102 : decode cX5_place 102 = .ok (.iconst 1, 1) := by decide +kernel
theorem dX5_place_103 : decode cX5_place 103 = .ok (.iload_n 1, 1) := by decide +kernel
theorem dX5_place_104 : decode cX5_place 104 = .ok (.ishl, 1) := by decide +kernel
theorem dX5_place_105 : decode cX5_place 105 = .ok (.iconst (-1), 1) := by decide +kernel
theorem dX5_place_106 : decode cX5_place 106 = .ok (.ixor, 1) := by decide +kernel
theorem dX5_place_107 : decode cX5_place 107 = .ok (.iand, 1) := by decide +kernel
theorem dX5_place_108 : decode cX5_place 108 = .ok (.ior, 1) := by decide +kernel
theorem dX5_place_109 : decode cX5_place 109 = .ok (.istore_n 2, 1) := by decide +kernel
theorem dX5_place_110 : decode cX5_place 110 = .ok (.iinc 3 1, 3) := by decide +kernel
theorem dX5_place_113 : decode cX5_place 113 = .ok (.goto (-82), 3) := by decide +kernel
theorem dX5_place_116 : decode cX5_place 116 = .ok (.iload_n 2, 1) := by decide +kernel
theorem dX5_place_117 : decode cX5_place 117 = .ok (.ireturn, 1) := by decide +kernel
theorem dX5_lowerTooNear_0 : decode cX5_lowerTooNear 0 = .ok (.iconst 0, 1) := by decide +kernel
theorem dX5_lowerTooNear_1 : decode cX5_lowerTooNear 1 = .ok (.istore_n 3, 1) := by decide +kernel
theorem dX5_lowerTooNear_2 : decode cX5_lowerTooNear 2 = .ok (.iload_n 3, 1) := by decide +kernel
theorem dX5_lowerTooNear_3 : decode cX5_lowerTooNear 3 = .ok (.iload_n 1, 1) := by decide +kernel
theorem dX5_lowerTooNear_4 : decode cX5_lowerTooNear 4 = .ok (.if_icmp .ge 55, 3) := by decide +kernel
theorem dX5_lowerTooNear_7 : decode cX5_lowerTooNear 7 = .ok (.iload_n 2, 1) := by decide +kernel
theorem dX5_lowerTooNear_8 : decode cX5_lowerTooNear 8 = .ok (.aload_n 0, 1) := by decide +kernel
theorem dX5_lowerTooNear_9 : decode cX5_lowerTooNear 9 = .ok (.getfield 14, 3) := by decide +kernel
theorem dX5_lowerTooNear_12 : decode cX5_lowerTooNear 12 = .ok (.iload_n 3, 1) := by decide +kernel
theorem dX5_lowerTooNear_13 : decode cX5_lowerTooNear 13 = .ok (.invokevirtual 65, 3) := by decide +kernel
theorem dX5_lowerTooNear_16 : decode cX5_lowerTooNear 16 = .ok (.isub, 1) := by decide +kernel
theorem dX5_lowerTooNear_17 : decode cX5_lowerTooNear 17 = .ok (.invokestatic 59, 3) := by decide +kernel
theorem dX5_lowerTooNear_20 : decode cX5_lowerTooNear 20 = .ok (.istore 4, 2) := by decide +kernel
theorem dX5_lowerTooNear_22 : decode cX5_lowerTooNear 22 = .ok (.iload_n 3, 1) := by decide +kernel
theorem dX5_lowerTooNear_23 : decode cX5_lowerTooNear 23 = .ok (.aload_n 0, 1) := by decide +kernel
theorem dX5_lowerTooNear_24 : decode cX5_lowerTooNear 24 = .ok (.getfield 72, 3) := by decide +kernel
theorem dX5_lowerTooNear_27 : decode cX5_lowerTooNear 27 = .ok (.invokestatic 79, 3) := by decide +kernel
theorem dX5_lowerTooNear_30 : decode cX5_lowerTooNear 30 = .ok (.ifCond .eq 23, 3) := by decide +kernel
theorem dX5_lowerTooNear_33 : decode cX5_lowerTooNear 33 = .ok (.iload 4, 2) := by decide +kernel
theorem dX5_lowerTooNear_35 : decode cX5_lowerTooNear 35 = .ok (.aload_n 0, 1) := by decide +kernel
theorem dX5_lowerTooNear_36 : decode cX5_lowerTooNear 36 = .ok (.getfield 20, 3) := by decide +kernel
theorem dX5_lowerTooNear_39 : decode cX5_lowerTooNear 39 = .ok (.iload_n 1, 1) := by decide +kernel
theorem dX5_lowerTooNear_40 : decode cX5_lowerTooNear 40 = .ok (.bipush 8, 2) := by decide +kernel
theorem dX5_lowerTooNear_42 : decode cX5_lowerTooNear 42 = .ok (.imul, 1) := by decide +kernel
theorem dX5_lowerTooNear_43 : decode cX5_lowerTooNear 43 = .ok (.iload_n 3, 1) := by decide +kernel
theorem dX5_lowerTooNear_44 : decode cX5_lowerTooNear 44 = .ok (.iadd, 1) := by decide +kernel
theorem dX5_lowerTooNear_45 : decode cX5_lowerTooNear 45 = .ok (.invokevirtual 65, 3) := by decide +kernel
theorem dX5_lowerTooNear_48 : decode cX5_lowerTooNear 48 = .ok (.if_icmp .ge 5, 3) := by decide +kernel
theorem dX5_lowerTooNear_51 : decode cX5_lowerTooNear 51 = .ok (.iload_n 3, 1) := by decide +kernel
theorem dX5_lowerTooNear_52 : decode cX5_lowerTooNear 52 = .ok (.ireturn, 1) := by decide +kernel
theorem dX5_lowerTooNear_53 : decode cX5_lowerTooNear 53 = .ok (.iinc 3 1, 3) := by decide +kernel
theorem dX5_lowerTooNear_56 : decode cX5_lowerTooNear 56 = .ok (.goto (-54), 3) := by decide +kernel
theorem dX5_lowerTooNear_59 : decode cX5_lowerTooNear 59 = .ok (.iconst (-1), 1) := by decide +kernel
theorem dX5_lowerTooNear_60 : decode cX5_lowerTooNear 60 = .ok (.ireturn, 1) := by decide +kernel
theorem dX5_leastSpacing_0 : decode cX5_leastSpacing 0 = .ok (.iconst 0, 1) := by decide +kernel
theorem dX5_leastSpacing_1 : decode cX5_leastSpacing 1 = .ok (.istore_n 3, 1) := by decide +kernel
theorem dX5_leastSpacing_2 : decode cX5_leastSpacing 2 = .ok (.iload_n 3, 1) := by decide +kernel
theorem dX5_leastSpacing_3 : decode cX5_leastSpacing 3 = .ok (.iconst 3, 1) := by decide +kernel
theorem dX5_leastSpacing_4 : decode cX5_leastSpacing 4 = .ok (.if_icmp .ge 19, 3) := by decide +kernel
theorem dX5_leastSpacing_7 : decode cX5_leastSpacing 7 = .ok (.aload_n 0, 1) := by decide +kernel
theorem dX5_leastSpacing_8 : decode cX5_leastSpacing 8 = .ok (.aload_n 1, 1) := by decide +kernel
theorem dX5_leastSpacing_9 : decode cX5_leastSpacing 9 = .ok (.aload_n 2, 1) := by decide +kernel
theorem dX5_leastSpacing_10 : decode cX5_leastSpacing 10 = .ok (.iload_n 3, 1) := by decide +kernel
theorem dX5_leastSpacing_11 : decode cX5_leastSpacing 11 = .ok (.invokevirtual 87, 3) := by decide +kernel
theorem dX5_leastSpacing_14 : decode cX5_leastSpacing 14 = .ok (.ifCond .eq 9, 3) := by decide +kernel
theorem dX5_leastSpacing_17 : decode cX5_leastSpacing 17 = .ok (.iinc 3 1, 3) := by decide +kernel
theorem dX5_leastSpacing_20 : decode cX5_leastSpacing 20 = .ok (.goto (-18), 3) := by decide +kernel
theorem dX5_leastSpacing_23 : decode cX5_leastSpacing 23 = .ok (.iload_n 3, 1) := by decide +kernel
theorem dX5_leastSpacing_24 : decode cX5_leastSpacing 24 = .ok (.ireturn, 1) := by decide +kernel
theorem dX6_init_0 : decode cX6_init 0 = .ok (.aload_n 0, 1) := by decide +kernel
theorem dX6_init_1 : decode cX6_init 1 = .ok (.invokespecial 3, 3) := by decide +kernel
theorem dX6_init_4 : decode cX6_init 4 = .ok (.aload_n 0, 1) := by decide +kernel
theorem dX6_init_5 : decode cX6_init 5 = .ok (.new 9, 3) := by decide +kernel
theorem dX6_init_8 : decode cX6_init 8 = .ok (.dup, 1) := by decide +kernel
theorem dX6_init_9 : decode cX6_init 9 = .ok (.bipush 8, 2) := by decide +kernel
theorem dX6_init_11 : decode cX6_init 11 = .ok (.iconst (-1), 1) := by decide +kernel
theorem dX6_init_12 : decode cX6_init 12 = .ok (.invokespecial 11, 3) := by decide +kernel
theorem dX6_init_15 : decode cX6_init 15 = .ok (.putfield 14, 3) := by decide +kernel
theorem dX6_init_18 : decode cX6_init 18 = .ok (.aload_n 0, 1) := by decide +kernel
theorem dX6_init_19 : decode cX6_init 19 = .ok (.new 9, 3) := by decide +kernel
theorem dX6_init_22 : decode cX6_init 22 = .ok (.dup, 1) := by decide +kernel
theorem dX6_init_23 : decode cX6_init 23 = .ok (.bipush 8, 2) := by decide +kernel
theorem dX6_init_25 : decode cX6_init 25 = .ok (.iconst 0, 1) := by decide +kernel
theorem dX6_init_26 : decode cX6_init 26 = .ok (.invokespecial 11, 3) := by decide +kernel
theorem dX6_init_29 : decode cX6_init 29 = .ok (.putfield 20, 3) := by decide +kernel
theorem dX6_init_32 : decode cX6_init 32 = .ok (.aload_n 0, 1) := by decide +kernel
theorem dX6_init_33 : decode cX6_init 33 = .ok (.new 9, 3) := by decide +kernel
theorem dX6_init_36 : decode cX6_init 36 = .ok (.dup, 1) := by decide +kernel
theorem dX6_init_37 : decode cX6_init 37 = .ok (.sipush 2048, 3) := by decide +kernel
theorem dX6_init_40 : decode cX6_init 40 = .ok (.iconst 0, 1) := by decide +kernel
theorem dX6_init_41 : decode cX6_init 41 = .ok (.invokespecial 11, 3) := by decide +kernel
theorem dX6_init_44 : decode cX6_init 44 = .ok (.putfield 23, 3) := by decide +kernel
theorem dX6_init_47 : decode cX6_init 47 = .ok (.aload_n 0, 1) := by decide +kernel
theorem dX6_init_48 : decode cX6_init 48 = .ok (.new 9, 3) := by decide +kernel
theorem dX6_init_51 : decode cX6_init 51 = .ok (.dup, 1) := by decide +kernel
theorem dX6_init_52 : decode cX6_init 52 = .ok (.sipush 2048, 3) := by decide +kernel
theorem dX6_init_55 : decode cX6_init 55 = .ok (.iconst (-1), 1) := by decide +kernel
theorem dX6_init_56 : decode cX6_init 56 = .ok (.invokespecial 11, 3) := by decide +kernel
theorem dX6_init_59 : decode cX6_init 59 = .ok (.putfield 26, 3) := by decide +kernel
theorem dX6_init_62 : decode cX6_init 62 = .ok (.return_, 1) := by decide +kernel
theorem dX6_change_0 : decode cX6_change 0 = .ok (.aload_n 0, 1) := by decide +kernel
theorem dX6_change_1 : decode cX6_change 1 = .ok (.getfield 14, 3) := by decide +kernel
theorem dX6_change_4 : decode cX6_change 4 = .ok (.iload_n 1, 1) := by decide +kernel
theorem dX6_change_5 : decode cX6_change 5 = .ok (.invokevirtual 29, 3) := by decide +kernel
theorem dX6_change_8 : decode cX6_change 8 = .ok (.iload_n 2, 1) := by decide +kernel
theorem dX6_change_9 : decode cX6_change 9 = .ok (.if_icmp .eq 18, 3) := by decide +kernel
theorem dX6_change_12 : decode cX6_change 12 = .ok (.aload_n 0, 1) := by decide +kernel
theorem dX6_change_13 : decode cX6_change 13 = .ok (.getfield 14, 3) := by decide +kernel
theorem dX6_change_16 : decode cX6_change 16 = .ok (.iload_n 1, 1) := by decide +kernel
theorem dX6_change_17 : decode cX6_change 17 = .ok (.iload_n 2, 1) := by decide +kernel
theorem dX6_change_18 : decode cX6_change 18 = .ok (.invokevirtual 33, 3) := by decide +kernel
theorem dX6_change_21 : decode cX6_change 21 = .ok (.aload_n 0, 1) := by decide +kernel
theorem dX6_change_22 : decode cX6_change 22 = .ok (.iload_n 1, 1) := by decide +kernel
theorem dX6_change_23 : decode cX6_change 23 = .ok (.iload_n 2, 1) := by decide +kernel
theorem dX6_change_24 : decode cX6_change 24 = .ok (.invokevirtual 36, 3) := by decide +kernel
theorem dX6_change_27 : decode cX6_change 27 = .ok (.return_, 1) := by decide +kernel
theorem dX6_channelAt_0 : decode cX6_channelAt 0 = .ok (.aload_n 0, 1) := by decide +kernel
theorem dX6_channelAt_1 : decode cX6_channelAt 1 = .ok (.getfield 20, 3) := by decide +kernel
theorem dX6_channelAt_4 : decode cX6_channelAt 4 = .ok (.iload_n 1, 1) := by decide +kernel
theorem dX6_channelAt_5 : decode cX6_channelAt 5 = .ok (.invokevirtual 29, 3) := by decide +kernel
theorem dX6_channelAt_8 : decode cX6_channelAt 8 = .ok (.iconst 1, 1) := by decide +kernel
theorem dX6_channelAt_9 : decode cX6_channelAt 9 = .ok (.isub, 1) := by decide +kernel
theorem dX6_channelAt_10 : decode cX6_channelAt 10 = .ok (.istore_n 3, 1) := by decide +kernel
theorem dX6_channelAt_11 : decode cX6_channelAt 11 = .ok (.iload_n 3, 1) := by decide +kernel
theorem dX6_channelAt_12 : decode cX6_channelAt 12 = .ok (.ifCond .lt 38, 3) := by decide +kernel
theorem dX6_channelAt_15 : decode cX6_channelAt 15 = .ok (.aload_n 0, 1) := by decide +kernel
theorem dX6_channelAt_16 : decode cX6_channelAt 16 = .ok (.getfield 23, 3) := by decide +kernel
theorem dX6_channelAt_19 : decode cX6_channelAt 19 = .ok (.iload_n 1, 1) := by decide +kernel
theorem dX6_channelAt_20 : decode cX6_channelAt 20 = .ok (.iload_n 3, 1) := by decide +kernel
theorem dX6_channelAt_21 : decode cX6_channelAt 21 = .ok (.invokestatic 39, 3) := by decide +kernel
theorem dX6_channelAt_24 : decode cX6_channelAt 24 = .ok (.invokevirtual 29, 3) := by decide +kernel
theorem dX6_channelAt_27 : decode cX6_channelAt 27 = .ok (.iload_n 2, 1) := by decide +kernel
theorem dX6_channelAt_28 : decode cX6_channelAt 28 = .ok (.if_icmp .gt 16, 3) := by decide +kernel
theorem dX6_channelAt_31 : decode cX6_channelAt 31 = .ok (.aload_n 0, 1) := by decide +kernel
theorem dX6_channelAt_32 : decode cX6_channelAt 32 = .ok (.getfield 26, 3) := by decide +kernel
theorem dX6_channelAt_35 : decode cX6_channelAt 35 = .ok (.iload_n 1, 1) := by decide +kernel
theorem dX6_channelAt_36 : decode cX6_channelAt 36 = .ok (.iload_n 3, 1) := by decide +kernel
theorem dX6_channelAt_37 : decode cX6_channelAt 37 = .ok (.invokestatic 39, 3) := by decide +kernel
theorem dX6_channelAt_40 : decode cX6_channelAt 40 = .ok (.invokevirtual 29, 3) := by decide +kernel
theorem dX6_channelAt_43 : decode cX6_channelAt 43 = .ok (.ireturn, 1) := by decide +kernel
theorem dX6_channelAt_44 : decode cX6_channelAt 44 = .ok (.iinc 3 (-1), 3) := by decide +kernel
theorem dX6_channelAt_47 : decode cX6_channelAt 47 = .ok (.goto (-36), 3) := by decide +kernel
theorem dX6_channelAt_50 : decode cX6_channelAt 50 = .ok (.iconst (-1), 1) := by decide +kernel
theorem dX6_channelAt_51 : decode cX6_channelAt 51 = .ok (.ireturn, 1) := by decide +kernel
theorem dX6_onesOn_0 : decode cX6_onesOn 0 = .ok (.iconst 0, 1) := by decide +kernel
theorem dX6_onesOn_1 : decode cX6_onesOn 1 = .ok (.istore_n 1, 1) := by decide +kernel
theorem dX6_onesOn_2 : decode cX6_onesOn 2 = .ok (.iconst 0, 1) := by decide +kernel
theorem dX6_onesOn_3 : decode cX6_onesOn 3 = .ok (.istore_n 2, 1) := by decide +kernel
theorem dX6_onesOn_4 : decode cX6_onesOn 4 = .ok (.iload_n 2, 1) := by decide +kernel
theorem dX6_onesOn_5 : decode cX6_onesOn 5 = .ok (.bipush 8, 2) := by decide +kernel
theorem dX6_onesOn_7 : decode cX6_onesOn 7 = .ok (.if_icmp .ge 27, 3) := by decide +kernel
theorem dX6_onesOn_10 : decode cX6_onesOn 10 = .ok (.aload_n 0, 1) := by decide +kernel
theorem dX6_onesOn_11 : decode cX6_onesOn 11 = .ok (.getfield 14, 3) := by decide +kernel
theorem dX6_onesOn_14 : decode cX6_onesOn 14 = .ok (.iload_n 2, 1) := by decide +kernel
theorem dX6_onesOn_15 : decode cX6_onesOn 15 = .ok (.invokevirtual 29, 3) := by decide +kernel
theorem dX6_onesOn_18 : decode cX6_onesOn 18 = .ok (.iconst (-1), 1) := by decide +kernel
theorem dX6_onesOn_19 : decode cX6_onesOn 19 = .ok (.if_icmp .eq 9, 3) := by decide +kernel
theorem dX6_onesOn_22 : decode cX6_onesOn 22 = .ok (.iload_n 1, 1) := by decide +kernel
theorem dX6_onesOn_23 : decode cX6_onesOn 23 = .ok (.iconst 1, 1) := by decide +kernel
theorem dX6_onesOn_24 : decode cX6_onesOn 24 = .ok (.iload_n 2, 1) := by decide +kernel
theorem dX6_onesOn_25 : decode cX6_onesOn 25 = .ok (.ishl, 1) := by decide +kernel
theorem dX6_onesOn_26 : decode cX6_onesOn 26 = .ok (.ior, 1) := by decide +kernel
theorem dX6_onesOn_27 : decode cX6_onesOn 27 = .ok (.istore_n 1, 1) := by decide +kernel
theorem dX6_onesOn_28 : decode cX6_onesOn 28 = .ok (.iinc 2 1, 3) := by decide +kernel
theorem dX6_onesOn_31 : decode cX6_onesOn 31 = .ok (.goto (-27), 3) := by decide +kernel
theorem dX6_onesOn_34 : decode cX6_onesOn 34 = .ok (.iload_n 1, 1) := by decide +kernel
theorem dX6_onesOn_35 : decode cX6_onesOn 35 = .ok (.ireturn, 1) := by decide +kernel
theorem dX6_holdsToday_0 : decode cX6_holdsToday 0 = .ok (.iconst 0, 1) := by decide +kernel
theorem dX6_holdsToday_1 : decode cX6_holdsToday 1 = .ok (.istore_n 1, 1) := by decide +kernel
theorem dX6_holdsToday_2 : decode cX6_holdsToday 2 = .ok (.iload_n 1, 1) := by decide +kernel
theorem dX6_holdsToday_3 : decode cX6_holdsToday 3 = .ok (.bipush 8, 2) := by decide +kernel
theorem dX6_holdsToday_5 : decode cX6_holdsToday 5 = .ok (.if_icmp .ge 31, 3) := by decide +kernel
theorem dX6_holdsToday_8 : decode cX6_holdsToday 8 = .ok (.aload_n 0, 1) := by decide +kernel
theorem dX6_holdsToday_9 : decode cX6_holdsToday 9 = .ok (.iload_n 1, 1) := by decide +kernel
theorem dX6_holdsToday_10 : decode cX6_holdsToday 10 = .ok (.aload_n 0, 1) := by decide +kernel
theorem dX6_holdsToday_11 : decode cX6_holdsToday 11 = .ok (.getfield 43, 3) := by decide +kernel
theorem dX6_holdsToday_14 : decode cX6_holdsToday 14 = .ok (.invokevirtual 47, 3) := by decide +kernel
theorem dX6_holdsToday_17 : decode cX6_holdsToday 17 = .ok (.aload_n 0, 1) := by decide +kernel
theorem dX6_holdsToday_18 : decode cX6_holdsToday 18 = .ok (.getfield 14, 3) := by decide +kernel
theorem dX6_holdsToday_21 : decode cX6_holdsToday 21 = .ok (.iload_n 1, 1) := by decide +kernel
theorem dX6_holdsToday_22 : decode cX6_holdsToday 22 = .ok (.invokevirtual 29, 3) := by decide +kernel
theorem dX6_holdsToday_25 : decode cX6_holdsToday 25 = .ok (.if_icmp .eq 5, 3) := by decide +kernel
theorem dX6_holdsToday_28 : decode cX6_holdsToday 28 = .ok (.iconst 0, 1) := by decide +kernel
theorem dX6_holdsToday_29 : decode cX6_holdsToday 29 = .ok (.ireturn, 1) := by decide +kernel
theorem dX6_holdsToday_30 : decode cX6_holdsToday 30 = .ok (.iinc 1 1, 3) := by decide +kernel
theorem dX6_holdsToday_33 : decode cX6_holdsToday 33 = .ok (.goto (-31), 3) := by decide +kernel
theorem dX6_holdsToday_36 : decode cX6_holdsToday 36 = .ok (.iconst 1, 1) := by decide +kernel
theorem dX6_holdsToday_37 : decode cX6_holdsToday 37 = .ok (.ireturn, 1) := by decide +kernel
theorem dX6_write_0 : decode cX6_write 0 = .ok (.aload_n 0, 1) := by decide +kernel
theorem dX6_write_1 : decode cX6_write 1 = .ok (.getfield 20, 3) := by decide +kernel
theorem dX6_write_4 : decode cX6_write 4 = .ok (.iload_n 1, 1) := by decide +kernel
theorem dX6_write_5 : decode cX6_write 5 = .ok (.invokevirtual 29, 3) := by decide +kernel
theorem dX6_write_8 : decode cX6_write 8 = .ok (.istore_n 3, 1) := by decide +kernel
theorem dX6_write_9 : decode cX6_write 9 = .ok (.iload_n 3, 1) := by decide +kernel
theorem dX6_write_10 : decode cX6_write 10 = .ok (.ifCond .le 28, 3) := by decide +kernel
theorem dX6_write_13 : decode cX6_write 13 = .ok (.aload_n 0, 1) := by decide +kernel
theorem dX6_write_14 : decode cX6_write 14 = .ok (.getfield 23, 3) := by decide +kernel
theorem dX6_write_17 : decode cX6_write 17 = .ok (.iload_n 1, 1) := by decide +kernel
theorem dX6_write_18 : decode cX6_write 18 = .ok (.iload_n 3, 1) := by decide +kernel
theorem dX6_write_19 : decode cX6_write 19 = .ok (.iconst 1, 1) := by decide +kernel
theorem dX6_write_20 : decode cX6_write 20 = .ok (.isub, 1) := by decide +kernel
theorem dX6_write_21 : decode cX6_write 21 = .ok (.invokestatic 39, 3) := by decide +kernel
theorem dX6_write_24 : decode cX6_write 24 = .ok (.invokevirtual 29, 3) := by decide +kernel
theorem dX6_write_27 : decode cX6_write 27 = .ok (.aload_n 0, 1) := by decide +kernel
theorem dX6_write_28 : decode cX6_write 28 = .ok (.getfield 43, 3) := by decide +kernel
theorem dX6_write_31 : decode cX6_write 31 = .ok (.if_icmp .ne 7, 3) := by decide +kernel
theorem dX6_write_34 : decode cX6_write 34 = .ok (.iconst 1, 1) := by decide +kernel
theorem dX6_write_35 : decode cX6_write 35 = .ok (.goto 4, 3) := by decide +kernel
theorem dX6_write_38 : decode cX6_write 38 = .ok (.iconst 0, 1) := by decide +kernel
theorem dX6_write_39 : decode cX6_write 39 = .ok (.istore 4, 2) := by decide +kernel
theorem dX6_write_41 : decode cX6_write 41 = .ok (.iload 4, 2) := by decide +kernel
theorem dX6_write_43 : decode cX6_write 43 = .ok (.ifCond .ne 22, 3) := by decide +kernel
theorem dX6_write_46 : decode cX6_write 46 = .ok (.iload_n 3, 1) := by decide +kernel
theorem dX6_write_47 : decode cX6_write 47 = .ok (.sipush 256, 3) := by decide +kernel
theorem dX6_write_50 : decode cX6_write 50 = .ok (.if_icmp .ge 15, 3) := by decide +kernel
theorem dX6_write_53 : decode cX6_write 53 = .ok (.iinc 3 1, 3) := by decide +kernel
theorem dX6_write_56 : decode cX6_write 56 = .ok (.aload_n 0, 1) := by decide +kernel
theorem dX6_write_57 : decode cX6_write 57 = .ok (.getfield 20, 3) := by decide +kernel
theorem dX6_write_60 : decode cX6_write 60 = .ok (.iload_n 1, 1) := by decide +kernel
theorem dX6_write_61 : decode cX6_write 61 = .ok (.iload_n 3, 1) := by decide +kernel
theorem dX6_write_62 : decode cX6_write 62 = .ok (.invokevirtual 33, 3) := by decide +kernel
theorem dX6_write_65 : decode cX6_write 65 = .ok (.aload_n 0, 1) := by decide +kernel
theorem dX6_write_66 : decode cX6_write 66 = .ok (.getfield 23, 3) := by decide +kernel
theorem dX6_write_69 : decode cX6_write 69 = .ok (.iload_n 1, 1) := by decide +kernel
theorem dX6_write_70 : decode cX6_write 70 = .ok (.iload_n 3, 1) := by decide +kernel
theorem dX6_write_71 : decode cX6_write 71 = .ok (.iconst 1, 1) := by decide +kernel
theorem dX6_write_72 : decode cX6_write 72 = .ok (.isub, 1) := by decide +kernel
theorem dX6_write_73 : decode cX6_write 73 = .ok (.invokestatic 39, 3) := by decide +kernel
theorem dX6_write_76 : decode cX6_write 76 = .ok (.aload_n 0, 1) := by decide +kernel
theorem dX6_write_77 : decode cX6_write 77 = .ok (.getfield 43, 3) := by decide +kernel
theorem dX6_write_80 : decode cX6_write 80 = .ok (.invokevirtual 33, 3) := by decide +kernel
theorem dX6_write_83 : decode cX6_write 83 = .ok (.aload_n 0, 1) := by decide +kernel
theorem dX6_write_84 : decode cX6_write 84 = .ok (.getfield 26, 3) := by decide +kernel
theorem dX6_write_87 : decode cX6_write 87 = .ok (.iload_n 1, 1) := by decide +kernel
theorem dX6_write_88 : decode cX6_write 88 = .ok (.iload_n 3, 1) := by decide +kernel
theorem dX6_write_89 : decode cX6_write 89 = .ok (.iconst 1, 1) := by decide +kernel
theorem dX6_write_90 : decode cX6_write 90 = .ok (.isub, 1) := by decide +kernel
theorem dX6_write_91 : decode cX6_write 91 = .ok (.invokestatic 39, 3) := by decide +kernel
theorem dX6_write_94 : decode cX6_write 94 = .ok (.iload_n 2, 1) := by decide +kernel
theorem dX6_write_95 : decode cX6_write 95 = .ok (.invokevirtual 33, 3) := by decide +kernel
theorem dX6_write_98 : decode cX6_write 98 = .ok (.return_, 1) := by decide +kernel
theorem dX6_lineOf_0 : decode cX6_lineOf 0 = .ok (.iload_n 0, 1) := by decide +kernel
theorem dX6_lineOf_1 : decode cX6_lineOf 1 = .ok (.sipush 256, 3) := by decide +kernel
theorem dX6_lineOf_4 : decode cX6_lineOf 4 = .ok (.imul, 1) := by decide +kernel
theorem dX6_lineOf_5 : decode cX6_lineOf 5 = .ok (.iload_n 1, 1) := by decide +kernel
theorem dX6_lineOf_6 : decode cX6_lineOf 6 = .ok (.iadd, 1) := by decide +kernel
theorem dX6_lineOf_7 : decode cX6_lineOf 7 = .ok (.ireturn, 1) := by decide +kernel
theorem dX7_init_0 : decode cX7_init 0 = .ok (.aload_n 0, 1) := by decide +kernel
theorem dX7_init_1 : decode cX7_init 1 = .ok (.invokespecial 1, 3) := by decide +kernel
theorem dX7_init_4 : decode cX7_init 4 = .ok (.aload_n 0, 1) := by decide +kernel
theorem dX7_init_5 : decode cX7_init 5 = .ok (.iload_n 1, 1) := by decide +kernel
theorem dX7_init_6 : decode cX7_init 6 = .ok (.ifCond .ge 7, 3) := by decide +kernel
theorem dX7_init_9 : decode cX7_init 9 = .ok (.iconst 0, 1) := by decide +kernel
theorem dX7_init_10 : decode cX7_init 10 = .ok (.goto 4, 3) := by decide +kernel
theorem dX7_init_13 : decode cX7_init 13 = .ok (.iload_n 1, 1) := by decide +kernel
theorem dX7_init_14 : decode cX7_init 14 = .ok (.newarray .int, 2) := by decide +kernel
theorem dX7_init_16 : decode cX7_init 16 = .ok (.putfield 7, 3) := by decide +kernel
theorem dX7_init_19 : decode cX7_init 19 = .ok (.iconst 0, 1) := by decide +kernel
theorem dX7_init_20 : decode cX7_init 20 = .ok (.istore_n 3, 1) := by decide +kernel
theorem dX7_init_21 : decode cX7_init 21 = .ok (.iload_n 3, 1) := by decide +kernel
theorem dX7_init_22 : decode cX7_init 22 = .ok (.aload_n 0, 1) := by decide +kernel
theorem dX7_init_23 : decode cX7_init 23 = .ok (.getfield 7, 3) := by decide +kernel
theorem dX7_init_26 : decode cX7_init 26 = .ok (.arraylength, 1) := by decide +kernel
theorem dX7_init_27 : decode cX7_init 27 = .ok (.if_icmp .ge 16, 3) := by decide +kernel
theorem dX7_init_30 : decode cX7_init 30 = .ok (.aload_n 0, 1) := by decide +kernel
theorem dX7_init_31 : decode cX7_init 31 = .ok (.getfield 7, 3) := by decide +kernel
theorem dX7_init_34 : decode cX7_init 34 = .ok (.iload_n 3, 1) := by decide +kernel
theorem dX7_init_35 : decode cX7_init 35 = .ok (.iload_n 2, 1) := by decide +kernel
theorem dX7_init_36 : decode cX7_init 36 = .ok (.iastore, 1) := by decide +kernel
theorem dX7_init_37 : decode cX7_init 37 = .ok (.iinc 3 1, 3) := by decide +kernel
theorem dX7_init_40 : decode cX7_init 40 = .ok (.goto (-19), 3) := by decide +kernel
theorem dX7_init_43 : decode cX7_init 43 = .ok (.return_, 1) := by decide +kernel
theorem dX7_at_0 : decode cX7_at 0 = .ok (.iload_n 1, 1) := by decide +kernel
theorem dX7_at_1 : decode cX7_at 1 = .ok (.ifCond .lt 21, 3) := by decide +kernel
theorem dX7_at_4 : decode cX7_at 4 = .ok (.iload_n 1, 1) := by decide +kernel
theorem dX7_at_5 : decode cX7_at 5 = .ok (.aload_n 0, 1) := by decide +kernel
theorem dX7_at_6 : decode cX7_at 6 = .ok (.getfield 7, 3) := by decide +kernel
theorem dX7_at_9 : decode cX7_at 9 = .ok (.arraylength, 1) := by decide +kernel
theorem dX7_at_10 : decode cX7_at 10 = .ok (.if_icmp .ge 12, 3) := by decide +kernel
theorem dX7_at_13 : decode cX7_at 13 = .ok (.aload_n 0, 1) := by decide +kernel
theorem dX7_at_14 : decode cX7_at 14 = .ok (.getfield 7, 3) := by decide +kernel
theorem dX7_at_17 : decode cX7_at 17 = .ok (.iload_n 1, 1) := by decide +kernel
theorem dX7_at_18 : decode cX7_at 18 = .ok (.iaload, 1) := by decide +kernel
theorem dX7_at_19 : decode cX7_at 19 = .ok (.goto 4, 3) := by decide +kernel
theorem dX7_at_22 : decode cX7_at 22 = .ok (.iconst 0, 1) := by decide +kernel
theorem dX7_at_23 : decode cX7_at 23 = .ok (.ireturn, 1) := by decide +kernel
theorem dX7_put_0 : decode cX7_put 0 = .ok (.iload_n 1, 1) := by decide +kernel
theorem dX7_put_1 : decode cX7_put 1 = .ok (.ifCond .lt 19, 3) := by decide +kernel
theorem dX7_put_4 : decode cX7_put 4 = .ok (.iload_n 1, 1) := by decide +kernel
theorem dX7_put_5 : decode cX7_put 5 = .ok (.aload_n 0, 1) := by decide +kernel
theorem dX7_put_6 : decode cX7_put 6 = .ok (.getfield 7, 3) := by decide +kernel
theorem dX7_put_9 : decode cX7_put 9 = .ok (.arraylength, 1) := by decide +kernel
theorem dX7_put_10 : decode cX7_put 10 = .ok (.if_icmp .ge 10, 3) := by decide +kernel
theorem dX7_put_13 : decode cX7_put 13 = .ok (.aload_n 0, 1) := by decide +kernel
theorem dX7_put_14 : decode cX7_put 14 = .ok (.getfield 7, 3) := by decide +kernel
theorem dX7_put_17 : decode cX7_put 17 = .ok (.iload_n 1, 1) := by decide +kernel
theorem dX7_put_18 : decode cX7_put 18 = .ok (.iload_n 2, 1) := by decide +kernel
theorem dX7_put_19 : decode cX7_put 19 = .ok (.iastore, 1) := by decide +kernel
theorem dX7_put_20 : decode cX7_put 20 = .ok (.return_, 1) := by decide +kernel
theorem dX7_fillWith_0 : decode cX7_fillWith 0 = .ok (.iconst 0, 1) := by decide +kernel
theorem dX7_fillWith_1 : decode cX7_fillWith 1 = .ok (.istore_n 2, 1) := by decide +kernel
theorem dX7_fillWith_2 : decode cX7_fillWith 2 = .ok (.iload_n 2, 1) := by decide +kernel
theorem dX7_fillWith_3 : decode cX7_fillWith 3 = .ok (.aload_n 0, 1) := by decide +kernel
theorem dX7_fillWith_4 : decode cX7_fillWith 4 = .ok (.getfield 7, 3) := by decide +kernel
theorem dX7_fillWith_7 : decode cX7_fillWith 7 = .ok (.arraylength, 1) := by decide +kernel
theorem dX7_fillWith_8 : decode cX7_fillWith 8 = .ok (.if_icmp .ge 16, 3) := by decide +kernel
theorem dX7_fillWith_11 : decode cX7_fillWith 11 = .ok (.aload_n 0, 1) := by decide +kernel
theorem dX7_fillWith_12 : decode cX7_fillWith 12 = .ok (.getfield 7, 3) := by decide +kernel
theorem dX7_fillWith_15 : decode cX7_fillWith 15 = .ok (.iload_n 2, 1) := by decide +kernel
theorem dX7_fillWith_16 : decode cX7_fillWith 16 = .ok (.iload_n 1, 1) := by decide +kernel
theorem dX7_fillWith_17 : decode cX7_fillWith 17 = .ok (.iastore, 1) := by decide +kernel
theorem dX7_fillWith_18 : decode cX7_fillWith 18 = .ok (.iinc 2 1, 3) := by decide +kernel
theorem dX7_fillWith_21 : decode cX7_fillWith 21 = .ok (.goto (-19), 3) := by decide +kernel
theorem dX7_fillWith_24 : decode cX7_fillWith 24 = .ok (.return_, 1) := by decide +kernel
theorem dX7_copyFrom_0 : decode cX7_copyFrom 0 = .ok (.iconst 0, 1) := by decide +kernel
theorem dX7_copyFrom_1 : decode cX7_copyFrom 1 = .ok (.istore_n 2, 1) := by decide +kernel
theorem dX7_copyFrom_2 : decode cX7_copyFrom 2 = .ok (.iload_n 2, 1) := by decide +kernel
theorem dX7_copyFrom_3 : decode cX7_copyFrom 3 = .ok (.aload_n 0, 1) := by decide +kernel
theorem dX7_copyFrom_4 : decode cX7_copyFrom 4 = .ok (.getfield 7, 3) := by decide +kernel
theorem dX7_copyFrom_7 : decode cX7_copyFrom 7 = .ok (.arraylength, 1) := by decide +kernel
theorem dX7_copyFrom_8 : decode cX7_copyFrom 8 = .ok (.if_icmp .ge 20, 3) := by decide +kernel
theorem dX7_copyFrom_11 : decode cX7_copyFrom 11 = .ok (.aload_n 0, 1) := by decide +kernel
theorem dX7_copyFrom_12 : decode cX7_copyFrom 12 = .ok (.getfield 7, 3) := by decide +kernel
theorem dX7_copyFrom_15 : decode cX7_copyFrom 15 = .ok (.iload_n 2, 1) := by decide +kernel
theorem dX7_copyFrom_16 : decode cX7_copyFrom 16 = .ok (.aload_n 1, 1) := by decide +kernel
theorem dX7_copyFrom_17 : decode cX7_copyFrom 17 = .ok (.iload_n 2, 1) := by decide +kernel
theorem dX7_copyFrom_18 : decode cX7_copyFrom 18 = .ok (.invokevirtual 13, 3) := by decide +kernel
theorem dX7_copyFrom_21 : decode cX7_copyFrom 21 = .ok (.iastore, 1) := by decide +kernel
theorem dX7_copyFrom_22 : decode cX7_copyFrom 22 = .ok (.iinc 2 1, 3) := by decide +kernel
theorem dX7_copyFrom_25 : decode cX7_copyFrom 25 = .ok (.goto (-23), 3) := by decide +kernel
theorem dX7_copyFrom_28 : decode cX7_copyFrom 28 = .ok (.return_, 1) := by decide +kernel
theorem dX8_init_0 : decode cX8_init 0 = .ok (.aload_n 0, 1) := by decide +kernel
theorem dX8_init_1 : decode cX8_init 1 = .ok (.invokespecial 3, 3) := by decide +kernel
theorem dX8_init_4 : decode cX8_init 4 = .ok (.aload_n 0, 1) := by decide +kernel
theorem dX8_init_5 : decode cX8_init 5 = .ok (.new 9, 3) := by decide +kernel
theorem dX8_init_8 : decode cX8_init 8 = .ok (.dup, 1) := by decide +kernel
theorem dX8_init_9 : decode cX8_init 9 = .ok (.bipush 8, 2) := by decide +kernel
theorem dX8_init_11 : decode cX8_init 11 = .ok (.iconst (-1), 1) := by decide +kernel
theorem dX8_init_12 : decode cX8_init 12 = .ok (.invokespecial 11, 3) := by decide +kernel
theorem dX8_init_15 : decode cX8_init 15 = .ok (.putfield 14, 3) := by decide +kernel
theorem dX8_init_18 : decode cX8_init 18 = .ok (.aload_n 0, 1) := by decide +kernel
theorem dX8_init_19 : decode cX8_init 19 = .ok (.new 9, 3) := by decide +kernel
theorem dX8_init_22 : decode cX8_init 22 = .ok (.dup, 1) := by decide +kernel
theorem dX8_init_23 : decode cX8_init 23 = .ok (.bipush 8, 2) := by decide +kernel
theorem dX8_init_25 : decode cX8_init 25 = .ok (.iconst 0, 1) := by decide +kernel
theorem dX8_init_26 : decode cX8_init 26 = .ok (.invokespecial 11, 3) := by decide +kernel
theorem dX8_init_29 : decode cX8_init 29 = .ok (.putfield 20, 3) := by decide +kernel
theorem dX8_init_32 : decode cX8_init 32 = .ok (.return_, 1) := by decide +kernel
theorem dX8_begin_0 : decode cX8_begin 0 = .ok (.aload_n 0, 1) := by decide +kernel
theorem dX8_begin_1 : decode cX8_begin 1 = .ok (.iload_n 1, 1) := by decide +kernel
theorem dX8_begin_2 : decode cX8_begin 2 = .ok (.putfield 23, 3) := by decide +kernel
theorem dX8_begin_5 : decode cX8_begin 5 = .ok (.aload_n 0, 1) := by decide +kernel
theorem dX8_begin_6 : decode cX8_begin 6 = .ok (.iconst 1, 1) := by decide +kernel
theorem dX8_begin_7 : decode cX8_begin 7 = .ok (.putfield 27, 3) := by decide +kernel
theorem dX8_begin_10 : decode cX8_begin 10 = .ok (.aload_n 0, 1) := by decide +kernel
theorem dX8_begin_11 : decode cX8_begin 11 = .ok (.iload_n 2, 1) := by decide +kernel
theorem dX8_begin_12 : decode cX8_begin 12 = .ok (.putfield 31, 3) := by decide +kernel
theorem dX8_begin_15 : decode cX8_begin 15 = .ok (.aload_n 0, 1) := by decide +kernel
theorem dX8_begin_16 : decode cX8_begin 16 = .ok (.iconst 0, 1) := by decide +kernel
theorem dX8_begin_17 : decode cX8_begin 17 = .ok (.putfield 34, 3) := by decide +kernel
theorem dX8_begin_20 : decode cX8_begin 20 = .ok (.aload_n 0, 1) := by decide +kernel
theorem dX8_begin_21 : decode cX8_begin 21 = .ok (.getfield 14, 3) := by decide +kernel
theorem dX8_begin_24 : decode cX8_begin 24 = .ok (.iconst (-1), 1) := by decide +kernel
theorem dX8_begin_25 : decode cX8_begin 25 = .ok (.invokevirtual 37, 3) := by decide +kernel
theorem dX8_begin_28 : decode cX8_begin 28 = .ok (.return_, 1) := by decide +kernel
theorem dX8_run_0 : decode cX8_run 0 = .ok (.iload_n 3, 1) := by decide +kernel
theorem dX8_run_1 : decode cX8_run 1 = .ok (.istore 6, 2) := by decide +kernel
theorem dX8_run_3 : decode cX8_run 3 = .ok (.iload 4, 2) := by decide +kernel
theorem dX8_run_5 : decode cX8_run 5 = .ok (.istore 7, 2) := by decide +kernel
theorem dX8_run_7 : decode cX8_run 7 = .ok (.iconst 0, 1) := by decide +kernel
theorem dX8_run_8 : decode cX8_run 8 = .ok (.istore 8, 2) := by decide +kernel
theorem dX8_run_10 : decode cX8_run 10 = .ok (.iload 8, 2) := by decide +kernel
theorem dX8_run_12 : decode cX8_run 12 = .ok (.sipush 9999, 3) := by decide +kernel
theorem dX8_run_15 : decode cX8_run 15 = .ok (.if_icmp .ge 55, 3) := by decide +kernel
theorem dX8_run_18 : decode cX8_run 18 = .ok (.iload 6, 2) := by decide +kernel
theorem dX8_run_20 : decode cX8_run 20 = .ok (.ifCond .eq 50, 3) := by decide +kernel
theorem dX8_run_23 : decode cX8_run 23 = .ok (.iload 7, 2) := by decide +kernel
theorem dX8_run_25 : decode cX8_run 25 = .ok (.iload 5, 2) := by decide +kernel
theorem dX8_run_27 : decode cX8_run 27 = .ok (.if_icmp .lt 43, 3) := by decide +kernel
theorem dX8_run_30 : decode cX8_run 30 = .ok (.aload_n 0, 1) := by decide +kernel
theorem dX8_run_31 : decode cX8_run 31 = .ok (.aload_n 1, 1) := by decide +kernel
theorem dX8_run_32 : decode cX8_run 32 = .ok (.aload_n 2, 1) := by decide +kernel
theorem dX8_run_33 : decode cX8_run 33 = .ok (.iload 6, 2) := by decide +kernel
theorem dX8_run_35 : decode cX8_run 35 = .ok (.iload 7, 2) := by decide +kernel
theorem dX8_run_37 : decode cX8_run 37 = .ok (.iload 7, 2) := by decide +kernel
theorem dX8_run_39 : decode cX8_run 39 = .ok (.iload 5, 2) := by decide +kernel
theorem dX8_run_41 : decode cX8_run 41 = .ok (.isub, 1) := by decide +kernel
theorem dX8_run_42 : decode cX8_run 42 = .ok (.invokevirtual 41, 3) := by decide +kernel
theorem dX8_run_45 : decode cX8_run 45 = .ok (.istore 6, 2) := by decide +kernel
theorem dX8_run_47 : decode cX8_run 47 = .ok (.iload 7, 2) := by decide +kernel
theorem dX8_run_49 : decode cX8_run 49 = .ok (.iload 5, 2) := by decide +kernel
theorem dX8_run_51 : decode cX8_run 51 = .ok (.isub, 1) := by decide +kernel
theorem dX8_run_52 : decode cX8_run 52 = .ok (.istore 7, 2) := by decide +kernel
theorem dX8_run_54 : decode cX8_run 54 = .ok (.aload_n 0, 1) := by decide +kernel
theorem dX8_run_55 : decode cX8_run 55 = .ok (.dup, 1) := by decide +kernel
theorem dX8_run_56 : decode cX8_run 56 = .ok (.getfield 34, 3) := by decide +kernel
theorem dX8_run_59 : decode cX8_run 59 = .ok (.iconst 1, 1) := by decide +kernel
theorem dX8_run_60 : decode cX8_run 60 = .ok (.iadd, 1) := by decide +kernel
theorem dX8_run_61 : decode cX8_run 61 = .ok (.putfield 34, 3) := by decide +kernel
theorem dX8_run_64 : decode cX8_run 64 = .ok (.iinc 8 1, 3) := by decide +kernel
theorem dX8_run_67 : decode cX8_run 67 = .ok (.goto (-57), 3) := by decide +kernel
theorem dX8_run_70 : decode cX8_run 70 = .ok (.iconst 0, 1) := by decide +kernel
theorem dX8_run_71 : decode cX8_run 71 = .ok (.istore 8, 2) := by decide +kernel
theorem dX8_run_73 : decode cX8_run 73 = .ok (.iload 8, 2) := by decide +kernel
theorem dX8_run_75 : decode cX8_run 75 = .ok (.aload_n 1, 1) := by decide +kernel
theorem dX8_run_76 : decode cX8_run 76 = .ok (.getfield 45, 3) := by decide +kernel
theorem dX8_run_79 : decode cX8_run 79 = .ok (.invokevirtual 51, 3) := by decide +kernel
theorem dX8_run_82 : decode cX8_run 82 = .ok (.if_icmp .ge 37, 3) := by decide +kernel
theorem dX8_run_85 : decode cX8_run 85 = .ok (.iload 8, 2) := by decide +kernel
theorem dX8_run_87 : decode cX8_run 87 = .ok (.iload 6, 2) := by decide +kernel
theorem dX8_run_89 : decode cX8_run 89 = .ok (.invokestatic 57, 3) := by decide +kernel
theorem dX8_run_92 : decode cX8_run 92 = .ok (.ifCond .eq 21, 3) := by decide +kernel
theorem dX8_run_95 : decode cX8_run 95 = .ok (.aload_n 0, 1) := by decide +kernel
theorem dX8_run_96 : decode cX8_run 96 = .ok (.aload_n 1, 1) := by decide +kernel
theorem dX8_run_97 : decode cX8_run 97 = .ok (.getfield 45, 3) := by decide +kernel
theorem dX8_run_100 : decode cX8_run 100 = .ok (.iload 8, 2) := by decide +kernel
theorem dX8_run_102 : decode cX8_run 102 = .ok (.invokevirtual 61, 3) := by decide +kernel
theorem dX8_run_105 : decode cX8_run 105 = .ok (.checkcast 65, 3) := by decide +kernel
theorem dX8_run_108 : decode cX8_run 108 = .ok (.iload 7, 2) := by decide +kernel
theorem dX8_run_110 : decode cX8_run 110 = .ok (.invokevirtual 67, 3) := by decide +kernel
theorem dX8_run_113 : decode cX8_run 113 = .ok (.iinc 8 1, 3) := by decide +kernel
theorem dX8_run_116 : decode cX8_run 116 = .ok (.goto (-43), 3) := by decide +kernel
theorem dX8_run_119 : decode cX8_run 119 = .ok (.iload_n 3, 1) := by decide +kernel
theorem dX8_run_120 : decode cX8_run 120 = .ok (.aload_n 0, 1) := by decide +kernel
theorem dX8_run_121 : decode cX8_run 121 = .ok (.getfield 31, 3) := by decide +kernel
theorem dX8_run_124 : decode cX8_run 124 = .ok (.iconst (-1), 1) := by decide +kernel
theorem dX8_run_125 : decode cX8_run 125 = .ok (.ixor, 1) := by decide +kernel
theorem dX8_run_126 : decode cX8_run 126 = .ok (.iand, 1) := by decide +kernel
theorem dX8_run_127 : decode cX8_run 127 = .ok (.ireturn, 1) := by decide +kernel
theorem dX8_isFair_0 : decode cX8_isFair 0 = .ok (.iconst 0, 1) := by decide +kernel
theorem dX8_isFair_1 : decode cX8_isFair 1 = .ok (.istore_n 1, 1) := by decide +kernel
theorem dX8_isFair_2 : decode cX8_isFair 2 = .ok (.iload_n 1, 1) := by decide +kernel
theorem dX8_isFair_3 : decode cX8_isFair 3 = .ok (.bipush 8, 2) := by decide +kernel
theorem dX8_isFair_5 : decode cX8_isFair 5 = .ok (.if_icmp .ge 42, 3) := by decide +kernel
theorem dX8_isFair_8 : decode cX8_isFair 8 = .ok (.aload_n 0, 1) := by decide +kernel
theorem dX8_isFair_9 : decode cX8_isFair 9 = .ok (.getfield 14, 3) := by decide +kernel
theorem dX8_isFair_12 : decode cX8_isFair 12 = .ok (.iload_n 1, 1) := by decide +kernel
theorem dX8_isFair_13 : decode cX8_isFair 13 = .ok (.invokevirtual 71, 3) := by decide +kernel
theorem dX8_isFair_16 : decode cX8_isFair 16 = .ok (.iconst (-1), 1) := by decide +kernel
theorem dX8_isFair_17 : decode cX8_isFair 17 = .ok (.if_icmp .eq 24, 3) := by decide +kernel
theorem dX8_isFair_20 : decode cX8_isFair 20 = .ok (.aload_n 0, 1) := by decide +kernel
theorem dX8_isFair_21 : decode cX8_isFair 21 = .ok (.getfield 14, 3) := by decide +kernel
theorem dX8_isFair_24 : decode cX8_isFair 24 = .ok (.iload_n 1, 1) := by decide +kernel
theorem dX8_isFair_25 : decode cX8_isFair 25 = .ok (.invokevirtual 71, 3) := by decide +kernel
theorem dX8_isFair_28 : decode cX8_isFair 28 = .ok (.aload_n 0, 1) := by decide +kernel
theorem dX8_isFair_29 : decode cX8_isFair 29 = .ok (.getfield 20, 3) := by decide +kernel
theorem dX8_isFair_32 : decode cX8_isFair 32 = .ok (.iload_n 1, 1) := by decide +kernel
theorem dX8_isFair_33 : decode cX8_isFair 33 = .ok (.invokevirtual 71, 3) := by decide +kernel
theorem dX8_isFair_36 : decode cX8_isFair 36 = .ok (.if_icmp .ge 5, 3) := by decide +kernel
theorem dX8_isFair_39 : decode cX8_isFair 39 = .ok (.iconst 0, 1) := by decide +kernel
theorem dX8_isFair_40 : decode cX8_isFair 40 = .ok (.ireturn, 1) := by decide +kernel
theorem dX8_isFair_41 : decode cX8_isFair 41 = .ok (.iinc 1 1, 3) := by decide +kernel
theorem dX8_isFair_44 : decode cX8_isFair 44 = .ok (.goto (-42), 3) := by decide +kernel
theorem dX8_isFair_47 : decode cX8_isFair 47 = .ok (.iconst 1, 1) := by decide +kernel
theorem dX8_isFair_48 : decode cX8_isFair 48 = .ok (.ireturn, 1) := by decide +kernel
theorem dX8_holdRound_0 : decode cX8_holdRound 0 = .ok (.iload_n 3, 1) := by decide +kernel
theorem dX8_holdRound_1 : decode cX8_holdRound 1 = .ok (.istore 6, 2) := by decide +kernel
theorem dX8_holdRound_3 : decode cX8_holdRound 3 = .ok (.iconst 0, 1) := by decide +kernel
theorem dX8_holdRound_4 : decode cX8_holdRound 4 = .ok (.istore 7, 2) := by decide +kernel
theorem dX8_holdRound_6 : decode cX8_holdRound 6 = .ok (.iload 7, 2) := by decide +kernel
theorem dX8_holdRound_8 : decode cX8_holdRound 8 = .ok (.aload_n 1, 1) := by decide +kernel
theorem dX8_holdRound_9 : decode cX8_holdRound 9 = .ok (.getfield 45, 3) := by decide +kernel
theorem dX8_holdRound_12 : decode cX8_holdRound 12 = .ok (.invokevirtual 51, 3) := by decide +kernel
theorem dX8_holdRound_15 : decode cX8_holdRound 15 = .ok (.if_icmp .ge 105, 3) := by decide +kernel
theorem dX8_holdRound_18 : decode cX8_holdRound 18 = .ok (.iload 7, 2) := by decide +kernel
theorem dX8_holdRound_20 : decode cX8_holdRound 20 = .ok (.iload_n 3, 1) := by decide +kernel
theorem dX8_holdRound_21 : decode cX8_holdRound 21 = .ok (.invokestatic 57, 3) := by decide +kernel
theorem dX8_holdRound_24 : decode cX8_holdRound 24 = .ok (.ifCond .ne 6, 3) := by decide +kernel
theorem dX8_holdRound_27 : decode cX8_holdRound 27 = .ok (.goto 87, 3) := by decide +kernel
theorem dX8_holdRound_30 : decode cX8_holdRound 30 = .ok (.aload_n 1, 1) := by decide +kernel
theorem dX8_holdRound_31 : decode cX8_holdRound 31 = .ok (.getfield 45, 3) := by decide +kernel
theorem dX8_holdRound_34 : decode cX8_holdRound 34 = .ok (.iload 7, 2) := by decide +kernel
theorem dX8_holdRound_36 : decode cX8_holdRound 36 = .ok (.invokevirtual 61, 3) := by decide +kernel
theorem dX8_holdRound_39 : decode cX8_holdRound 39 = .ok (.checkcast 65, 3) := by decide +kernel
theorem dX8_holdRound_42 : decode cX8_holdRound 42 = .ok (.astore 8, 2) := by decide +kernel
theorem dX8_holdRound_44 : decode cX8_holdRound 44 = .ok (.iconst 1, 1) := by decide +kernel
theorem dX8_holdRound_45 : decode cX8_holdRound 45 = .ok (.iload 7, 2) := by decide +kernel
theorem dX8_holdRound_47 : decode cX8_holdRound 47 = .ok (.ishl, 1) := by decide +kernel
theorem dX8_holdRound_48 : decode cX8_holdRound 48 = .ok (.istore 9, 2) := by decide +kernel
theorem dX8_holdRound_50 : decode cX8_holdRound 50 = .ok (.aload_n 2, 1) := by decide +kernel
theorem dX8_holdRound_51 : decode cX8_holdRound 51 = .ok (.aload_n 0, 1) := by decide +kernel
theorem dX8_holdRound_52 : decode cX8_holdRound 52 = .ok (.getfield 31, 3) := by decide +kernel
theorem dX8_holdRound_55 : decode cX8_holdRound 55 = .ok (.iload 9, 2) := by decide +kernel
theorem dX8_holdRound_57 : decode cX8_holdRound 57 = .ok (.ior, 1) := by decide +kernel
theorem dX8_holdRound_58 : decode cX8_holdRound 58 = .ok (.invokevirtual 75, 3) := by decide +kernel
theorem dX8_holdRound_61 : decode cX8_holdRound 61 = .ok (.ifCond .ne 23, 3) := by decide +kernel
theorem dX8_holdRound_64 : decode cX8_holdRound 64 = .ok (.aload_n 0, 1) := by decide +kernel
theorem dX8_holdRound_65 : decode cX8_holdRound 65 = .ok (.aload 8, 2) := by decide +kernel
theorem dX8_holdRound_67 : decode cX8_holdRound 67 = .ok (.iload 4, 2) := by decide +kernel
theorem dX8_holdRound_69 : decode cX8_holdRound 69 = .ok (.invokevirtual 67, 3) := by decide +kernel
theorem dX8_holdRound_72 : decode cX8_holdRound 72 = .ok (.iload 6, 2) := by decide +kernel
theorem dX8_holdRound_74 : decode cX8_holdRound 74 = .ok (.iload 9, 2) := by decide +kernel
theorem dX8_holdRound_76 : decode cX8_holdRound 76 = .ok (.iconst (-1), 1) := by decide +kernel
theorem dX8_holdRound_77 : decode cX8_holdRound 77 = .ok (.ixor, 1) := by decide +kernel
theorem dX8_holdRound_78 : decode cX8_holdRound 78 = .ok (.iand, 1) := by decide +kernel
theorem dX8_holdRound_79 : decode cX8_holdRound 79 = .ok (.istore 6, 2) := by decide +kernel
theorem dX8_holdRound_81 : decode cX8_holdRound 81 = .ok (.goto 33, 3) := by decide +kernel
theorem dX8_holdRound_84 : decode cX8_holdRound 84 = .ok (.aload 8, 2) := by decide +kernel
theorem dX8_holdRound_86 : decode cX8_holdRound 86 = .ok (.getfield 81, 3) := by decide +kernel
theorem dX8_holdRound_89 : decode cX8_holdRound 89 = .ok (.iload 5, 2) := by decide +kernel
theorem dX8_holdRound_91 : decode cX8_holdRound 91 = .ok (.if_icmp .le 23, 3) := by decide +kernel
theorem dX8_holdRound_94 : decode cX8_holdRound 94 = .ok (.aload_n 0, 1) := by decide +kernel
theorem dX8_holdRound_95 : decode cX8_holdRound 95 = .ok (.dup, 1) := by decide +kernel
theorem dX8_holdRound_96 : decode cX8_holdRound 96 = .ok (.getfield 31, 3) := by decide +kernel
theorem dX8_holdRound_99 : decode cX8_holdRound 99 = .ok (.iload 9, 2) := by decide +kernel
theorem dX8_holdRound_101 : decode cX8_holdRound 101 = .ok (.ior, 1) := by decide +kernel
theorem dX8_holdRound_102 : decode cX8_holdRound 102 = .ok (.putfield 31, 3) := by decide +kernel
theorem dX8_holdRound_105 : decode cX8_holdRound 105 = .ok (.iload 6, 2) := by decide +kernel
theorem dX8_holdRound_107 : decode cX8_holdRound 107 = .ok (.iload 9, 2) := by decide +kernel
theorem dX8_holdRound_109 : decode cX8_holdRound 109 = .ok (.iconst (-1), 1) := by decide +kernel
theorem dX8_holdRound_110 : decode cX8_holdRound 110 = .ok (.ixor, 1) := by decide +kernel
theorem dX8_holdRound_111 : decode cX8_holdRound 111 = .ok (.iand, 1) := by decide +kernel
theorem dX8_holdRound_112 : decode cX8_holdRound 112 = .ok (.istore 6, 2) := by decide +kernel
theorem dX8_holdRound_114 : decode cX8_holdRound 114 = .ok (.iinc 7 1, 3) := by decide +kernel
theorem dX8_holdRound_117 : decode cX8_holdRound 117 = .ok (.goto (-111), 3) := by decide +kernel
theorem dX8_holdRound_120 : decode cX8_holdRound 120 = .ok (.iload 6, 2) := by decide +kernel
theorem dX8_holdRound_122 : decode cX8_holdRound 122 = .ok (.ireturn, 1) := by decide +kernel
theorem dX8_take_0 : decode cX8_take 0 = .ok (.aload_n 0, 1) := by decide +kernel
theorem dX8_take_1 : decode cX8_take 1 = .ok (.getfield 14, 3) := by decide +kernel
theorem dX8_take_4 : decode cX8_take 4 = .ok (.aload_n 1, 1) := by decide +kernel
theorem dX8_take_5 : decode cX8_take 5 = .ok (.getfield 84, 3) := by decide +kernel
theorem dX8_take_8 : decode cX8_take 8 = .ok (.iload_n 2, 1) := by decide +kernel
theorem dX8_take_9 : decode cX8_take 9 = .ok (.invokevirtual 87, 3) := by decide +kernel
theorem dX8_take_12 : decode cX8_take 12 = .ok (.aload_n 0, 1) := by decide +kernel
theorem dX8_take_13 : decode cX8_take 13 = .ok (.getfield 20, 3) := by decide +kernel
theorem dX8_take_16 : decode cX8_take 16 = .ok (.aload_n 1, 1) := by decide +kernel
theorem dX8_take_17 : decode cX8_take 17 = .ok (.getfield 84, 3) := by decide +kernel
theorem dX8_take_20 : decode cX8_take 20 = .ok (.aload_n 1, 1) := by decide +kernel
theorem dX8_take_21 : decode cX8_take 21 = .ok (.getfield 81, 3) := by decide +kernel
theorem dX8_take_24 : decode cX8_take 24 = .ok (.invokevirtual 87, 3) := by decide +kernel
theorem dX8_take_27 : decode cX8_take 27 = .ok (.return_, 1) := by decide +kernel
theorem dX9_init_0 : decode cX9_init 0 = .ok (.aload_n 0, 1) := by decide +kernel
theorem dX9_init_1 : decode cX9_init 1 = .ok (.invokespecial 1, 3) := by decide +kernel
theorem dX9_init_4 : decode cX9_init 4 = .ok (.aload_n 0, 1) := by decide +kernel
theorem dX9_init_5 : decode cX9_init 5 = .ok (.iload_n 1, 1) := by decide +kernel
theorem dX9_init_6 : decode cX9_init 6 = .ok (.putfield 7, 3) := by decide +kernel
theorem dX9_init_9 : decode cX9_init 9 = .ok (.aload_n 0, 1) := by decide +kernel
theorem dX9_init_10 : decode cX9_init 10 = .ok (.iload_n 2, 1) := by decide +kernel
theorem dX9_init_11 : decode cX9_init 11 = .ok (.putfield 13, 3) := by decide +kernel
theorem dX9_init_14 : decode cX9_init 14 = .ok (.aload_n 0, 1) := by decide +kernel
theorem dX9_init_15 : decode cX9_init 15 = .ok (.iload_n 3, 1) := by decide +kernel
theorem dX9_init_16 : decode cX9_init 16 = .ok (.putfield 16, 3) := by decide +kernel
theorem dX9_init_19 : decode cX9_init 19 = .ok (.return_, 1) := by decide +kernel
theorem dX10_init_0 : decode cX10_init 0 = .ok (.aload_n 0, 1) := by decide +kernel
theorem dX10_init_1 : decode cX10_init 1 = .ok (.invokespecial 1, 3) := by decide +kernel
theorem dX10_init_4 : decode cX10_init 4 = .ok (.aload_n 0, 1) := by decide +kernel
theorem dX10_init_5 : decode cX10_init 5 = .ok (.iload_n 1, 1) := by decide +kernel
theorem dX10_init_6 : decode cX10_init 6 = .ok (.putfield 7, 3) := by decide +kernel
theorem dX10_init_9 : decode cX10_init 9 = .ok (.aload_n 0, 1) := by decide +kernel
theorem dX10_init_10 : decode cX10_init 10 = .ok (.iload_n 2, 1) := by decide +kernel
theorem dX10_init_11 : decode cX10_init 11 = .ok (.putfield 13, 3) := by decide +kernel
theorem dX10_init_14 : decode cX10_init 14 = .ok (.aload_n 0, 1) := by decide +kernel
theorem dX10_init_15 : decode cX10_init 15 = .ok (.iload_n 3, 1) := by decide +kernel
theorem dX10_init_16 : decode cX10_init 16 = .ok (.putfield 16, 3) := by decide +kernel
theorem dX10_init_19 : decode cX10_init 19 = .ok (.aload_n 0, 1) := by decide +kernel
theorem dX10_init_20 : decode cX10_init 20 = .ok (.iload 4, 2) := by decide +kernel
theorem dX10_init_22 : decode cX10_init 22 = .ok (.putfield 19, 3) := by decide +kernel
theorem dX10_init_25 : decode cX10_init 25 = .ok (.aload_n 0, 1) := by decide +kernel
theorem dX10_init_26 : decode cX10_init 26 = .ok (.iload 5, 2) := by decide +kernel
theorem dX10_init_28 : decode cX10_init 28 = .ok (.putfield 22, 3) := by decide +kernel
theorem dX10_init_31 : decode cX10_init 31 = .ok (.return_, 1) := by decide +kernel
theorem dX11_init_0 : decode cX11_init 0 = .ok (.aload_n 0, 1) := by decide +kernel
theorem dX11_init_1 : decode cX11_init 1 = .ok (.invokespecial 1, 3) := by decide +kernel
theorem dX11_init_4 : decode cX11_init 4 = .ok (.aload_n 0, 1) := by decide +kernel
theorem dX11_init_5 : decode cX11_init 5 = .ok (.new 7, 3) := by decide +kernel
theorem dX11_init_8 : decode cX11_init 8 = .ok (.dup, 1) := by decide +kernel
theorem dX11_init_9 : decode cX11_init 9 = .ok (.invokespecial 9, 3) := by decide +kernel
theorem dX11_init_12 : decode cX11_init 12 = .ok (.putfield 10, 3) := by decide +kernel
theorem dX11_init_15 : decode cX11_init 15 = .ok (.aload_n 0, 1) := by decide +kernel
theorem dX11_init_16 : decode cX11_init 16 = .ok (.new 16, 3) := by decide +kernel
theorem dX11_init_19 : decode cX11_init 19 = .ok (.dup, 1) := by decide +kernel
theorem dX11_init_20 : decode cX11_init 20 = .ok (.invokespecial 18, 3) := by decide +kernel
theorem dX11_init_23 : decode cX11_init 23 = .ok (.putfield 19, 3) := by decide +kernel
theorem dX11_init_26 : decode cX11_init 26 = .ok (.aload_n 0, 1) := by decide +kernel
theorem dX11_init_27 : decode cX11_init 27 = .ok (.new 23, 3) := by decide +kernel
theorem dX11_init_30 : decode cX11_init 30 = .ok (.dup, 1) := by decide +kernel
theorem dX11_init_31 : decode cX11_init 31 = .ok (.invokespecial 25, 3) := by decide +kernel
theorem dX11_init_34 : decode cX11_init 34 = .ok (.putfield 26, 3) := by decide +kernel
theorem dX11_init_37 : decode cX11_init 37 = .ok (.aload_n 0, 1) := by decide +kernel
theorem dX11_init_38 : decode cX11_init 38 = .ok (.new 30, 3) := by decide +kernel
theorem dX11_init_41 : decode cX11_init 41 = .ok (.dup, 1) := by decide +kernel
theorem dX11_init_42 : decode cX11_init 42 = .ok (.invokespecial 32, 3) := by decide +kernel
theorem dX11_init_45 : decode cX11_init 45 = .ok (.putfield 33, 3) := by decide +kernel
theorem dX11_init_48 : decode cX11_init 48 = .ok (.aload_n 0, 1) := by decide +kernel
theorem dX11_init_49 : decode cX11_init 49 = .ok (.new 37, 3) := by decide +kernel
theorem dX11_init_52 : decode cX11_init 52 = .ok (.dup, 1) := by decide +kernel
theorem dX11_init_53 : decode cX11_init 53 = .ok (.invokespecial 39, 3) := by decide +kernel
theorem dX11_init_56 : decode cX11_init 56 = .ok (.putfield 40, 3) := by decide +kernel
theorem dX11_init_59 : decode cX11_init 59 = .ok (.aload_n 0, 1) := by decide +kernel
theorem dX11_init_60 : decode cX11_init 60 = .ok (.new 44, 3) := by decide +kernel
theorem dX11_init_63 : decode cX11_init 63 = .ok (.dup, 1) := by decide +kernel
theorem dX11_init_64 : decode cX11_init 64 = .ok (.invokespecial 46, 3) := by decide +kernel
theorem dX11_init_67 : decode cX11_init 67 = .ok (.putfield 47, 3) := by decide +kernel
theorem dX11_init_70 : decode cX11_init 70 = .ok (.aload_n 0, 1) := by decide +kernel
theorem dX11_init_71 : decode cX11_init 71 = .ok (.new 51, 3) := by decide +kernel
theorem dX11_init_74 : decode cX11_init 74 = .ok (.dup, 1) := by decide +kernel
theorem dX11_init_75 : decode cX11_init 75 = .ok (.invokespecial 53, 3) := by decide +kernel
theorem dX11_init_78 : decode cX11_init 78 = .ok (.putfield 54, 3) := by decide +kernel
theorem dX11_init_81 : decode cX11_init 81 = .ok (.aload_n 0, 1) := by decide +kernel
theorem dX11_init_82 : decode cX11_init 82 = .ok (.new 58, 3) := by decide +kernel
theorem dX11_init_85 : decode cX11_init 85 = .ok (.dup, 1) := by decide +kernel
theorem dX11_init_86 : decode cX11_init 86 = .ok (.bipush 8, 2) := by decide +kernel
theorem dX11_init_88 : decode cX11_init 88 = .ok (.iconst (-1), 1) := by decide +kernel
theorem dX11_init_89 : decode cX11_init 89 = .ok (.invokespecial 60, 3) := by decide +kernel
theorem dX11_init_92 : decode cX11_init 92 = .ok (.putfield 63, 3) := by decide +kernel
theorem dX11_init_95 : decode cX11_init 95 = .ok (.return_, 1) := by decide +kernel
theorem dX11_setGround_0 : decode cX11_setGround 0 = .ok (.aload_n 0, 1) := by decide +kernel
theorem dX11_setGround_1 : decode cX11_setGround 1 = .ok (.iload_n 1, 1) := by decide +kernel
theorem dX11_setGround_2 : decode cX11_setGround 2 = .ok (.iload_n 2, 1) := by decide +kernel
theorem dX11_setGround_3 : decode cX11_setGround 3 = .ok (.invokevirtual 67, 3) := by decide +kernel
theorem dX11_setGround_6 : decode cX11_setGround 6 = .ok (.aload_n 0, 1) := by decide +kernel
theorem dX11_setGround_7 : decode cX11_setGround 7 = .ok (.iload_n 3, 1) := by decide +kernel
theorem dX11_setGround_8 : decode cX11_setGround 8 = .ok (.iconst 0, 1) := by decide +kernel
theorem dX11_setGround_9 : decode cX11_setGround 9 = .ok (.bipush 99, 2) := by decide +kernel
theorem dX11_setGround_11 : decode cX11_setGround 11 = .ok (.invokevirtual 70, 3) := by decide +kernel
theorem dX11_setGround_14 : decode cX11_setGround 14 = .ok (.aload_n 0, 1) := by decide +kernel
theorem dX11_setGround_15 : decode cX11_setGround 15 = .ok (.invokevirtual 74, 3) := by decide +kernel
theorem dX11_setGround_18 : decode cX11_setGround 18 = .ok (.aload_n 0, 1) := by decide +kernel
theorem dX11_setGround_19 : decode cX11_setGround 19 = .ok (.getfield 10, 3) := by decide +kernel
theorem dX11_setGround_22 : decode cX11_setGround 22 = .ok (.getfield 77, 3) := by decide +kernel
theorem dX11_setGround_25 : decode cX11_setGround 25 = .ok (.iload_n 1, 1) := by decide +kernel
theorem dX11_setGround_26 : decode cX11_setGround 26 = .ok (.iload_n 2, 1) := by decide +kernel
theorem dX11_setGround_27 : decode cX11_setGround 27 = .ok (.iload_n 3, 1) := by decide +kernel
theorem dX11_setGround_28 : decode cX11_setGround 28 = .ok (.invokevirtual 81, 3) := by decide +kernel
theorem dX11_setGround_31 : decode cX11_setGround 31 = .ok (.ireturn, 1) := by decide +kernel
theorem dX11_addSite_0 : decode cX11_addSite 0 = .ok (.aload_n 0, 1) := by decide +kernel
theorem dX11_addSite_1 : decode cX11_addSite 1 = .ok (.iload_n 1, 1) := by decide +kernel
theorem dX11_addSite_2 : decode cX11_addSite 2 = .ok (.iload_n 2, 1) := by decide +kernel
theorem dX11_addSite_3 : decode cX11_addSite 3 = .ok (.invokevirtual 67, 3) := by decide +kernel
theorem dX11_addSite_6 : decode cX11_addSite 6 = .ok (.aload_n 0, 1) := by decide +kernel
theorem dX11_addSite_7 : decode cX11_addSite 7 = .ok (.iload_n 3, 1) := by decide +kernel
theorem dX11_addSite_8 : decode cX11_addSite 8 = .ok (.iconst 0, 1) := by decide +kernel
theorem dX11_addSite_9 : decode cX11_addSite 9 = .ok (.bipush 99, 2) := by decide +kernel
theorem dX11_addSite_11 : decode cX11_addSite 11 = .ok (.invokevirtual 70, 3) := by decide +kernel
theorem dX11_addSite_14 : decode cX11_addSite 14 = .ok (.aload_n 0, 1) := by decide +kernel
theorem dX11_addSite_15 : decode cX11_addSite 15 = .ok (.getfield 10, 3) := by decide +kernel
theorem dX11_addSite_18 : decode cX11_addSite 18 = .ok (.getfield 77, 3) := by decide +kernel
theorem dX11_addSite_21 : decode cX11_addSite 21 = .ok (.getfield 87, 3) := by decide +kernel
theorem dX11_addSite_24 : decode cX11_addSite 24 = .ok (.invokevirtual 91, 3) := by decide +kernel
theorem dX11_addSite_27 : decode cX11_addSite 27 = .ok (.bipush 10, 2) := by decide +kernel
theorem dX11_addSite_29 : decode cX11_addSite 29 = .ok (.if_icmp .lt 13, 3) := by decide +kernel
theorem dX11_addSite_32 : decode cX11_addSite 32 = .ok (.new 97, 3) := by decide +kernel
theorem dX11_addSite_35 : decode cX11_addSite 35 = .ok (.dup, 1) := by decide +kernel
theorem dX11_addSite_36 : decode cX11_addSite 36 = .ok (.ldc 99, 2) := by decide +kernel
theorem dX11_addSite_38 : decode cX11_addSite 38 = .ok (.invokespecial 101, 3) := by decide +kernel
theorem dX11_addSite_41 : decode cX11_addSite 41 = .ok (.athrow, 1) := by decide +kernel
theorem dX11_addSite_42 : decode cX11_addSite 42 = .ok (.aload_n 0, 1) := by decide +kernel
theorem dX11_addSite_43 : decode cX11_addSite 43 = .ok (.getfield 10, 3) := by decide +kernel
theorem dX11_addSite_46 : decode cX11_addSite 46 = .ok (.getfield 77, 3) := by decide +kernel
theorem dX11_addSite_49 : decode cX11_addSite 49 = .ok (.new 104, 3) := by decide +kernel
theorem dX11_addSite_52 : decode cX11_addSite 52 = .ok (.dup, 1) := by decide +kernel
theorem dX11_addSite_53 : decode cX11_addSite 53 = .ok (.iload_n 1, 1) := by decide +kernel
theorem dX11_addSite_54 : decode cX11_addSite 54 = .ok (.iload_n 2, 1) := by decide +kernel
theorem dX11_addSite_55 : decode cX11_addSite 55 = .ok (.iload_n 3, 1) := by decide +kernel
theorem dX11_addSite_56 : decode cX11_addSite 56 = .ok (.invokespecial 106, 3) := by decide +kernel
theorem dX11_addSite_59 : decode cX11_addSite 59 = .ok (.invokevirtual 108, 3) := by decide +kernel
theorem dX11_addSite_62 : decode cX11_addSite 62 = .ok (.ireturn, 1) := by decide +kernel
theorem dX11_loss_0 : decode cX11_loss 0 = .ok (.aload_n 0, 1) := by decide +kernel
theorem dX11_loss_1 : decode cX11_loss 1 = .ok (.iload_n 1, 1) := by decide +kernel
theorem dX11_loss_2 : decode cX11_loss 2 = .ok (.invokevirtual 112, 3) := by decide +kernel
theorem dX11_loss_5 : decode cX11_loss 5 = .ok (.aload_n 0, 1) := by decide +kernel
theorem dX11_loss_6 : decode cX11_loss 6 = .ok (.iload_n 2, 1) := by decide +kernel
theorem dX11_loss_7 : decode cX11_loss 7 = .ok (.invokevirtual 112, 3) := by decide +kernel
theorem dX11_loss_10 : decode cX11_loss 10 = .ok (.aload_n 0, 1) := by decide +kernel
theorem dX11_loss_11 : decode cX11_loss 11 = .ok (.getfield 10, 3) := by decide +kernel
theorem dX11_loss_14 : decode cX11_loss 14 = .ok (.getfield 77, 3) := by decide +kernel
theorem dX11_loss_17 : decode cX11_loss 17 = .ok (.iload_n 1, 1) := by decide +kernel
theorem dX11_loss_18 : decode cX11_loss 18 = .ok (.iload_n 2, 1) := by decide +kernel
theorem dX11_loss_19 : decode cX11_loss 19 = .ok (.invokevirtual 116, 3) := by decide +kernel
theorem dX11_loss_22 : decode cX11_loss 22 = .ok (.ireturn, 1) := by decide +kernel
theorem dX11_addStation_0 : decode cX11_addStation 0 = .ok (.aload_n 0, 1) := by decide +kernel
theorem dX11_addStation_1 : decode cX11_addStation 1 = .ok (.iload_n 1, 1) := by decide +kernel
theorem dX11_addStation_2 : decode cX11_addStation 2 = .ok (.invokevirtual 112, 3) := by decide +kernel
theorem dX11_addStation_5 : decode cX11_addStation 5 = .ok (.aload_n 0, 1) := by decide +kernel
theorem dX11_addStation_6 : decode cX11_addStation 6 = .ok (.iload_n 2, 1) := by decide +kernel
theorem dX11_addStation_7 : decode cX11_addStation 7 = .ok (.invokevirtual 112, 3) := by decide +kernel
theorem dX11_addStation_10 : decode cX11_addStation 10 = .ok (.iload_n 1, 1) := by decide +kernel
theorem dX11_addStation_11 : decode cX11_addStation 11 = .ok (.iload_n 2, 1) := by decide +kernel
theorem dX11_addStation_12 : decode cX11_addStation 12 = .ok (.if_icmp .ne 13, 3) := by decide +kernel
theorem dX11_addStation_15 : decode cX11_addStation 15 = .ok (.new 120, 3) := by decide +kernel
theorem dX11_addStation_18 : decode cX11_addStation 18 = .ok (.dup, 1) := by decide +kernel
theorem dX11_addStation_19 : decode cX11_addStation 19 = .ok (.ldc 122, 2) := by decide +kernel
theorem dX11_addStation_21 : decode cX11_addStation 21 = .ok (.invokespecial 124, 3) := by decide +kernel
theorem dX11_addStation_24 : decode cX11_addStation 24 = .ok (.athrow, 1) := by decide +kernel
theorem dX11_addStation_25 : decode cX11_addStation 25 = .ok (.aload_n 0, 1) := by decide +kernel
theorem dX11_addStation_26 : decode cX11_addStation 26 = .ok (.iload_n 3, 1) := by decide +kernel
theorem dX11_addStation_27 : decode cX11_addStation 27 = .ok (.iconst 0, 1) := by decide +kernel
theorem dX11_addStation_28 : decode cX11_addStation 28 = .ok (.sipush 500, 3) := by decide +kernel
theorem dX11_addStation_31 : decode cX11_addStation 31 = .ok (.invokevirtual 70, 3) := by decide +kernel
theorem dX11_addStation_34 : decode cX11_addStation 34 = .ok (.aload_n 0, 1) := by decide +kernel
theorem dX11_addStation_35 : decode cX11_addStation 35 = .ok (.getfield 10, 3) := by decide +kernel
theorem dX11_addStation_38 : decode cX11_addStation 38 = .ok (.getfield 125, 3) := by decide +kernel
theorem dX11_addStation_41 : decode cX11_addStation 41 = .ok (.invokevirtual 91, 3) := by decide +kernel
theorem dX11_addStation_44 : decode cX11_addStation 44 = .ok (.istore 5, 2) := by decide +kernel
theorem dX11_addStation_46 : decode cX11_addStation 46 = .ok (.iload 5, 2) := by decide +kernel
theorem dX11_addStation_48 : decode cX11_addStation 48 = .ok (.bipush 8, 2) := by decide +kernel
theorem dX11_addStation_50 : decode cX11_addStation 50 = .ok (.if_icmp .lt 13, 3) := by decide +kernel
theorem dX11_addStation_53 : decode cX11_addStation 53 = .ok (.new 97, 3) := by decide +kernel
theorem dX11_addStation_56 : decode cX11_addStation 56 = .ok (.dup, 1) := by decide +kernel
theorem dX11_addStation_57 : decode cX11_addStation 57 = .ok (.ldc 128, 2) := by decide +kernel
theorem dX11_addStation_59 : decode cX11_addStation 59 = .ok (.invokespecial 101, 3) := by decide +kernel
theorem dX11_addStation_62 : decode cX11_addStation 62 = .ok (.athrow, 1) := by decide +kernel
theorem dX11_addStation_63 : decode cX11_addStation 63 = .ok (.aload_n 0, 1) := by decide +kernel
theorem dX11_addStation_64 : decode cX11_addStation 64 = .ok (.getfield 10, 3) := by decide +kernel
theorem dX11_addStation_67 : decode cX11_addStation 67 = .ok (.getfield 125, 3) := by decide +kernel
theorem dX11_addStation_70 : decode cX11_addStation 70 = .ok (.new 130, 3) := by decide +kernel
theorem dX11_addStation_73 : decode cX11_addStation 73 = .ok (.dup, 1) := by decide +kernel
theorem dX11_addStation_74 : decode cX11_addStation 74 = .ok (.iload 5, 2) := by decide +kernel
theorem dX11_addStation_76 : decode cX11_addStation 76 = .ok (.iload_n 1, 1) := by decide +kernel
theorem dX11_addStation_77 : decode cX11_addStation 77 = .ok (.iload_n 2, 1) := by decide +kernel
theorem dX11_addStation_78 : decode cX11_addStation 78 = .ok (.iload_n 3, 1) := by decide +kernel
theorem dX11_addStation_79 : decode cX11_addStation 79 = .ok (.iload 4, 2) := by decide +kernel
theorem dX11_addStation_81 : decode cX11_addStation 81 = .ok (.invokespecial 132, 3) := by decide +kernel
theorem dX11_addStation_84 : decode cX11_addStation 84 = .ok (.invokevirtual 135, 3) := by decide +kernel
theorem dX11_addStation_87 : decode cX11_addStation 87 = .ok (.pop, 1) := by decide +kernel
theorem dX11_addStation_88 : decode cX11_addStation 88 = .ok (.iload 5, 2) := by decide +kernel
theorem dX11_addStation_90 : decode cX11_addStation 90 = .ok (.ireturn, 1) := by decide +kernel
theorem dX11_setRatio_0 : decode cX11_setRatio 0 = .ok (.aload_n 0, 1) := by decide +kernel
theorem dX11_setRatio_1 : decode cX11_setRatio 1 = .ok (.iload_n 1, 1) := by decide +kernel
theorem dX11_setRatio_2 : decode cX11_setRatio 2 = .ok (.iconst 0, 1) := by decide +kernel
theorem dX11_setRatio_3 : decode cX11_setRatio 3 = .ok (.sipush 500, 3) := by decide +kernel
theorem dX11_setRatio_6 : decode cX11_setRatio 6 = .ok (.invokevirtual 70, 3) := by decide +kernel
theorem dX11_setRatio_9 : decode cX11_setRatio 9 = .ok (.aload_n 0, 1) := by decide +kernel
theorem dX11_setRatio_10 : decode cX11_setRatio 10 = .ok (.invokevirtual 74, 3) := by decide +kernel
theorem dX11_setRatio_13 : decode cX11_setRatio 13 = .ok (.aload_n 0, 1) := by decide +kernel
theorem dX11_setRatio_14 : decode cX11_setRatio 14 = .ok (.getfield 10, 3) := by decide +kernel
theorem dX11_setRatio_17 : decode cX11_setRatio 17 = .ok (.getfield 139, 3) := by decide +kernel
theorem dX11_setRatio_20 : decode cX11_setRatio 20 = .ok (.istore_n 2, 1) := by decide +kernel
theorem dX11_setRatio_21 : decode cX11_setRatio 21 = .ok (.aload_n 0, 1) := by decide +kernel
theorem dX11_setRatio_22 : decode cX11_setRatio 22 = .ok (.getfield 10, 3) := by decide +kernel
theorem dX11_setRatio_25 : decode cX11_setRatio 25 = .ok (.iload_n 1, 1) := by decide +kernel
theorem dX11_setRatio_26 : decode cX11_setRatio 26 = .ok (.putfield 139, 3) := by decide +kernel
theorem dX11_setRatio_29 : decode cX11_setRatio 29 = .ok (.iload_n 2, 1) := by decide +kernel
theorem dX11_setRatio_30 : decode cX11_setRatio 30 = .ok (.ireturn, 1) := by decide +kernel
theorem dX11_level_0 : decode cX11_level 0 = .ok (.aload_n 0, 1) := by decide +kernel
theorem dX11_level_1 : decode cX11_level 1 = .ok (.getfield 10, 3) := by decide +kernel
theorem dX11_level_4 : decode cX11_level 4 = .ok (.aload_n 0, 1) := by decide +kernel
theorem dX11_level_5 : decode cX11_level 5 = .ok (.iload_n 1, 1) := by decide +kernel
theorem dX11_level_6 : decode cX11_level 6 = .ok (.invokevirtual 143, 3) := by decide +kernel
theorem dX11_level_9 : decode cX11_level 9 = .ok (.invokevirtual 147, 3) := by decide +kernel
theorem dX11_level_12 : decode cX11_level 12 = .ok (.ireturn, 1) := by decide +kernel
theorem dX11_harm_0 : decode cX11_harm 0 = .ok (.aload_n 0, 1) := by decide +kernel
theorem dX11_harm_1 : decode cX11_harm 1 = .ok (.getfield 10, 3) := by decide +kernel
theorem dX11_harm_4 : decode cX11_harm 4 = .ok (.aload_n 0, 1) := by decide +kernel
theorem dX11_harm_5 : decode cX11_harm 5 = .ok (.iload_n 1, 1) := by decide +kernel
theorem dX11_harm_6 : decode cX11_harm 6 = .ok (.invokevirtual 151, 3) := by decide +kernel
theorem dX11_harm_9 : decode cX11_harm 9 = .ok (.aload_n 0, 1) := by decide +kernel
theorem dX11_harm_10 : decode cX11_harm 10 = .ok (.getfield 19, 3) := by decide +kernel
theorem dX11_harm_13 : decode cX11_harm 13 = .ok (.getfield 154, 3) := by decide +kernel
theorem dX11_harm_16 : decode cX11_harm 16 = .ok (.invokevirtual 157, 3) := by decide +kernel
theorem dX11_harm_19 : decode cX11_harm 19 = .ok (.istore_n 2, 1) := by decide +kernel
theorem dX11_harm_20 : decode cX11_harm 20 = .ok (.iload_n 2, 1) := by decide +kernel
theorem dX11_harm_21 : decode cX11_harm 21 = .ok (.ldc 161, 2) := by decide +kernel
theorem dX11_harm_23 : decode cX11_harm 23 = .ok (.if_icmp .ne 13, 3) := by decide +kernel
theorem dX11_harm_26 : decode cX11_harm 26 = .ok (.new 162, 3) := by decide +kernel
theorem dX11_harm_29 : decode cX11_harm 29 = .ok (.dup, 1) := by decide +kernel
theorem dX11_harm_30 : decode cX11_harm 30 = .ok (.ldc 164, 2) := by decide +kernel
theorem dX11_harm_32 : decode cX11_harm 32 = .ok (.invokespecial 166, 3) := by decide +kernel
theorem dX11_harm_35 : decode cX11_harm 35 = .ok (.athrow, 1) := by decide +kernel
theorem dX11_harm_36 : decode cX11_harm 36 = .ok (.iload_n 2, 1) := by decide +kernel
theorem dX11_harm_37 : decode cX11_harm 37 = .ok (.ireturn, 1) := by decide +kernel
theorem dX11_keeps_0 : decode cX11_keeps 0 = .ok (.aload_n 0, 1) := by decide +kernel
theorem dX11_keeps_1 : decode cX11_keeps 1 = .ok (.getfield 10, 3) := by decide +kernel
theorem dX11_keeps_4 : decode cX11_keeps 4 = .ok (.aload_n 0, 1) := by decide +kernel
theorem dX11_keeps_5 : decode cX11_keeps 5 = .ok (.iload_n 1, 1) := by decide +kernel
theorem dX11_keeps_6 : decode cX11_keeps 6 = .ok (.invokevirtual 151, 3) := by decide +kernel
theorem dX11_keeps_9 : decode cX11_keeps 9 = .ok (.aload_n 0, 1) := by decide +kernel
theorem dX11_keeps_10 : decode cX11_keeps 10 = .ok (.getfield 19, 3) := by decide +kernel
theorem dX11_keeps_13 : decode cX11_keeps 13 = .ok (.getfield 154, 3) := by decide +kernel
theorem dX11_keeps_16 : decode cX11_keeps 16 = .ok (.invokevirtual 167, 3) := by decide +kernel
theorem dX11_keeps_19 : decode cX11_keeps 19 = .ok (.ireturn, 1) := by decide +kernel
theorem dX11_bars_0 : decode cX11_bars 0 = .ok (.aload_n 0, 1) := by decide +kernel
theorem dX11_bars_1 : decode cX11_bars 1 = .ok (.iload_n 1, 1) := by decide +kernel
theorem dX11_bars_2 : decode cX11_bars 2 = .ok (.invokevirtual 143, 3) := by decide +kernel
theorem dX11_bars_5 : decode cX11_bars 5 = .ok (.astore 5, 2) := by decide +kernel
theorem dX11_bars_7 : decode cX11_bars 7 = .ok (.aload_n 0, 1) := by decide +kernel
theorem dX11_bars_8 : decode cX11_bars 8 = .ok (.iload_n 3, 1) := by decide +kernel
theorem dX11_bars_9 : decode cX11_bars 9 = .ok (.invokevirtual 143, 3) := by decide +kernel
theorem dX11_bars_12 : decode cX11_bars 12 = .ok (.astore 6, 2) := by decide +kernel
theorem dX11_bars_14 : decode cX11_bars 14 = .ok (.aload 5, 2) := by decide +kernel
theorem dX11_bars_16 : decode cX11_bars 16 = .ok (.aload 6, 2) := by decide +kernel
theorem dX11_bars_18 : decode cX11_bars 18 = .ok (.if_acmp .ne 13, 3) := by decide +kernel
theorem dX11_bars_21 : decode cX11_bars 21 = .ok (.new 120, 3) := by decide +kernel
theorem dX11_bars_24 : decode cX11_bars 24 = .ok (.dup, 1) := by decide +kernel
theorem dX11_bars_25 : decode cX11_bars 25 = .ok (.ldc 171, 2) := by decide +kernel
theorem dX11_bars_27 : decode cX11_bars 27 = .ok (.invokespecial 124, 3) := by decide +kernel
theorem dX11_bars_30 : decode cX11_bars 30 = .ok (.athrow, 1) := by decide +kernel
theorem dX11_bars_31 : decode cX11_bars 31 = .ok (.aload_n 0, 1) := by decide +kernel
theorem dX11_bars_32 : decode cX11_bars 32 = .ok (.iload_n 2, 1) := by decide +kernel
theorem dX11_bars_33 : decode cX11_bars 33 = .ok (.invokevirtual 173, 3) := by decide +kernel
theorem dX11_bars_36 : decode cX11_bars 36 = .ok (.aload_n 0, 1) := by decide +kernel
theorem dX11_bars_37 : decode cX11_bars 37 = .ok (.iload 4, 2) := by decide +kernel
theorem dX11_bars_39 : decode cX11_bars 39 = .ok (.invokevirtual 173, 3) := by decide +kernel
theorem dX11_bars_42 : decode cX11_bars 42 = .ok (.aload_n 0, 1) := by decide +kernel
theorem dX11_bars_43 : decode cX11_bars 43 = .ok (.getfield 10, 3) := by decide +kernel
theorem dX11_bars_46 : decode cX11_bars 46 = .ok (.aload 5, 2) := by decide +kernel
theorem dX11_bars_48 : decode cX11_bars 48 = .ok (.aload 6, 2) := by decide +kernel
theorem dX11_bars_50 : decode cX11_bars 50 = .ok (.iload_n 2, 1) := by decide +kernel
theorem dX11_bars_51 : decode cX11_bars 51 = .ok (.iload 4, 2) := by decide +kernel
theorem dX11_bars_53 : decode cX11_bars 53 = .ok (.isub, 1) := by decide +kernel
theorem dX11_bars_54 : decode cX11_bars 54 = .ok (.invokestatic 176, 3) := by decide +kernel
theorem dX11_bars_57 : decode cX11_bars 57 = .ok (.invokevirtual 182, 3) := by decide +kernel
theorem dX11_bars_60 : decode cX11_bars 60 = .ok (.ireturn, 1) := by decide +kernel
theorem dX11_putOn_0 : decode cX11_putOn 0 = .ok (.aload_n 0, 1) := by decide +kernel
theorem dX11_putOn_1 : decode cX11_putOn 1 = .ok (.iload_n 1, 1) := by decide +kernel
theorem dX11_putOn_2 : decode cX11_putOn 2 = .ok (.invokevirtual 143, 3) := by decide +kernel
theorem dX11_putOn_5 : decode cX11_putOn 5 = .ok (.astore_n 3, 1) := by decide +kernel
theorem dX11_putOn_6 : decode cX11_putOn 6 = .ok (.aload_n 0, 1) := by decide +kernel
theorem dX11_putOn_7 : decode cX11_putOn 7 = .ok (.iload_n 2, 1) := by decide +kernel
theorem dX11_putOn_8 : decode cX11_putOn 8 = .ok (.invokevirtual 173, 3) := by decide +kernel
theorem dX11_putOn_11 : decode cX11_putOn 11 = .ok (.aload_n 0, 1) := by decide +kernel
theorem dX11_putOn_12 : decode cX11_putOn 12 = .ok (.getfield 26, 3) := by decide +kernel
theorem dX11_putOn_15 : decode cX11_putOn 15 = .ok (.iload_n 2, 1) := by decide +kernel
theorem dX11_putOn_16 : decode cX11_putOn 16 = .ok (.invokevirtual 186, 3) := by decide +kernel
theorem dX11_putOn_19 : decode cX11_putOn 19 = .ok (.ifCond .eq 43, 3) := by decide +kernel
theorem dX11_putOn_22 : decode cX11_putOn 22 = .ok (.aload_n 0, 1) := by decide +kernel
theorem dX11_putOn_23 : decode cX11_putOn 23 = .ok (.getfield 10, 3) := by decide +kernel
theorem dX11_putOn_26 : decode cX11_putOn 26 = .ok (.aload_n 3, 1) := by decide +kernel
theorem dX11_putOn_27 : decode cX11_putOn 27 = .ok (.invokevirtual 190, 3) := by decide +kernel
theorem dX11_putOn_30 : decode cX11_putOn 30 = .ok (.ifCond .eq 32, 3) := by decide +kernel
theorem dX11_putOn_33 : decode cX11_putOn 33 = .ok (.aload_n 0, 1) := by decide +kernel
theorem dX11_putOn_34 : decode cX11_putOn 34 = .ok (.getfield 26, 3) := by decide +kernel
theorem dX11_putOn_37 : decode cX11_putOn 37 = .ok (.iload_n 1, 1) := by decide +kernel
theorem dX11_putOn_38 : decode cX11_putOn 38 = .ok (.iload_n 2, 1) := by decide +kernel
theorem dX11_putOn_39 : decode cX11_putOn 39 = .ok (.aload_n 0, 1) := by decide +kernel
theorem dX11_putOn_40 : decode cX11_putOn 40 = .ok (.getfield 19, 3) := by decide +kernel
theorem dX11_putOn_43 : decode cX11_putOn 43 = .ok (.getfield 194, 3) := by decide +kernel
theorem dX11_putOn_46 : decode cX11_putOn 46 = .ok (.invokevirtual 197, 3) := by decide +kernel
theorem dX11_putOn_49 : decode cX11_putOn 49 = .ok (.ifCond .ne 13, 3) := by decide +kernel
theorem dX11_putOn_52 : decode cX11_putOn 52 = .ok (.new 97, 3) := by decide +kernel
theorem dX11_putOn_55 : decode cX11_putOn 55 = .ok (.dup, 1) := by decide +kernel
theorem dX11_putOn_56 : decode cX11_putOn 56 = .ok (.ldc 201, 2) := by decide +kernel
theorem dX11_putOn_58 : decode cX11_putOn 58 = .ok (.invokespecial 101, 3) := by decide +kernel
theorem dX11_putOn_61 : decode cX11_putOn 61 = .ok (.athrow, 1) := by decide +kernel
theorem dX11_putOn_62 : decode cX11_putOn 62 = .ok (.aload_n 0, 1) := by decide +kernel
theorem dX11_putOn_63 : decode cX11_putOn 63 = .ok (.getfield 63, 3) := by decide +kernel
theorem dX11_putOn_66 : decode cX11_putOn 66 = .ok (.aload_n 0, 1) := by decide +kernel
theorem dX11_putOn_67 : decode cX11_putOn 67 = .ok (.getfield 19, 3) := by decide +kernel
theorem dX11_putOn_70 : decode cX11_putOn 70 = .ok (.getfield 154, 3) := by decide +kernel
theorem dX11_putOn_73 : decode cX11_putOn 73 = .ok (.invokevirtual 203, 3) := by decide +kernel
theorem dX11_putOn_76 : decode cX11_putOn 76 = .ok (.aload_n 0, 1) := by decide +kernel
theorem dX11_putOn_77 : decode cX11_putOn 77 = .ok (.getfield 63, 3) := by decide +kernel
theorem dX11_putOn_80 : decode cX11_putOn 80 = .ok (.iload_n 1, 1) := by decide +kernel
theorem dX11_putOn_81 : decode cX11_putOn 81 = .ok (.iload_n 2, 1) := by decide +kernel
theorem dX11_putOn_82 : decode cX11_putOn 82 = .ok (.invokevirtual 207, 3) := by decide +kernel
theorem dX11_putOn_85 : decode cX11_putOn 85 = .ok (.aload_n 3, 1) := by decide +kernel
theorem dX11_putOn_86 : decode cX11_putOn 86 = .ok (.getfield 210, 3) := by decide +kernel
theorem dX11_putOn_89 : decode cX11_putOn 89 = .ok (.ifCond .eq 11, 3) := by decide +kernel
theorem dX11_putOn_92 : decode cX11_putOn 92 = .ok (.aload_n 0, 1) := by decide +kernel
theorem dX11_putOn_93 : decode cX11_putOn 93 = .ok (.aload_n 3, 1) := by decide +kernel
theorem dX11_putOn_94 : decode cX11_putOn 94 = .ok (.invokevirtual 214, 3) := by decide +kernel
theorem dX11_putOn_97 : decode cX11_putOn 97 = .ok (.goto 4, 3) := by decide +kernel
theorem dX11_putOn_100 : decode cX11_putOn 100 = .ok (.iconst 0, 1) := by decide +kernel
theorem dX11_putOn_101 : decode cX11_putOn 101 = .ok (.istore 4, 2) := by decide +kernel
theorem dX11_putOn_103 : decode cX11_putOn 103 = .ok (.aload_n 0, 1) := by decide +kernel
theorem dX11_putOn_104 : decode cX11_putOn 104 = .ok (.getfield 10, 3) := by decide +kernel
theorem dX11_putOn_107 : decode cX11_putOn 107 = .ok (.aload_n 0, 1) := by decide +kernel
theorem dX11_putOn_108 : decode cX11_putOn 108 = .ok (.getfield 63, 3) := by decide +kernel
theorem dX11_putOn_111 : decode cX11_putOn 111 = .ok (.invokevirtual 217, 3) := by decide +kernel
theorem dX11_putOn_114 : decode cX11_putOn 114 = .ok (.ifCond .ne 13, 3) := by decide +kernel
theorem dX11_putOn_117 : decode cX11_putOn 117 = .ok (.new 221, 3) := by decide +kernel
theorem dX11_putOn_120 : decode cX11_putOn 120 = .ok (.dup, 1) := by decide +kernel
theorem dX11_putOn_121 : decode cX11_putOn 121 = .ok (.ldc 223, 2) := by decide +kernel
theorem dX11_putOn_123 : decode cX11_putOn 123 = .ok (.invokespecial 225, 3) := by decide +kernel
theorem dX11_putOn_126 : decode cX11_putOn 126 = .ok (.athrow, 1) := by decide +kernel
theorem dX11_putOn_127 : decode cX11_putOn 127 = .ok (.iconst 0, 1) := by decide +kernel
theorem dX11_putOn_128 : decode cX11_putOn 128 = .ok (.istore 5, 2) := by decide +kernel
theorem dX11_putOn_130 : decode cX11_putOn 130 = .ok (.iload 5, 2) := by decide +kernel
theorem dX11_putOn_132 : decode cX11_putOn 132 = .ok (.aload_n 0, 1) := by decide +kernel
theorem dX11_putOn_133 : decode cX11_putOn 133 = .ok (.getfield 10, 3) := by decide +kernel
theorem dX11_putOn_136 : decode cX11_putOn 136 = .ok (.getfield 125, 3) := by decide +kernel
theorem dX11_putOn_139 : decode cX11_putOn 139 = .ok (.invokevirtual 91, 3) := by decide +kernel
theorem dX11_putOn_142 : decode cX11_putOn 142 = .ok (.if_icmp .ge 27, 3) := by decide +kernel
theorem dX11_putOn_145 : decode cX11_putOn 145 = .ok (.aload_n 0, 1) := by decide +kernel
theorem dX11_putOn_146 : decode cX11_putOn 146 = .ok (.getfield 19, 3) := by decide +kernel
theorem dX11_putOn_149 : decode cX11_putOn 149 = .ok (.iload 5, 2) := by decide +kernel
theorem dX11_putOn_151 : decode cX11_putOn 151 = .ok (.aload_n 0, 1) := by decide +kernel
theorem dX11_putOn_152 : decode cX11_putOn 152 = .ok (.getfield 63, 3) := by decide +kernel
theorem dX11_putOn_155 : decode cX11_putOn 155 = .ok (.iload 5, 2) := by decide +kernel
theorem dX11_putOn_157 : decode cX11_putOn 157 = .ok (.invokevirtual 226, 3) := by decide +kernel
theorem dX11_putOn_160 : decode cX11_putOn 160 = .ok (.invokevirtual 229, 3) := by decide +kernel
theorem dX11_putOn_163 : decode cX11_putOn 163 = .ok (.iinc 5 1, 3) := by decide +kernel
theorem dX11_putOn_166 : decode cX11_putOn 166 = .ok (.goto (-36), 3) := by decide +kernel
theorem dX11_putOn_169 : decode cX11_putOn 169 = .ok (.iload 4, 2) := by decide +kernel
theorem dX11_putOn_171 : decode cX11_putOn 171 = .ok (.ireturn, 1) := by decide +kernel
theorem dX11_putOff_0 : decode cX11_putOff 0 = .ok (.aload_n 0, 1) := by decide +kernel
theorem dX11_putOff_1 : decode cX11_putOff 1 = .ok (.iload_n 1, 1) := by decide +kernel
theorem dX11_putOff_2 : decode cX11_putOff 2 = .ok (.invokevirtual 143, 3) := by decide +kernel
theorem dX11_putOff_5 : decode cX11_putOff 5 = .ok (.astore_n 2, 1) := by decide +kernel
theorem dX11_putOff_6 : decode cX11_putOff 6 = .ok (.aload_n 0, 1) := by decide +kernel
