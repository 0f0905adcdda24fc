theorem dX11_addSite_2 : decode cX11_addSite 2 = .ok (.iload_n 2, 1) := by decide +kernel
theorem dX11_addSite_3 : decode cX11_addSite 3 = .ok (.invokevirtual 67, 3) := by decide +kernel
theorem dX11_addSite_6 : decode cX11_addSite 6 = .ok (.aload_n 0, 1) := by decide +kernel
theorem dX11_addSite_7 : decode cX11_addSite 7 = .ok (.iload_n 3, 1) := by decide +kernel
theorem dX11_addSite_8 : decode cX11_addSite 8 = .ok (.iconst 0, 1) := by decide +kernel
theorem dX11_addSite_9 : decode cX11_addSite 9 = .ok (.bipush 99, 2) := by decide +kernel
theorem dX11_addSite_11 : decode cX11_addSite 11 = .ok (.invokevirtual 70, 3) := by decide +kernel
theorem dX11_addSite_14 : decode cX11_addSite 14 = .ok (.aload_n 0, 1) := by decide +kernel
theorem dX11_addSite_15 : decode cX11_addSite 15 = .ok (.getfield 10, 3) := by decide +kernel
theorem dX11_addSite_18 : decode cX11_addSite 18 = .ok (.getfield 77, 3) := by decide +kernel
theorem dX11_addSite_21 : decode cX11_addSite 21 = .ok (.getfield 87, 3) := by decide +kernel
theorem dX11_addSite_24 : decode cX11_addSite 24 = .ok (.invokevirtual 91, 3) := by decide +kernel
theorem dX11_addSite_27 : decode cX11_addSite 27 = .ok (.bipush 10, 2) := by decide +kernel
theorem dX11_addSite_29 : decode cX11_addSite 29 = .ok (.if_icmp .lt 13, 3) := by decide +kernel
theorem dX11_addSite_32 : decode cX11_addSite 32 = .ok (.new 97, 3) := by decide +kernel
theorem dX11_addSite_35 : decode cX11_addSite 35 = .ok (.dup, 1) := by decide +kernel
theorem dX11_addSite_36 : decode cX11_addSite 36 = .ok (.ldc 99, 2) := by decide +kernel
theorem dX11_addSite_38 : decode cX11_addSite 38 = .ok (.invokespecial 101, 3) := by decide +kernel
theorem dX11_addSite_41 : decode cX11_addSite 41 = .ok (.athrow, 1) := by decide +kernel
theorem dX11_addSite_42 : decode cX11_addSite 42 = .ok (.aload_n 0, 1) := by decide +kernel
theorem dX11_addSite_43 : decode cX11_addSite 43 = .ok (.getfield 10, 3) := by decide +kernel
theorem dX11_addSite_46 : decode cX11_addSite 46 = .ok (.getfield 77, 3) := by decide +kernel
theorem dX11_addSite_49 : decode cX11_addSite 49 = .ok (.new 104, 3) := by decide +kernel
theorem dX11_addSite_52 : decode cX11_addSite 52 = .ok (.dup, 1) := by decide +kernel
theorem dX11_addSite_53 : decode cX11_addSite 53 = .ok (.iload_n 1, 1) := by decide +kernel
theorem dX11_addSite_54 : decode cX11_addSite 54 = .ok (.iload_n 2, 1) := by decide +kernel
theorem dX11_addSite_55 : decode cX11_addSite 55 = .ok (.iload_n 3, 1) := by decide +kernel
theorem dX11_addSite_56 : decode cX11_addSite 56 = .ok (.invokespecial 106, 3) := by decide +kernel
theorem dX11_addSite_59 : decode cX11_addSite 59 = .ok (.invokevirtual 108, 3) := by decide +kernel
theorem dX11_addSite_62 : decode cX11_addSite 62 = .ok (.ireturn, 1) := by decide +kernel
theorem dX11_loss_0 : decode cX11_loss 0 = .ok (.aload_n 0, 1) := by decide +kernel
theorem dX11_loss_1 : decode cX11_loss 1 = .ok (.iload_n 1, 1) := by decide +kernel
theorem dX11_loss_2 : decode cX11_loss 2 = .ok (.invokevirtual 112, 3) := by decide +kernel
theorem dX11_loss_5 : decode cX11_loss 5 = .ok (.aload_n 0, 1) := by decide +kernel
theorem dX11_loss_6 : decode cX11_loss 6 = .ok (.iload_n 2, 1) := by decide +kernel
theorem dX11_loss_7 : decode cX11_loss 7 = .ok (.invokevirtual 112, 3) := by decide +kernel
theorem dX11_loss_10 : decode cX11_loss 10 = .ok (.aload_n 0, 1) := by decide +kernel
theorem dX11_loss_11 : decode cX11_loss 11 = .ok (.getfield 10, 3) := by decide +kernel
theorem dX11_loss_14 : decode cX11_loss 14 = .ok (.getfield 77, 3) := by decide +kernel
theorem dX11_loss_17 : decode cX11_loss 17 = .ok (.iload_n 1, 1) := by decide +kernel
theorem dX11_loss_18 : decode cX11_loss 18 = .ok (.iload_n 2, 1) := by decide +kernel
theorem dX11_loss_19 : decode cX11_loss 19 = .ok (.invokevirtual 116, 3) := by decide +kernel
theorem dX11_loss_22 : decode cX11_loss 22 = .ok (.ireturn, 1) := by decide +kernel
theorem dX11_addStation_0 : decode cX11_addStation 0 = .ok (.aload_n 0, 1) := by decide +kernel
theorem dX11_addStation_1 : decode cX11_addStation 1 = .ok (.iload_n 1, 1) := by decide +kernel
theorem dX11_addStation_2 : decode cX11_addStation 2 = .ok (.invokevirtual 112, 3) := by decide +kernel
theorem dX11_addStation_5 : decode cX11_addStation 5 = .ok (.aload_n 0, 1) := by decide +kernel
theorem dX11_addStation_6 : decode cX11_addStation 6 = .ok (.iload_n 2, 1) := by decide +kernel
theorem dX11_addStation_7 : decode cX11_addStation 7 = .ok (.invokevirtual 112, 3) := by decide +kernel
theorem dX11_addStation_10 : decode cX11_addStation 10 = .ok (.iload_n 1, 1) := by decide +kernel
theorem dX11_addStation_11 : decode cX11_addStation 11 = .ok (.iload_n 2, 1) := by decide +kernel
theorem dX11_addStation_12 : decode cX11_addStation 12 = .ok (.if_icmp .ne 13, 3) := by decide +kernel
theorem dX11_addStation_15 : decode cX11_addStation 15 = .ok (.new 120, 3) := by decide +kernel
theorem dX11_addStation_18 : decode cX11_addStation 18 = .ok (.dup, 1) := by decide +kernel
theorem dX11_addStation_19 : decode cX11_addStation 19 = .ok (.ldc 122, 2) := by decide +kernel
theorem dX11_addStation_21 : decode cX11_addStation 21 = .ok (.invokespecial 124, 3) := by decide +kernel
theorem dX11_addStation_24 : decode cX11_addStation 24 = .ok (.athrow, 1) := by decide +kernel
theorem dX11_addStation_25 : decode cX11_addStation 25 = .ok (.aload_n 0, 1) := by decide +kernel
theorem dX11_addStation_26 : decode cX11_addStation 26 = .ok (.iload_n 3, 1) := by decide +kernel
theorem dX11_addStation_27 : decode cX11_addStation 27 = .ok (.iconst 0, 1) := by decide +kernel
theorem dX11_addStation_28 : decode cX11_addStation 28 = .ok (.sipush 500, 3) := by decide +kernel
theorem dX11_addStation_31 : decode cX11_addStation 31 = .ok (.invokevirtual 70, 3) := by decide +kernel
theorem dX11_addStation_34 : decode cX11_addStation 34 = .ok (.aload_n 0, 1) := by decide +kernel
theorem dX11_addStation_35 : decode cX11_addStation 35 = .ok (.getfield 10, 3) := by decide +kernel
theorem dX11_addStation_38 : decode cX11_addStation 38 = .ok (.getfield 125, 3) := by decide +kernel
theorem dX11_addStation_41 : decode cX11_addStation 41 = .ok (.invokevirtual 91, 3) := by decide +kernel
theorem dX11_addStation_44 : decode cX11_addStation 44 = .ok (.istore 5, 2) := by decide +kernel
theorem dX11_addStation_46 : decode cX11_addStation 46 = .ok (.iload 5, 2) := by decide +kernel
theorem dX11_addStation_48 : decode cX11_addStation 48 = .ok (.bipush 8, 2) := by decide +kernel
theorem dX11_addStation_50 : decode cX11_addStation 50 = .ok (.if_icmp .lt 13, 3) := by decide +kernel
theorem dX11_addStation_53 : decode cX11_addStation 53 = .ok (.new 97, 3) := by decide +kernel
theorem dX11_addStation_56 : decode cX11_addStation 56 = .ok (.dup, 1) := by decide +kernel
theorem dX11_addStation_57 : decode cX11_addStation 57 = .ok (.ldc 128, 2) := by decide +kernel
theorem dX11_addStation_59 : decode cX11_addStation 59 = .ok (.invokespecial 101, 3) := by decide +kernel
theorem dX11_addStation_62 : decode cX11_addStation 62 = .ok (.athrow, 1) := by decide +kernel
theorem dX11_addStation_63 : decode cX11_addStation 63 = .ok (.aload_n 0, 1) := by decide +kernel
theorem dX11_addStation_64 : decode cX11_addStation 64 = .ok (.getfield 10, 3) := by decide +kernel
theorem dX11_addStation_67 : decode cX11_addStation 67 = .ok (.getfield 125, 3) := by decide +kernel
theorem dX11_addStation_70 : decode cX11_addStation 70 = .ok (.new 130, 3) := by decide +kernel
theorem dX11_addStation_73 : decode cX11_addStation 73 = .ok (.dup, 1) := by decide +kernel
theorem dX11_addStation_74 : decode cX11_addStation 74 = .ok (.iload 5, 2) := by decide +kernel
theorem dX11_addStation_76 : decode cX11_addStation 76 = .ok (.iload_n 1, 1) := by decide +kernel
theorem dX11_addStation_77 : decode cX11_addStation 77 = .ok (.iload_n 2, 1) := by decide +kernel
theorem dX11_addStation_78 : decode cX11_addStation 78 = .ok (.iload_n 3, 1) := by decide +kernel
theorem dX11_addStation_79 : decode cX11_addStation 79 = .ok (.iload 4, 2) := by decide +kernel
theorem dX11_addStation_81 : decode cX11_addStation 81 = .ok (.invokespecial 132, 3) := by decide +kernel
theorem dX11_addStation_84 : decode cX11_addStation 84 = .ok (.invokevirtual 135, 3) := by decide +kernel
theorem dX11_addStation_87 : decode cX11_addStation 87 = .ok (.pop, 1) := by decide +kernel
theorem dX11_addStation_88 : decode cX11_addStation 88 = .ok (.iload 5, 2) := by decide +kernel
theorem dX11_addStation_90 : decode cX11_addStation 90 = .ok (.ireturn, 1) := by decide +kernel
theorem dX11_setRatio_0 : decode cX11_setRatio 0 = .ok (.aload_n 0, 1) := by decide +kernel
theorem dX11_setRatio_1 : decode cX11_setRatio 1 = .ok (.iload_n 1, 1) := by decide +kernel
theorem dX11_setRatio_2 : decode cX11_setRatio 2 = .ok (.iconst 0, 1) := by decide +kernel
theorem dX11_setRatio_3 : decode cX11_setRatio 3 = .ok (.sipush 500, 3) := by decide +kernel
theorem dX11_setRatio_6 : decode cX11_setRatio 6 = .ok (.invokevirtual 70, 3) := by decide +kernel
theorem dX11_setRatio_9 : decode cX11_setRatio 9 = .ok (.aload_n 0, 1) := by decide +kernel
theorem dX11_setRatio_10 : decode cX11_setRatio 10 = .ok (.invokevirtual 74, 3) := by decide +kernel
theorem dX11_setRatio_13 : decode cX11_setRatio 13 = .ok (.aload_n 0, 1) := by decide +kernel
theorem dX11_setRatio_14 : decode cX11_setRatio 14 = .ok (.getfield 10, 3) := by decide +kernel
theorem dX11_setRatio_17 : decode cX11_setRatio 17 = .ok (.getfield 139, 3) := by decide +kernel
theorem dX11_setRatio_20 : decode cX11_setRatio 20 = .ok (.istore_n 2, 1) := by decide +kernel
theorem dX11_setRatio_21 : decode cX11_setRatio 21 = .ok (.aload_n 0, 1) := by decide +kernel
theorem dX11_setRatio_22 : decode cX11_setRatio 22 = .ok (.getfield 10, 3) := by decide +kernel
theorem dX11_setRatio_25 : decode cX11_setRatio 25 = .ok (.iload_n 1, 1) := by decide +kernel
theorem dX11_setRatio_26 : decode cX11_setRatio 26 = .ok (.putfield 139, 3) := by decide +kernel
theorem dX11_setRatio_29 : decode cX11_setRatio 29 = .ok (.iload_n 2, 1) := by decide +kernel
theorem dX11_setRatio_30 : decode cX11_setRatio 30 = .ok (.ireturn, 1) := by decide +kernel
theorem dX11_level_0 : decode cX11_level 0 = .ok (.aload_n 0, 1) := by decide +kernel
theorem dX11_level_1 : decode cX11_level 1 = .ok (.getfield 10, 3) := by decide +kernel
theorem dX11_level_4 : decode cX11_level 4 = .ok (.aload_n 0, 1) := by decide +kernel
theorem dX11_level_5 : decode cX11_level 5 = .ok (.iload_n 1, 1) := by decide +kernel
theorem dX11_level_6 : decode cX11_level 6 = .ok (.invokevirtual 143, 3) := by decide +kernel
theorem dX11_level_9 : decode cX11_level 9 = .ok (.invokevirtual 147, 3) := by decide +kernel
theorem dX11_level_12 : decode cX11_level 12 = .ok (.ireturn, 1) := by decide +kernel
theorem dX11_harm_0 : decode cX11_harm 0 = .ok (.aload_n 0, 1) := by decide +kernel
theorem dX11_harm_1 : decode cX11_harm 1 = .ok (.getfield 10, 3) := by decide +kernel
theorem dX11_harm_4 : decode cX11_harm 4 = .ok (.aload_n 0, 1) := by decide +kernel
theorem dX11_harm_5 : decode cX11_harm 5 = .ok (.iload_n 1, 1) := by decide +kernel
theorem dX11_harm_6 : decode cX11_harm 6 = .ok (.invokevirtual 151, 3) := by decide +kernel
theorem dX11_harm_9 : decode cX11_harm 9 = .ok (.aload_n 0, 1) := by decide +kernel
theorem dX11_harm_10 : decode cX11_harm 10 = .ok (.getfield 19, 3) := by decide +kernel
theorem dX11_harm_13 : decode cX11_harm 13 = .ok (.getfield 154, 3) := by decide +kernel
theorem dX11_harm_16 : decode cX11_harm 16 = .ok (.invokevirtual 157, 3) := by decide +kernel
theorem dX11_harm_19 : decode cX11_harm 19 = .ok (.istore_n 2, 1) := by decide +kernel
theorem dX11_harm_20 : decode cX11_harm 20 = .ok (.iload_n 2, 1) := by decide +kernel
theorem dX11_harm_21 : decode cX11_harm 21 = .ok (.ldc 161, 2) := by decide +kernel
theorem dX11_harm_23 : decode cX11_harm 23 = .ok (.if_icmp .ne 13, 3) := by decide +kernel
theorem dX11_harm_26 : decode cX11_harm 26 = .ok (.new 162, 3) := by decide +kernel
theorem dX11_harm_29 : decode cX11_harm 29 = .ok (.dup, 1) := by decide +kernel
theorem dX11_harm_30 : decode cX11_harm 30 = .ok (.ldc 164, 2) := by decide +kernel
theorem dX11_harm_32 : decode cX11_harm 32 = .ok (.invokespecial 166, 3) := by decide +kernel
theorem dX11_harm_35 : decode cX11_harm 35 = .ok (.athrow, 1) := by decide +kernel
theorem dX11_harm_36 : decode cX11_harm 36 = .ok (.iload_n 2, 1) := by decide +kernel
theorem dX11_harm_37 : decode cX11_harm 37 = .ok (.ireturn, 1) := by decide +kernel
theorem dX11_keeps_0 : decode cX11_keeps 0 = .ok (.aload_n 0, 1) := by decide +kernel
theorem dX11_keeps_1 : decode cX11_keeps 1 = .ok (.getfield 10, 3) := by decide +kernel
theorem dX11_keeps_4 : decode cX11_keeps 4 = .ok (.aload_n 0, 1) := by decide +kernel
theorem dX11_keeps_5 : decode cX11_keeps 5 = .ok (.iload_n 1, 1) := by decide +kernel
theorem dX11_keeps_6 : decode cX11_keeps 6 = .ok (.invokevirtual 151, 3) := by decide +kernel
theorem dX11_keeps_9 : decode cX11_keeps 9 = .ok (.aload_n 0, 1) := by decide +kernel
theorem dX11_keeps_10 : decode cX11_keeps 10 = .ok (.getfield 19, 3) := by decide +kernel
theorem dX11_keeps_13 : decode cX11_keeps 13 = .ok (.getfield 154, 3) := by decide +kernel
theorem dX11_keeps_16 : decode cX11_keeps 16 = .ok (.invokevirtual 167, 3) := by decide +kernel
theorem dX11_keeps_19 : decode cX11_keeps 19 = .ok (.ireturn, 1) := by decide +kernel
theorem dX11_bars_0 : decode cX11_bars 0 = .ok (.aload_n 0, 1) := by decide +kernel
theorem dX11_bars_1 : decode cX11_bars 1 = .ok (.iload_n 1, 1) := by decide +kernel
theorem dX11_bars_2 : decode cX11_bars 2 = .ok (.invokevirtual 143, 3) := by decide +kernel
theorem dX11_bars_5 : decode cX11_bars 5 = .ok (.astore 5, 2) := by decide +kernel
theorem dX11_bars_7 : decode cX11_bars 7 = .ok (.aload_n 0, 1) := by decide +kernel
theorem dX11_bars_8 : decode cX11_bars 8 = .ok (.iload_n 3, 1) := by decide +kernel
theorem dX11_bars_9 : decode cX11_bars 9 = .ok (.invokevirtual 143, 3) := by decide +kernel
theorem dX11_bars_12 : decode cX11_bars 12 = .ok (.astore 6, 2) := by decide +kernel
theorem dX11_bars_14 : decode cX11_bars 14 = .ok (.aload 5, 2) := by decide +kernel
theorem dX11_bars_16 : decode cX11_bars 16 = .ok (.aload 6, 2) := by decide +kernel
theorem dX11_bars_18 : decode cX11_bars 18 = .ok (.if_acmp .ne 13, 3) := by decide +kernel
theorem dX11_bars_21 : decode cX11_bars 21 = .ok (.new 120, 3) := by decide +kernel
theorem dX11_bars_24 : decode cX11_bars 24 = .ok (.dup, 1) := by decide +kernel
theorem dX11_bars_25 : decode cX11_bars 25 = .ok (.ldc 171, 2) := by decide +kernel
theorem dX11_bars_27 : decode cX11_bars 27 = .ok (.invokespecial 124, 3) := by decide +kernel
theorem dX11_bars_30 : decode cX11_bars 30 = .ok (.athrow, 1) := by decide +kernel
theorem dX11_bars_31 : decode cX11_bars 31 = .ok (.aload_n 0, 1) := by decide +kernel
theorem dX11_bars_32 : decode cX11_bars 32 = .ok (.iload_n 2, 1) := by decide +kernel
theorem dX11_bars_33 : decode cX11_bars 33 = .ok (.invokevirtual 173, 3) := by decide +kernel
theorem dX11_bars_36 : decode cX11_bars 36 = .ok (.aload_n 0, 1) := by decide +kernel
theorem dX11_bars_37 : decode cX11_bars 37 = .ok (.iload 4, 2) := by decide +kernel
theorem dX11_bars_39 : decode cX11_bars 39 = .ok (.invokevirtual 173, 3) := by decide +kernel
theorem dX11_bars_42 : decode cX11_bars 42 = .ok (.aload_n 0, 1) := by decide +kernel
theorem dX11_bars_43 : decode cX11_bars 43 = .ok (.getfield 10, 3) := by decide +kernel
theorem dX11_bars_46 : decode cX11_bars 46 = .ok (.aload 5, 2) := by decide +kernel
theorem dX11_bars_48 : decode cX11_bars 48 = .ok (.aload 6, 2) := by decide +kernel
theorem dX11_bars_50 : decode cX11_bars 50 = .ok (.iload_n 2, 1) := by decide +kernel
theorem dX11_bars_51 : decode cX11_bars 51 = .ok (.iload 4, 2) := by decide +kernel
theorem dX11_bars_53 : decode cX11_bars 53 = .ok (.isub, 1) := by decide +kernel
theorem dX11_bars_54 : decode cX11_bars 54 = .ok (.invokestatic 176, 3) := by decide +kernel
theorem dX11_bars_57 : decode cX11_bars 57 = .ok (.invokevirtual 182, 3) := by decide +kernel
theorem dX11_bars_60 : decode cX11_bars 60 = .ok (.ireturn, 1) := by decide +kernel
theorem dX11_putOn_0 : decode cX11_putOn 0 = .ok (.aload_n 0, 1) := by decide +kernel
theorem dX11_putOn_1 : decode cX11_putOn 1 = .ok (.iload_n 1, 1) := by decide +kernel
theorem dX11_putOn_2 : decode cX11_putOn 2 = .ok (.invokevirtual 143, 3) := by decide +kernel
theorem dX11_putOn_5 : decode cX11_putOn 5 = .ok (.astore_n 3, 1) := by decide +kernel
theorem dX11_putOn_6 : decode cX11_putOn 6 = .ok (.aload_n 0, 1) := by decide +kernel
theorem dX11_putOn_7 : decode cX11_putOn 7 = .ok (.iload_n 2, 1) := by decide +kernel
theorem dX11_putOn_8 : decode cX11_putOn 8 = .ok (.invokevirtual 173, 3) := by decide +kernel
theorem dX11_putOn_11 : decode cX11_putOn 11 = .ok (.aload_n 0, 1) := by decide +kernel
theorem dX11_putOn_12 : decode cX11_putOn 12 = .ok (.getfield 26, 3) := by decide +kernel
theorem dX11_putOn_15 : decode cX11_putOn 15 = .ok (.iload_n 2, 1) := by decide +kernel
theorem dX11_putOn_16 : decode cX11_putOn 16 = .ok (.invokevirtual 186, 3) := by decide +kernel
theorem dX11_putOn_19 : decode cX11_putOn 19 = .ok (.ifCond .eq 43, 3) := by decide +kernel
theorem dX11_putOn_22 : decode cX11_putOn 22 = .ok (.aload_n 0, 1) := by decide +kernel
theorem dX11_putOn_23 : decode cX11_putOn 23 = .ok (.getfield 10, 3) := by decide +kernel
theorem dX11_putOn_26 : decode cX11_putOn 26 = .ok (.aload_n 3, 1) := by decide +kernel
theorem dX11_putOn_27 : decode cX11_putOn 27 = .ok (.invokevirtual 190, 3) := by decide +kernel
theorem dX11_putOn_30 : decode cX11_putOn 30 = .ok (.ifCond .eq 32, 3) := by decide +kernel
theorem dX11_putOn_33 : decode cX11_putOn 33 = .ok (.aload_n 0, 1) := by decide +kernel
theorem dX11_putOn_34 : decode cX11_putOn 34 = .ok (.getfield 26, 3) := by decide +kernel
theorem dX11_putOn_37 : decode cX11_putOn 37 = .ok (.iload_n 1, 1) := by decide +kernel
theorem dX11_putOn_38 : decode cX11_putOn 38 = .ok (.iload_n 2, 1) := by decide +kernel
theorem dX11_putOn_39 : decode cX11_putOn 39 = .ok (.aload_n 0, 1) := by decide +kernel
theorem dX11_putOn_40 : decode cX11_putOn 40 = .ok (.getfield 19, 3) := by decide +kernel
theorem dX11_putOn_43 : decode cX11_putOn 43 = .ok (.getfield 194, 3) := by decide +kernel
theorem dX11_putOn_46 : decode cX11_putOn 46 = .ok (.invokevirtual 197, 3) := by decide +kernel
theorem dX11_putOn_49 : decode cX11_putOn 49 = .ok (.ifCond .ne 13, 3) := by decide +kernel
theorem dX11_putOn_52 : decode cX11_putOn 52 = .ok (.new 97, 3) := by decide +kernel
theorem dX11_putOn_55 : decode cX11_putOn 55 = .ok (.dup, 1) := by decide +kernel
theorem dX11_putOn_56 : decode cX11_putOn 56 = .ok (.ldc 201, 2) := by decide +kernel
theorem dX11_putOn_58 : decode cX11_putOn 58 = .ok (.invokespecial 101, 3) := by decide +kernel
theorem dX11_putOn_61 : decode cX11_putOn 61 = .ok (.athrow, 1) := by decide +kernel
theorem dX11_putOn_62 : decode cX11_putOn 62 = .ok (.aload_n 0, 1) := by decide +kernel
theorem dX11_putOn_63 : decode cX11_putOn 63 = .ok (.getfield 63, 3) := by decide +kernel
theorem dX11_putOn_66 : decode cX11_putOn 66 = .ok (.aload_n 0, 1) := by decide +kernel
theorem dX11_putOn_67 : decode cX11_putOn 67 = .ok (.getfield 19, 3) := by decide +kernel
theorem dX11_putOn_70 : decode cX11_putOn 70 = .ok (.getfield 154, 3) := by decide +kernel
theorem dX11_putOn_73 : decode cX11_putOn 73 = .ok (.invokevirtual 203, 3) := by decide +kernel
theorem dX11_putOn_76 : decode cX11_putOn 76 = .ok (.aload_n 0, 1) := by decide +kernel
theorem dX11_putOn_77 : decode cX11_putOn 77 = .ok (.getfield 63, 3) := by decide +kernel
theorem dX11_putOn_80 : decode cX11_putOn 80 = .ok (.iload_n 1, 1) := by decide +kernel
theorem dX11_putOn_81 : decode cX11_putOn 81 = .ok (.iload_n 2, 1) := by decide +kernel
theorem dX11_putOn_82 : decode cX11_putOn 82 = .ok (.invokevirtual 207, 3) := by decide +kernel
theorem dX11_putOn_85 : decode cX11_putOn 85 = .ok (.aload_n 3, 1) := by decide +kernel
theorem dX11_putOn_86 : decode cX11_putOn 86 = .ok (.getfield 210, 3) := by decide +kernel
theorem dX11_putOn_89 : decode cX11_putOn 89 = .ok (.ifCond .eq 11, 3) := by decide +kernel
theorem dX11_putOn_92 : decode cX11_putOn 92 = .ok (.aload_n 0, 1) := by decide +kernel
theorem dX11_putOn_93 : decode cX11_putOn 93 = .ok (.aload_n 3, 1) := by decide +kernel
theorem dX11_putOn_94 : decode cX11_putOn 94 = .ok (.invokevirtual 214, 3) := by decide +kernel
theorem dX11_putOn_97 : decode cX11_putOn 97 = .ok (.goto 4, 3) := by decide +kernel
theorem dX11_putOn_100 : decode cX11_putOn 100 = .ok (.iconst 0, 1) := by decide +kernel
theorem dX11_putOn_101 : decode cX11_putOn 101 = .ok (.istore 4, 2) := by decide +kernel
theorem dX11_putOn_103 : decode cX11_putOn 103 = .ok (.aload_n 0, 1) := by decide +kernel
theorem dX11_putOn_104 : decode cX11_putOn 104 = .ok (.getfield 10, 3) := by decide +kernel
theorem dX11_putOn_107 : decode cX11_putOn 107 = .ok (.aload_n 0, 1) := by decide +kernel
theorem dX11_putOn_108 : decode cX11_putOn 108 = .ok (.getfield 63, 3) := by decide +kernel
theorem dX11_putOn_111 : decode cX11_putOn 111 = .ok (.invokevirtual 217, 3) := by decide +kernel
theorem dX11_putOn_114 : decode cX11_putOn 114 = .ok (.ifCond .ne 13, 3) := by decide +kernel
theorem dX11_putOn_117 : decode cX11_putOn 117 = .ok (.new 221, 3) := by decide +kernel
theorem dX11_putOn_120 : decode cX11_putOn 120 = .ok (.dup, 1) := by decide +kernel
theorem dX11_putOn_121 : decode cX11_putOn 121 = .ok (.ldc 223, 2) := by decide +kernel
theorem dX11_putOn_123 : decode cX11_putOn 123 = .ok (.invokespecial 225, 3) := by decide +kernel
theorem dX11_putOn_126 : decode cX11_putOn 126 = .ok (.athrow, 1) := by decide +kernel
theorem dX11_putOn_127 : decode cX11_putOn 127 = .ok (.iconst 0, 1) := by decide +kernel
theorem dX11_putOn_128 : decode cX11_putOn 128 = .ok (.istore 5, 2) := by decide +kernel
theorem dX11_putOn_130 : decode cX11_putOn 130 = .ok (.iload 5, 2) := by decide +kernel
theorem dX11_putOn_132 : decode cX11_putOn 132 = .ok (.aload_n 0, 1) := by decide +kernel
theorem dX11_putOn_133 : decode cX11_putOn 133 = .ok (.getfield 10, 3) := by decide +kernel
theorem dX11_putOn_136 : decode cX11_putOn 136 = .ok (.getfield 125, 3) := by decide +kernel
theorem dX11_putOn_139 : decode cX11_putOn 139 = .ok (.invokevirtual 91, 3) := by decide +kernel
theorem dX11_putOn_142 : decode cX11_putOn 142 = .ok (.if_icmp .ge 27, 3) := by decide +kernel
theorem dX11_putOn_145 : decode cX11_putOn 145 = .ok (.aload_n 0, 1) := by decide +kernel
theorem dX11_putOn_146 : decode cX11_putOn 146 = .ok (.getfield 19, 3) := by decide +kernel
theorem dX11_putOn_149 : decode cX11_putOn 149 = .ok (.iload 5, 2) := by decide +kernel
theorem dX11_putOn_151 : decode cX11_putOn 151 = .ok (.aload_n 0, 1) := by decide +kernel
theorem dX11_putOn_152 : decode cX11_putOn 152 = .ok (.getfield 63, 3) := by decide +kernel
theorem dX11_putOn_155 : decode cX11_putOn 155 = .ok (.iload 5, 2) := by decide +kernel
theorem dX11_putOn_157 : decode cX11_putOn 157 = .ok (.invokevirtual 226, 3) := by decide +kernel
theorem dX11_putOn_160 : decode cX11_putOn 160 = .ok (.invokevirtual 229, 3) := by decide +kernel
theorem dX11_putOn_163 : decode cX11_putOn 163 = .ok (.iinc 5 1, 3) := by decide +kernel
theorem dX11_putOn_166 : decode cX11_putOn 166 = .ok (.goto (-36), 3) := by decide +kernel
theorem dX11_putOn_169 : decode cX11_putOn 169 = .ok (.iload 4, 2) := by decide +kernel
theorem dX11_putOn_171 : decode cX11_putOn 171 = .ok (.ireturn, 1) := by decide +kernel
theorem dX11_putOff_0 : decode cX11_putOff 0 = .ok (.aload_n 0, 1) := by decide +kernel
theorem dX11_putOff_1 : decode cX11_putOff 1 = .ok (.iload_n 1, 1) := by decide +kernel
theorem dX11_putOff_2 : decode cX11_putOff 2 = .ok (.invokevirtual 143, 3) := by decide +kernel
theorem dX11_putOff_5 : decode cX11_putOff 5 = .ok (.astore_n 2, 1) := by decide +kernel
theorem dX11_putOff_6 : decode cX11_putOff 6 = .ok (.aload_n 0, 1) := by decide +kernel
theorem dX11_putOff_7 : decode cX11_putOff 7 = .ok (.getfield 19, 3) := by decide +kernel
theorem dX11_putOff_10 : decode cX11_putOff 10 = .ok (.getfield 154, 3) := by decide +kernel
theorem dX11_putOff_13 : decode cX11_putOff 13 = .ok (.aload_n 2, 1) := by decide +kernel
theorem dX11_putOff_14 : decode cX11_putOff 14 = .ok (.getfield 232, 3) := by decide +kernel
theorem dX11_putOff_17 : decode cX11_putOff 17 = .ok (.invokevirtual 226, 3) := by decide +kernel
theorem dX11_putOff_20 : decode cX11_putOff 20 = .ok (.istore_n 3, 1) := by decide +kernel
theorem dX11_putOff_21 : decode cX11_putOff 21 = .ok (.aload_n 0, 1) := by decide +kernel
theorem dX11_putOff_22 : decode cX11_putOff 22 = .ok (.getfield 19, 3) := by decide +kernel
theorem dX11_putOff_25 : decode cX11_putOff 25 = .ok (.aload_n 2, 1) := by decide +kernel
theorem dX11_putOff_26 : decode cX11_putOff 26 = .ok (.getfield 232, 3) := by decide +kernel
theorem dX11_putOff_29 : decode cX11_putOff 29 = .ok (.iconst (-1), 1) := by decide +kernel
theorem dX11_putOff_30 : decode cX11_putOff 30 = .ok (.invokevirtual 229, 3) := by decide +kernel
theorem dX11_putOff_33 : decode cX11_putOff 33 = .ok (.iload_n 3, 1) := by decide +kernel
theorem dX11_putOff_34 : decode cX11_putOff 34 = .ok (.ireturn, 1) := by decide +kernel
theorem dX11_channelOf_0 : decode cX11_channelOf 0 = .ok (.aload_n 0, 1) := by decide +kernel
theorem dX11_channelOf_1 : decode cX11_channelOf 1 = .ok (.iload_n 1, 1) := by decide +kernel
theorem dX11_channelOf_2 : decode cX11_channelOf 2 = .ok (.invokevirtual 143, 3) := by decide +kernel
theorem dX11_channelOf_5 : decode cX11_channelOf 5 = .ok (.astore_n 3, 1) := by decide +kernel
theorem dX11_channelOf_6 : decode cX11_channelOf 6 = .ok (.aload_n 0, 1) := by decide +kernel
theorem dX11_channelOf_7 : decode cX11_channelOf 7 = .ok (.iload_n 2, 1) := by decide +kernel
theorem dX11_channelOf_8 : decode cX11_channelOf 8 = .ok (.iconst 0, 1) := by decide +kernel
theorem dX11_channelOf_9 : decode cX11_channelOf 9 = .ok (.aload_n 0, 1) := by decide +kernel
theorem dX11_channelOf_10 : decode cX11_channelOf 10 = .ok (.getfield 19, 3) := by decide +kernel
theorem dX11_channelOf_13 : decode cX11_channelOf 13 = .ok (.getfield 194, 3) := by decide +kernel
theorem dX11_channelOf_16 : decode cX11_channelOf 16 = .ok (.invokevirtual 70, 3) := by decide +kernel
theorem dX11_channelOf_19 : decode cX11_channelOf 19 = .ok (.aload_n 0, 1) := by decide +kernel
theorem dX11_channelOf_20 : decode cX11_channelOf 20 = .ok (.getfield 19, 3) := by decide +kernel
theorem dX11_channelOf_23 : decode cX11_channelOf 23 = .ok (.aload_n 3, 1) := by decide +kernel
theorem dX11_channelOf_24 : decode cX11_channelOf 24 = .ok (.getfield 232, 3) := by decide +kernel
theorem dX11_channelOf_27 : decode cX11_channelOf 27 = .ok (.iload_n 2, 1) := by decide +kernel
theorem dX11_channelOf_28 : decode cX11_channelOf 28 = .ok (.invokevirtual 235, 3) := by decide +kernel
theorem dX11_channelOf_31 : decode cX11_channelOf 31 = .ok (.ireturn, 1) := by decide +kernel
theorem dX11_setForeign_0 : decode cX11_setForeign 0 = .ok (.aload_n 0, 1) := by decide +kernel
theorem dX11_setForeign_1 : decode cX11_setForeign 1 = .ok (.iload_n 1, 1) := by decide +kernel
theorem dX11_setForeign_2 : decode cX11_setForeign 2 = .ok (.invokevirtual 173, 3) := by decide +kernel
theorem dX11_setForeign_5 : decode cX11_setForeign 5 = .ok (.aload_n 0, 1) := by decide +kernel
theorem dX11_setForeign_6 : decode cX11_setForeign 6 = .ok (.getfield 26, 3) := by decide +kernel
theorem dX11_setForeign_9 : decode cX11_setForeign 9 = .ok (.iload_n 1, 1) := by decide +kernel
theorem dX11_setForeign_10 : decode cX11_setForeign 10 = .ok (.invokevirtual 186, 3) := by decide +kernel
theorem dX11_setForeign_13 : decode cX11_setForeign 13 = .ok (.istore_n 3, 1) := by decide +kernel
theorem dX11_setForeign_14 : decode cX11_setForeign 14 = .ok (.aload_n 0, 1) := by decide +kernel
theorem dX11_setForeign_15 : decode cX11_setForeign 15 = .ok (.getfield 26, 3) := by decide +kernel
theorem dX11_setForeign_18 : decode cX11_setForeign 18 = .ok (.iload_n 1, 1) := by decide +kernel
theorem dX11_setForeign_19 : decode cX11_setForeign 19 = .ok (.iload_n 2, 1) := by decide +kernel
theorem dX11_setForeign_20 : decode cX11_setForeign 20 = .ok (.invokevirtual 238, 3) := by decide +kernel
theorem dX11_setForeign_23 : decode cX11_setForeign 23 = .ok (.iload_n 3, 1) := by decide +kernel
theorem dX11_setForeign_24 : decode cX11_setForeign 24 = .ok (.ireturn, 1) := by decide +kernel
theorem dX11_askAbroad_0 : decode cX11_askAbroad 0 = .ok (.aload_n 0, 1) := by decide +kernel
theorem dX11_askAbroad_1 : decode cX11_askAbroad 1 = .ok (.iload_n 1, 1) := by decide +kernel
theorem dX11_askAbroad_2 : decode cX11_askAbroad 2 = .ok (.invokevirtual 143, 3) := by decide +kernel
theorem dX11_askAbroad_5 : decode cX11_askAbroad 5 = .ok (.astore_n 3, 1) := by decide +kernel
theorem dX11_askAbroad_6 : decode cX11_askAbroad 6 = .ok (.aload_n 0, 1) := by decide +kernel
theorem dX11_askAbroad_7 : decode cX11_askAbroad 7 = .ok (.iload_n 2, 1) := by decide +kernel
theorem dX11_askAbroad_8 : decode cX11_askAbroad 8 = .ok (.invokevirtual 173, 3) := by decide +kernel
theorem dX11_askAbroad_11 : decode cX11_askAbroad 11 = .ok (.aload_n 0, 1) := by decide +kernel
theorem dX11_askAbroad_12 : decode cX11_askAbroad 12 = .ok (.getfield 26, 3) := by decide +kernel
theorem dX11_askAbroad_15 : decode cX11_askAbroad 15 = .ok (.aload_n 3, 1) := by decide +kernel
theorem dX11_askAbroad_16 : decode cX11_askAbroad 16 = .ok (.getfield 232, 3) := by decide +kernel
theorem dX11_askAbroad_19 : decode cX11_askAbroad 19 = .ok (.iload_n 2, 1) := by decide +kernel
theorem dX11_askAbroad_20 : decode cX11_askAbroad 20 = .ok (.aload_n 0, 1) := by decide +kernel
theorem dX11_askAbroad_21 : decode cX11_askAbroad 21 = .ok (.getfield 19, 3) := by decide +kernel
theorem dX11_askAbroad_24 : decode cX11_askAbroad 24 = .ok (.getfield 194, 3) := by decide +kernel
theorem dX11_askAbroad_27 : decode cX11_askAbroad 27 = .ok (.invokevirtual 242, 3) := by decide +kernel
theorem dX11_askAbroad_30 : decode cX11_askAbroad 30 = .ok (.ireturn, 1) := by decide +kernel
theorem dX11_object_0 : decode cX11_object 0 = .ok (.aload_n 0, 1) := by decide +kernel
theorem dX11_object_1 : decode cX11_object 1 = .ok (.iload_n 1, 1) := by decide +kernel
theorem dX11_object_2 : decode cX11_object 2 = .ok (.invokevirtual 143, 3) := by decide +kernel
theorem dX11_object_5 : decode cX11_object 5 = .ok (.astore_n 3, 1) := by decide +kernel
theorem dX11_object_6 : decode cX11_object 6 = .ok (.aload_n 0, 1) := by decide +kernel
theorem dX11_object_7 : decode cX11_object 7 = .ok (.iload_n 2, 1) := by decide +kernel
theorem dX11_object_8 : decode cX11_object 8 = .ok (.invokevirtual 173, 3) := by decide +kernel
theorem dX11_object_11 : decode cX11_object 11 = .ok (.aload_n 0, 1) := by decide +kernel
theorem dX11_object_12 : decode cX11_object 12 = .ok (.getfield 26, 3) := by decide +kernel
theorem dX11_object_15 : decode cX11_object 15 = .ok (.aload_n 3, 1) := by decide +kernel
theorem dX11_object_16 : decode cX11_object 16 = .ok (.getfield 232, 3) := by decide +kernel
theorem dX11_object_19 : decode cX11_object 19 = .ok (.iload_n 2, 1) := by decide +kernel
theorem dX11_object_20 : decode cX11_object 20 = .ok (.invokevirtual 245, 3) := by decide +kernel
theorem dX11_object_23 : decode cX11_object 23 = .ok (.ifCond .ne 13, 3) := by decide +kernel
theorem dX11_object_26 : decode cX11_object 26 = .ok (.new 162, 3) := by decide +kernel
theorem dX11_object_29 : decode cX11_object 29 = .ok (.dup, 1) := by decide +kernel
theorem dX11_object_30 : decode cX11_object 30 = .ok (.ldc 249, 2) := by decide +kernel
theorem dX11_object_32 : decode cX11_object 32 = .ok (.invokespecial 166, 3) := by decide +kernel
theorem dX11_object_35 : decode cX11_object 35 = .ok (.athrow, 1) := by decide +kernel
theorem dX11_object_36 : decode cX11_object 36 = .ok (.aload_n 0, 1) := by decide +kernel
theorem dX11_object_37 : decode cX11_object 37 = .ok (.getfield 26, 3) := by decide +kernel
theorem dX11_object_40 : decode cX11_object 40 = .ok (.aload_n 3, 1) := by decide +kernel
theorem dX11_object_41 : decode cX11_object 41 = .ok (.getfield 232, 3) := by decide +kernel
theorem dX11_object_44 : decode cX11_object 44 = .ok (.iload_n 2, 1) := by decide +kernel
theorem dX11_object_45 : decode cX11_object 45 = .ok (.aload_n 0, 1) := by decide +kernel
theorem dX11_object_46 : decode cX11_object 46 = .ok (.getfield 19, 3) := by decide +kernel
theorem dX11_object_49 : decode cX11_object 49 = .ok (.getfield 194, 3) := by decide +kernel
theorem dX11_object_52 : decode cX11_object 52 = .ok (.invokevirtual 251, 3) := by decide +kernel
theorem dX11_object_55 : decode cX11_object 55 = .ok (.ireturn, 1) := by decide +kernel
theorem dX11_hasYes_0 : decode cX11_hasYes 0 = .ok (.aload_n 0, 1) := by decide +kernel
theorem dX11_hasYes_1 : decode cX11_hasYes 1 = .ok (.iload_n 1, 1) := by decide +kernel
theorem dX11_hasYes_2 : decode cX11_hasYes 2 = .ok (.invokevirtual 143, 3) := by decide +kernel
theorem dX11_hasYes_5 : decode cX11_hasYes 5 = .ok (.astore_n 3, 1) := by decide +kernel
theorem dX11_hasYes_6 : decode cX11_hasYes 6 = .ok (.aload_n 0, 1) := by decide +kernel
theorem dX11_hasYes_7 : decode cX11_hasYes 7 = .ok (.iload_n 2, 1) := by decide +kernel
theorem dX11_hasYes_8 : decode cX11_hasYes 8 = .ok (.invokevirtual 173, 3) := by decide +kernel
theorem dX11_hasYes_11 : decode cX11_hasYes 11 = .ok (.aload_n 0, 1) := by decide +kernel
theorem dX11_hasYes_12 : decode cX11_hasYes 12 = .ok (.getfield 26, 3) := by decide +kernel
theorem dX11_hasYes_15 : decode cX11_hasYes 15 = .ok (.aload_n 3, 1) := by decide +kernel
theorem dX11_hasYes_16 : decode cX11_hasYes 16 = .ok (.getfield 232, 3) := by decide +kernel
theorem dX11_hasYes_19 : decode cX11_hasYes 19 = .ok (.iload_n 2, 1) := by decide +kernel
theorem dX11_hasYes_20 : decode cX11_hasYes 20 = .ok (.aload_n 0, 1) := by decide +kernel
theorem dX11_hasYes_21 : decode cX11_hasYes 21 = .ok (.getfield 19, 3) := by decide +kernel
theorem dX11_hasYes_24 : decode cX11_hasYes 24 = .ok (.getfield 194, 3) := by decide +kernel
theorem dX11_hasYes_27 : decode cX11_hasYes 27 = .ok (.invokevirtual 197, 3) := by decide +kernel
theorem dX11_hasYes_30 : decode cX11_hasYes 30 = .ok (.ireturn, 1) := by decide +kernel
theorem dX11_goOn_0 : decode cX11_goOn 0 = .ok (.aload_n 0, 1) := by decide +kernel
theorem dX11_goOn_1 : decode cX11_goOn 1 = .ok (.iload_n 1, 1) := by decide +kernel
theorem dX11_goOn_2 : decode cX11_goOn 2 = .ok (.iconst 1, 1) := by decide +kernel
theorem dX11_goOn_3 : decode cX11_goOn 3 = .ok (.bipush 99, 2) := by decide +kernel
theorem dX11_goOn_5 : decode cX11_goOn 5 = .ok (.invokevirtual 70, 3) := by decide +kernel
theorem dX11_goOn_8 : decode cX11_goOn 8 = .ok (.aload_n 0, 1) := by decide +kernel
theorem dX11_goOn_9 : decode cX11_goOn 9 = .ok (.getfield 19, 3) := by decide +kernel
theorem dX11_goOn_12 : decode cX11_goOn 12 = .ok (.dup, 1) := by decide +kernel
theorem dX11_goOn_13 : decode cX11_goOn 13 = .ok (.getfield 194, 3) := by decide +kernel
theorem dX11_goOn_16 : decode cX11_goOn 16 = .ok (.iload_n 1, 1) := by decide +kernel
theorem dX11_goOn_17 : decode cX11_goOn 17 = .ok (.iadd, 1) := by decide +kernel
theorem dX11_goOn_18 : decode cX11_goOn 18 = .ok (.putfield 194, 3) := by decide +kernel
theorem dX11_goOn_21 : decode cX11_goOn 21 = .ok (.aload_n 0, 1) := by decide +kernel
theorem dX11_goOn_22 : decode cX11_goOn 22 = .ok (.getfield 19, 3) := by decide +kernel
theorem dX11_goOn_25 : decode cX11_goOn 25 = .ok (.getfield 194, 3) := by decide +kernel
theorem dX11_goOn_28 : decode cX11_goOn 28 = .ok (.ireturn, 1) := by decide +kernel
theorem dX11_canPack_0 : decode cX11_canPack 0 = .ok (.aload_n 0, 1) := by decide +kernel
theorem dX11_canPack_1 : decode cX11_canPack 1 = .ok (.iload_n 1, 1) := by decide +kernel
theorem dX11_canPack_2 : decode cX11_canPack 2 = .ok (.iconst 1, 1) := by decide +kernel
theorem dX11_canPack_3 : decode cX11_canPack 3 = .ok (.bipush 8, 2) := by decide +kernel
theorem dX11_canPack_5 : decode cX11_canPack 5 = .ok (.invokevirtual 70, 3) := by decide +kernel
theorem dX11_canPack_8 : decode cX11_canPack 8 = .ok (.aload_n 0, 1) := by decide +kernel
theorem dX11_canPack_9 : decode cX11_canPack 9 = .ok (.getfield 33, 3) := by decide +kernel
theorem dX11_canPack_12 : decode cX11_canPack 12 = .ok (.aload_n 0, 1) := by decide +kernel
theorem dX11_canPack_13 : decode cX11_canPack 13 = .ok (.getfield 10, 3) := by decide +kernel
theorem dX11_canPack_16 : decode cX11_canPack 16 = .ok (.iload_n 1, 1) := by decide +kernel
theorem dX11_canPack_17 : decode cX11_canPack 17 = .ok (.invokevirtual 254, 3) := by decide +kernel
theorem dX11_canPack_20 : decode cX11_canPack 20 = .ok (.aload_n 0, 1) := by decide +kernel
theorem dX11_canPack_21 : decode cX11_canPack 21 = .ok (.getfield 33, 3) := by decide +kernel
theorem dX11_canPack_24 : decode cX11_canPack 24 = .ok (.aload_n 0, 1) := by decide +kernel
theorem dX11_canPack_25 : decode cX11_canPack 25 = .ok (.getfield 10, 3) := by decide +kernel
theorem dX11_canPack_28 : decode cX11_canPack 28 = .ok (.invokevirtual 258, 3) := by decide +kernel
theorem dX11_canPack_31 : decode cX11_canPack 31 = .ok (.invokevirtual 261, 3) := by decide +kernel
theorem dX11_canPack_34 : decode cX11_canPack 34 = .ok (.ireturn, 1) := by decide +kernel
theorem dX11_packed_0 : decode cX11_packed 0 = .ok (.aload_n 0, 1) := by decide +kernel
theorem dX11_packed_1 : decode cX11_packed 1 = .ok (.iload_n 1, 1) := by decide +kernel
theorem dX11_packed_2 : decode cX11_packed 2 = .ok (.iconst 1, 1) := by decide +kernel
theorem dX11_packed_3 : decode cX11_packed 3 = .ok (.bipush 8, 2) := by decide +kernel
theorem dX11_packed_5 : decode cX11_packed 5 = .ok (.invokevirtual 70, 3) := by decide +kernel
theorem dX11_packed_8 : decode cX11_packed 8 = .ok (.aload_n 0, 1) := by decide +kernel
theorem dX11_packed_9 : decode cX11_packed 9 = .ok (.iload_n 2, 1) := by decide +kernel
theorem dX11_packed_10 : decode cX11_packed 10 = .ok (.invokevirtual 143, 3) := by decide +kernel
theorem dX11_packed_13 : decode cX11_packed 13 = .ok (.astore_n 3, 1) := by decide +kernel
theorem dX11_packed_14 : decode cX11_packed 14 = .ok (.aload_n 3, 1) := by decide +kernel
theorem dX11_packed_15 : decode cX11_packed 15 = .ok (.getfield 210, 3) := by decide +kernel
theorem dX11_packed_18 : decode cX11_packed 18 = .ok (.ifCond .ne 14, 3) := by decide +kernel
theorem dX11_packed_21 : decode cX11_packed 21 = .ok (.new 221, 3) := by decide +kernel
theorem dX11_packed_24 : decode cX11_packed 24 = .ok (.dup, 1) := by decide +kernel
theorem dX11_packed_25 : decode cX11_packed 25 = .ok (.ldc_w 264, 3) := by decide +kernel
theorem dX11_packed_28 : decode cX11_packed 28 = .ok (.invokespecial 225, 3) := by decide +kernel
theorem dX11_packed_31 : decode cX11_packed 31 = .ok (.athrow, 1) := by decide +kernel
theorem dX11_packed_32 : decode cX11_packed 32 = .ok (.aload_n 0, 1) := by decide +kernel
theorem dX11_packed_33 : decode cX11_packed 33 = .ok (.getfield 33, 3) := by decide +kernel
theorem dX11_packed_36 : decode cX11_packed 36 = .ok (.aload_n 0, 1) := by decide +kernel
theorem dX11_packed_37 : decode cX11_packed 37 = .ok (.getfield 10, 3) := by decide +kernel
theorem dX11_packed_40 : decode cX11_packed 40 = .ok (.iload_n 1, 1) := by decide +kernel
theorem dX11_packed_41 : decode cX11_packed 41 = .ok (.invokevirtual 254, 3) := by decide +kernel
theorem dX11_packed_44 : decode cX11_packed 44 = .ok (.aload_n 0, 1) := by decide +kernel
theorem dX11_packed_45 : decode cX11_packed 45 = .ok (.getfield 33, 3) := by decide +kernel
theorem dX11_packed_48 : decode cX11_packed 48 = .ok (.aload_n 0, 1) := by decide +kernel
theorem dX11_packed_49 : decode cX11_packed 49 = .ok (.getfield 10, 3) := by decide +kernel
theorem dX11_packed_52 : decode cX11_packed 52 = .ok (.invokevirtual 258, 3) := by decide +kernel
theorem dX11_packed_55 : decode cX11_packed 55 = .ok (.invokevirtual 261, 3) := by decide +kernel
theorem dX11_packed_58 : decode cX11_packed 58 = .ok (.ifCond .ne 14, 3) := by decide +kernel
theorem dX11_packed_61 : decode cX11_packed 61 = .ok (.new 162, 3) := by decide +kernel
theorem dX11_packed_64 : decode cX11_packed 64 = .ok (.dup, 1) := by decide +kernel
theorem dX11_packed_65 : decode cX11_packed 65 = .ok (.ldc_w 266, 3) := by decide +kernel
theorem dX11_packed_68 : decode cX11_packed 68 = .ok (.invokespecial 166, 3) := by decide +kernel
theorem dX11_packed_71 : decode cX11_packed 71 = .ok (.athrow, 1) := by decide +kernel
theorem dX11_packed_72 : decode cX11_packed 72 = .ok (.aload_n 0, 1) := by decide +kernel
theorem dX11_packed_73 : decode cX11_packed 73 = .ok (.getfield 33, 3) := by decide +kernel
theorem dX11_packed_76 : decode cX11_packed 76 = .ok (.getfield 268, 3) := by decide +kernel
theorem dX11_packed_79 : decode cX11_packed 79 = .ok (.aload_n 3, 1) := by decide +kernel
theorem dX11_packed_80 : decode cX11_packed 80 = .ok (.getfield 232, 3) := by decide +kernel
theorem dX11_packed_83 : decode cX11_packed 83 = .ok (.invokevirtual 226, 3) := by decide +kernel
theorem dX11_packed_86 : decode cX11_packed 86 = .ok (.ireturn, 1) := by decide +kernel
theorem dX11_setAsked_0 : decode cX11_setAsked 0 = .ok (.aload_n 0, 1) := by decide +kernel
theorem dX11_setAsked_1 : decode cX11_setAsked 1 = .ok (.iload_n 1, 1) := by decide +kernel
theorem dX11_setAsked_2 : decode cX11_setAsked 2 = .ok (.invokevirtual 143, 3) := by decide +kernel
theorem dX11_setAsked_5 : decode cX11_setAsked 5 = .ok (.astore_n 3, 1) := by decide +kernel
theorem dX11_setAsked_6 : decode cX11_setAsked 6 = .ok (.aload_n 0, 1) := by decide +kernel
theorem dX11_setAsked_7 : decode cX11_setAsked 7 = .ok (.iload_n 2, 1) := by decide +kernel
theorem dX11_setAsked_8 : decode cX11_setAsked 8 = .ok (.iconst 0, 1) := by decide +kernel
theorem dX11_setAsked_9 : decode cX11_setAsked 9 = .ok (.sipush 9999, 3) := by decide +kernel
theorem dX11_setAsked_12 : decode cX11_setAsked 12 = .ok (.invokevirtual 70, 3) := by decide +kernel
theorem dX11_setAsked_15 : decode cX11_setAsked 15 = .ok (.aload_n 3, 1) := by decide +kernel
theorem dX11_setAsked_16 : decode cX11_setAsked 16 = .ok (.getfield 271, 3) := by decide +kernel
theorem dX11_setAsked_19 : decode cX11_setAsked 19 = .ok (.istore 4, 2) := by decide +kernel
theorem dX11_setAsked_21 : decode cX11_setAsked 21 = .ok (.aload_n 3, 1) := by decide +kernel
theorem dX11_setAsked_22 : decode cX11_setAsked 22 = .ok (.iload_n 2, 1) := by decide +kernel
theorem dX11_setAsked_23 : decode cX11_setAsked 23 = .ok (.putfield 271, 3) := by decide +kernel
theorem dX11_setAsked_26 : decode cX11_setAsked 26 = .ok (.iload 4, 2) := by decide +kernel
theorem dX11_setAsked_28 : decode cX11_setAsked 28 = .ok (.ireturn, 1) := by decide +kernel
theorem dX11_sell_0 : decode cX11_sell 0 = .ok (.aload_n 0, 1) := by decide +kernel
theorem dX11_sell_1 : decode cX11_sell 1 = .ok (.iload_n 1, 1) := by decide +kernel
theorem dX11_sell_2 : decode cX11_sell 2 = .ok (.iconst 1, 1) := by decide +kernel
theorem dX11_sell_3 : decode cX11_sell 3 = .ok (.sipush 9999, 3) := by decide +kernel
theorem dX11_sell_6 : decode cX11_sell 6 = .ok (.invokevirtual 70, 3) := by decide +kernel
theorem dX11_sell_9 : decode cX11_sell 9 = .ok (.aload_n 0, 1) := by decide +kernel
theorem dX11_sell_10 : decode cX11_sell 10 = .ok (.iload_n 2, 1) := by decide +kernel
theorem dX11_sell_11 : decode cX11_sell 11 = .ok (.iconst 1, 1) := by decide +kernel
theorem dX11_sell_12 : decode cX11_sell 12 = .ok (.sipush 999, 3) := by decide +kernel
theorem dX11_sell_15 : decode cX11_sell 15 = .ok (.invokevirtual 70, 3) := by decide +kernel
theorem dX11_sell_18 : decode cX11_sell 18 = .ok (.aload_n 0, 1) := by decide +kernel
theorem dX11_sell_19 : decode cX11_sell 19 = .ok (.iload_n 3, 1) := by decide +kernel
theorem dX11_sell_20 : decode cX11_sell 20 = .ok (.iconst 1, 1) := by decide +kernel
theorem dX11_sell_21 : decode cX11_sell 21 = .ok (.bipush 8, 2) := by decide +kernel
theorem dX11_sell_23 : decode cX11_sell 23 = .ok (.invokevirtual 70, 3) := by decide +kernel
theorem dX11_sell_26 : decode cX11_sell 26 = .ok (.aload_n 0, 1) := by decide +kernel
theorem dX11_sell_27 : decode cX11_sell 27 = .ok (.getfield 10, 3) := by decide +kernel
theorem dX11_sell_30 : decode cX11_sell 30 = .ok (.invokevirtual 258, 3) := by decide +kernel
theorem dX11_sell_33 : decode cX11_sell 33 = .ok (.aload_n 0, 1) := by decide +kernel
theorem dX11_sell_34 : decode cX11_sell 34 = .ok (.getfield 19, 3) := by decide +kernel
theorem dX11_sell_37 : decode cX11_sell 37 = .ok (.invokevirtual 274, 3) := by decide +kernel
theorem dX11_sell_40 : decode cX11_sell 40 = .ok (.iand, 1) := by decide +kernel
theorem dX11_sell_41 : decode cX11_sell 41 = .ok (.istore 4, 2) := by decide +kernel
theorem dX11_sell_43 : decode cX11_sell 43 = .ok (.iload 4, 2) := by decide +kernel
theorem dX11_sell_45 : decode cX11_sell 45 = .ok (.ifCond .ne 14, 3) := by decide +kernel
theorem dX11_sell_48 : decode cX11_sell 48 = .ok (.new 221, 3) := by decide +kernel
theorem dX11_sell_51 : decode cX11_sell 51 = .ok (.dup, 1) := by decide +kernel
theorem dX11_sell_52 : decode cX11_sell 52 = .ok (.ldc_w 277, 3) := by decide +kernel
theorem dX11_sell_55 : decode cX11_sell 55 = .ok (.invokespecial 225, 3) := by decide +kernel
theorem dX11_sell_58 : decode cX11_sell 58 = .ok (.athrow, 1) := by decide +kernel
theorem dX11_sell_59 : decode cX11_sell 59 = .ok (.aload_n 0, 1) := by decide +kernel
theorem dX11_sell_60 : decode cX11_sell 60 = .ok (.getfield 33, 3) := by decide +kernel
theorem dX11_sell_63 : decode cX11_sell 63 = .ok (.aload_n 0, 1) := by decide +kernel
theorem dX11_sell_64 : decode cX11_sell 64 = .ok (.getfield 10, 3) := by decide +kernel
theorem dX11_sell_67 : decode cX11_sell 67 = .ok (.iload_n 3, 1) := by decide +kernel
theorem dX11_sell_68 : decode cX11_sell 68 = .ok (.invokevirtual 254, 3) := by decide +kernel
theorem dX11_sell_71 : decode cX11_sell 71 = .ok (.iload 4, 2) := by decide +kernel
theorem dX11_sell_73 : decode cX11_sell 73 = .ok (.aload_n 0, 1) := by decide +kernel
theorem dX11_sell_74 : decode cX11_sell 74 = .ok (.getfield 10, 3) := by decide +kernel
theorem dX11_sell_77 : decode cX11_sell 77 = .ok (.iload_n 1, 1) := by decide +kernel
theorem dX11_sell_78 : decode cX11_sell 78 = .ok (.invokevirtual 279, 3) := by decide +kernel
theorem dX11_sell_81 : decode cX11_sell 81 = .ok (.iand, 1) := by decide +kernel
theorem dX11_sell_82 : decode cX11_sell 82 = .ok (.istore 5, 2) := by decide +kernel
theorem dX11_sell_84 : decode cX11_sell 84 = .ok (.aload_n 0, 1) := by decide +kernel
theorem dX11_sell_85 : decode cX11_sell 85 = .ok (.getfield 33, 3) := by decide +kernel
theorem dX11_sell_88 : decode cX11_sell 88 = .ok (.iload 5, 2) := by decide +kernel
theorem dX11_sell_90 : decode cX11_sell 90 = .ok (.invokevirtual 282, 3) := by decide +kernel
theorem dX11_sell_93 : decode cX11_sell 93 = .ok (.ifCond .ne 14, 3) := by decide +kernel
theorem dX11_sell_96 : decode cX11_sell 96 = .ok (.new 221, 3) := by decide +kernel
theorem dX11_sell_99 : decode cX11_sell 99 = .ok (.dup, 1) := by decide +kernel
theorem dX11_sell_100 : decode cX11_sell 100 = .ok (.ldc_w 285, 3) := by decide +kernel
theorem dX11_sell_103 : decode cX11_sell 103 = .ok (.invokespecial 225, 3) := by decide +kernel
theorem dX11_sell_106 : decode cX11_sell 106 = .ok (.athrow, 1) := by decide +kernel
theorem dX11_sell_107 : decode cX11_sell 107 = .ok (.aload_n 0, 1) := by decide +kernel
theorem dX11_sell_108 : decode cX11_sell 108 = .ok (.getfield 40, 3) := by decide +kernel
theorem dX11_sell_111 : decode cX11_sell 111 = .ok (.iload_n 3, 1) := by decide +kernel
theorem dX11_sell_112 : decode cX11_sell 112 = .ok (.iload 5, 2) := by decide +kernel
theorem dX11_sell_114 : decode cX11_sell 114 = .ok (.invokevirtual 287, 3) := by decide +kernel
theorem dX11_sell_117 : decode cX11_sell 117 = .ok (.aload_n 0, 1) := by decide +kernel
theorem dX11_sell_118 : decode cX11_sell 118 = .ok (.getfield 40, 3) := by decide +kernel
theorem dX11_sell_121 : decode cX11_sell 121 = .ok (.aload_n 0, 1) := by decide +kernel
theorem dX11_sell_122 : decode cX11_sell 122 = .ok (.getfield 10, 3) := by decide +kernel
theorem dX11_sell_125 : decode cX11_sell 125 = .ok (.aload_n 0, 1) := by decide +kernel
theorem dX11_sell_126 : decode cX11_sell 126 = .ok (.getfield 33, 3) := by decide +kernel
theorem dX11_sell_129 : decode cX11_sell 129 = .ok (.iload 4, 2) := by decide +kernel
theorem dX11_sell_131 : decode cX11_sell 131 = .ok (.iload 5, 2) := by decide +kernel
theorem dX11_sell_133 : decode cX11_sell 133 = .ok (.iconst (-1), 1) := by decide +kernel
theorem dX11_sell_134 : decode cX11_sell 134 = .ok (.ixor, 1) := by decide +kernel
theorem dX11_sell_135 : decode cX11_sell 135 = .ok (.iand, 1) := by decide +kernel
theorem dX11_sell_136 : decode cX11_sell 136 = .ok (.iload_n 1, 1) := by decide +kernel
theorem dX11_sell_137 : decode cX11_sell 137 = .ok (.iload_n 2, 1) := by decide +kernel
theorem dX11_sell_138 : decode cX11_sell 138 = .ok (.invokevirtual 290, 3) := by decide +kernel
theorem dX11_sell_141 : decode cX11_sell 141 = .ok (.istore 6, 2) := by decide +kernel
theorem dX11_sell_143 : decode cX11_sell 143 = .ok (.iconst 0, 1) := by decide +kernel
theorem dX11_sell_144 : decode cX11_sell 144 = .ok (.istore 7, 2) := by decide +kernel
theorem dX11_sell_146 : decode cX11_sell 146 = .ok (.iload 7, 2) := by decide +kernel
theorem dX11_sell_148 : decode cX11_sell 148 = .ok (.aload_n 0, 1) := by decide +kernel
theorem dX11_sell_149 : decode cX11_sell 149 = .ok (.getfield 10, 3) := by decide +kernel
theorem dX11_sell_152 : decode cX11_sell 152 = .ok (.getfield 125, 3) := by decide +kernel
theorem dX11_sell_155 : decode cX11_sell 155 = .ok (.invokevirtual 91, 3) := by decide +kernel
theorem dX11_sell_158 : decode cX11_sell 158 = .ok (.if_icmp .ge 29, 3) := by decide +kernel
theorem dX11_sell_161 : decode cX11_sell 161 = .ok (.iload 7, 2) := by decide +kernel
theorem dX11_sell_163 : decode cX11_sell 163 = .ok (.iload 6, 2) := by decide +kernel
theorem dX11_sell_165 : decode cX11_sell 165 = .ok (.invokestatic 294, 3) := by decide +kernel
theorem dX11_sell_168 : decode cX11_sell 168 = .ok (.ifCond .eq 13, 3) := by decide +kernel
theorem dX11_sell_171 : decode cX11_sell 171 = .ok (.aload_n 0, 1) := by decide +kernel
theorem dX11_sell_172 : decode cX11_sell 172 = .ok (.getfield 19, 3) := by decide +kernel
theorem dX11_sell_175 : decode cX11_sell 175 = .ok (.iload 7, 2) := by decide +kernel
theorem dX11_sell_177 : decode cX11_sell 177 = .ok (.iconst (-1), 1) := by decide +kernel
theorem dX11_sell_178 : decode cX11_sell 178 = .ok (.invokevirtual 229, 3) := by decide +kernel
theorem dX11_sell_181 : decode cX11_sell 181 = .ok (.iinc 7 1, 3) := by decide +kernel
theorem dX11_sell_184 : decode cX11_sell 184 = .ok (.goto (-38), 3) := by decide +kernel
theorem dX11_sell_187 : decode cX11_sell 187 = .ok (.iload 6, 2) := by decide +kernel
theorem dX11_sell_189 : decode cX11_sell 189 = .ok (.invokestatic 297, 3) := by decide +kernel
theorem dX11_sell_192 : decode cX11_sell 192 = .ok (.ireturn, 1) := by decide +kernel
theorem dX11_priceOf_0 : decode cX11_priceOf 0 = .ok (.aload_n 0, 1) := by decide +kernel
theorem dX11_priceOf_1 : decode cX11_priceOf 1 = .ok (.iload_n 1, 1) := by decide +kernel
theorem dX11_priceOf_2 : decode cX11_priceOf 2 = .ok (.invokevirtual 143, 3) := by decide +kernel
theorem dX11_priceOf_5 : decode cX11_priceOf 5 = .ok (.astore_n 2, 1) := by decide +kernel
theorem dX11_priceOf_6 : decode cX11_priceOf 6 = .ok (.aload_n 0, 1) := by decide +kernel
theorem dX11_priceOf_7 : decode cX11_priceOf 7 = .ok (.getfield 40, 3) := by decide +kernel
theorem dX11_priceOf_10 : decode cX11_priceOf 10 = .ok (.getfield 302, 3) := by decide +kernel
theorem dX11_priceOf_13 : decode cX11_priceOf 13 = .ok (.aload_n 2, 1) := by decide +kernel
theorem dX11_priceOf_14 : decode cX11_priceOf 14 = .ok (.getfield 232, 3) := by decide +kernel
theorem dX11_priceOf_17 : decode cX11_priceOf 17 = .ok (.invokevirtual 226, 3) := by decide +kernel
theorem dX11_priceOf_20 : decode cX11_priceOf 20 = .ok (.istore_n 3, 1) := by decide +kernel
theorem dX11_priceOf_21 : decode cX11_priceOf 21 = .ok (.iload_n 3, 1) := by decide +kernel
theorem dX11_priceOf_22 : decode cX11_priceOf 22 = .ok (.iconst (-1), 1) := by decide +kernel
theorem dX11_priceOf_23 : decode cX11_priceOf 23 = .ok (.if_icmp .ne 14, 3) := by decide +kernel
theorem dX11_priceOf_26 : decode cX11_priceOf 26 = .ok (.new 162, 3) := by decide +kernel
theorem dX11_priceOf_29 : decode cX11_priceOf 29 = .ok (.dup, 1) := by decide +kernel
theorem dX11_priceOf_30 : decode cX11_priceOf 30 = .ok (.ldc_w 305, 3) := by decide +kernel
theorem dX11_priceOf_33 : decode cX11_priceOf 33 = .ok (.invokespecial 166, 3) := by decide +kernel
theorem dX11_priceOf_36 : decode cX11_priceOf 36 = .ok (.athrow, 1) := by decide +kernel
theorem dX11_priceOf_37 : decode cX11_priceOf 37 = .ok (.iload_n 3, 1) := by decide +kernel
theorem dX11_priceOf_38 : decode cX11_priceOf 38 = .ok (.ireturn, 1) := by decide +kernel
theorem dX11_rounds_0 : decode cX11_rounds 0 = .ok (.aload_n 0, 1) := by decide +kernel
theorem dX11_rounds_1 : decode cX11_rounds 1 = .ok (.getfield 40, 3) := by decide +kernel
theorem dX11_rounds_4 : decode cX11_rounds 4 = .ok (.getfield 307, 3) := by decide +kernel
theorem dX11_rounds_7 : decode cX11_rounds 7 = .ok (.ireturn, 1) := by decide +kernel
theorem dX11_addBidder_0 : decode cX11_addBidder 0 = .ok (.aload_n 0, 1) := by decide +kernel
theorem dX11_addBidder_1 : decode cX11_addBidder 1 = .ok (.iload_n 1, 1) := by decide +kernel
theorem dX11_addBidder_2 : decode cX11_addBidder 2 = .ok (.iconst 0, 1) := by decide +kernel
theorem dX11_addBidder_3 : decode cX11_addBidder 3 = .ok (.sipush 9999, 3) := by decide +kernel
theorem dX11_addBidder_6 : decode cX11_addBidder 6 = .ok (.invokevirtual 70, 3) := by decide +kernel
theorem dX11_addBidder_9 : decode cX11_addBidder 9 = .ok (.aload_n 0, 1) := by decide +kernel
theorem dX11_addBidder_10 : decode cX11_addBidder 10 = .ok (.iload_n 2, 1) := by decide +kernel
theorem dX11_addBidder_11 : decode cX11_addBidder 11 = .ok (.iconst 0, 1) := by decide +kernel
theorem dX11_addBidder_12 : decode cX11_addBidder 12 = .ok (.iload_n 1, 1) := by decide +kernel
theorem dX11_addBidder_13 : decode cX11_addBidder 13 = .ok (.invokevirtual 70, 3) := by decide +kernel
theorem dX11_addBidder_16 : decode cX11_addBidder 16 = .ok (.aload_n 0, 1) := by decide +kernel
theorem dX11_addBidder_17 : decode cX11_addBidder 17 = .ok (.iload_n 3, 1) := by decide +kernel
theorem dX11_addBidder_18 : decode cX11_addBidder 18 = .ok (.iconst 0, 1) := by decide +kernel
theorem dX11_addBidder_19 : decode cX11_addBidder 19 = .ok (.iload_n 2, 1) := by decide +kernel
theorem dX11_addBidder_20 : decode cX11_addBidder 20 = .ok (.invokevirtual 70, 3) := by decide +kernel
theorem dX11_addBidder_23 : decode cX11_addBidder 23 = .ok (.aload_n 0, 1) := by decide +kernel
theorem dX11_addBidder_24 : decode cX11_addBidder 24 = .ok (.getfield 47, 3) := by decide +kernel
theorem dX11_addBidder_27 : decode cX11_addBidder 27 = .ok (.getfield 310, 3) := by decide +kernel
theorem dX11_addBidder_30 : decode cX11_addBidder 30 = .ok (.iconst 4, 1) := by decide +kernel
theorem dX11_addBidder_31 : decode cX11_addBidder 31 = .ok (.if_icmp .lt 14, 3) := by decide +kernel
theorem dX11_addBidder_34 : decode cX11_addBidder 34 = .ok (.new 97, 3) := by decide +kernel
theorem dX11_addBidder_37 : decode cX11_addBidder 37 = .ok (.dup, 1) := by decide +kernel
theorem dX11_addBidder_38 : decode cX11_addBidder 38 = .ok (.ldc_w 313, 3) := by decide +kernel
theorem dX11_addBidder_41 : decode cX11_addBidder 41 = .ok (.invokespecial 101, 3) := by decide +kernel
theorem dX11_addBidder_44 : decode cX11_addBidder 44 = .ok (.athrow, 1) := by decide +kernel
theorem dX11_addBidder_45 : decode cX11_addBidder 45 = .ok (.aload_n 0, 1) := by decide +kernel
theorem dX11_addBidder_46 : decode cX11_addBidder 46 = .ok (.getfield 47, 3) := by decide +kernel
theorem dX11_addBidder_49 : decode cX11_addBidder 49 = .ok (.iload_n 1, 1) := by decide +kernel
theorem dX11_addBidder_50 : decode cX11_addBidder 50 = .ok (.iload_n 2, 1) := by decide +kernel
theorem dX11_addBidder_51 : decode cX11_addBidder 51 = .ok (.iload_n 3, 1) := by decide +kernel
theorem dX11_addBidder_52 : decode cX11_addBidder 52 = .ok (.invokevirtual 315, 3) := by decide +kernel
theorem dX11_addBidder_55 : decode cX11_addBidder 55 = .ok (.ireturn, 1) := by decide +kernel
theorem dX11_buy_0 : decode cX11_buy 0 = .ok (.aload_n 0, 1) := by decide +kernel
theorem dX11_buy_1 : decode cX11_buy 1 = .ok (.iload_n 1, 1) := by decide +kernel
theorem dX11_buy_2 : decode cX11_buy 2 = .ok (.iconst 0, 1) := by decide +kernel
theorem dX11_buy_3 : decode cX11_buy 3 = .ok (.bipush 8, 2) := by decide +kernel
theorem dX11_buy_5 : decode cX11_buy 5 = .ok (.invokevirtual 70, 3) := by decide +kernel
theorem dX11_buy_8 : decode cX11_buy 8 = .ok (.aload_n 0, 1) := by decide +kernel
theorem dX11_buy_9 : decode cX11_buy 9 = .ok (.getfield 47, 3) := by decide +kernel
theorem dX11_buy_12 : decode cX11_buy 12 = .ok (.iload_n 1, 1) := by decide +kernel
theorem dX11_buy_13 : decode cX11_buy 13 = .ok (.invokevirtual 318, 3) := by decide +kernel
theorem dX11_buy_16 : decode cX11_buy 16 = .ok (.ireturn, 1) := by decide +kernel
theorem dX11_bought_0 : decode cX11_bought 0 = .ok (.aload_n 0, 1) := by decide +kernel
theorem dX11_bought_1 : decode cX11_bought 1 = .ok (.iload_n 1, 1) := by decide +kernel
theorem dX11_bought_2 : decode cX11_bought 2 = .ok (.invokevirtual 320, 3) := by decide +kernel
theorem dX11_bought_5 : decode cX11_bought 5 = .ok (.aload_n 0, 1) := by decide +kernel
theorem dX11_bought_6 : decode cX11_bought 6 = .ok (.getfield 47, 3) := by decide +kernel
theorem dX11_bought_9 : decode cX11_bought 9 = .ok (.getfield 323, 3) := by decide +kernel
theorem dX11_bought_12 : decode cX11_bought 12 = .ok (.iload_n 1, 1) := by decide +kernel
theorem dX11_bought_13 : decode cX11_bought 13 = .ok (.invokevirtual 226, 3) := by decide +kernel
theorem dX11_bought_16 : decode cX11_bought 16 = .ok (.ireturn, 1) := by decide +kernel
theorem dX11_pays_0 : decode cX11_pays 0 = .ok (.aload_n 0, 1) := by decide +kernel
theorem dX11_pays_1 : decode cX11_pays 1 = .ok (.iload_n 1, 1) := by decide +kernel
theorem dX11_pays_2 : decode cX11_pays 2 = .ok (.invokevirtual 320, 3) := by decide +kernel
theorem dX11_pays_5 : decode cX11_pays 5 = .ok (.aload_n 0, 1) := by decide +kernel
theorem dX11_pays_6 : decode cX11_pays 6 = .ok (.getfield 47, 3) := by decide +kernel
theorem dX11_pays_9 : decode cX11_pays 9 = .ok (.getfield 326, 3) := by decide +kernel
theorem dX11_pays_12 : decode cX11_pays 12 = .ok (.iload_n 1, 1) := by decide +kernel
theorem dX11_pays_13 : decode cX11_pays 13 = .ok (.invokevirtual 226, 3) := by decide +kernel
theorem dX11_pays_16 : decode cX11_pays 16 = .ok (.i2l, 1) := by decide +kernel
theorem dX11_pays_17 : decode cX11_pays 17 = .ok (.lreturn, 1) := by decide +kernel
theorem dX11_move_0 : decode cX11_move 0 = .ok (.aload_n 0, 1) := by decide +kernel
theorem dX11_move_1 : decode cX11_move 1 = .ok (.iload_n 1, 1) := by decide +kernel
theorem dX11_move_2 : decode cX11_move 2 = .ok (.iconst 1, 1) := by decide +kernel
theorem dX11_move_3 : decode cX11_move 3 = .ok (.iconst 4, 1) := by decide +kernel
theorem dX11_move_4 : decode cX11_move 4 = .ok (.invokevirtual 70, 3) := by decide +kernel
theorem dX11_move_7 : decode cX11_move 7 = .ok (.aload_n 0, 1) := by decide +kernel
theorem dX11_move_8 : decode cX11_move 8 = .ok (.getfield 40, 3) := by decide +kernel
theorem dX11_move_11 : decode cX11_move 11 = .ok (.getfield 329, 3) := by decide +kernel
theorem dX11_move_14 : decode cX11_move 14 = .ok (.ifCond .ne 14, 3) := by decide +kernel
theorem dX11_move_17 : decode cX11_move 17 = .ok (.new 221, 3) := by decide +kernel
theorem dX11_move_20 : decode cX11_move 20 = .ok (.dup, 1) := by decide +kernel
theorem dX11_move_21 : decode cX11_move 21 = .ok (.ldc_w 332, 3) := by decide +kernel
theorem dX11_move_24 : decode cX11_move 24 = .ok (.invokespecial 225, 3) := by decide +kernel
theorem dX11_move_27 : decode cX11_move 27 = .ok (.athrow, 1) := by decide +kernel
theorem dX11_move_28 : decode cX11_move 28 = .ok (.aload_n 0, 1) := by decide +kernel
theorem dX11_move_29 : decode cX11_move 29 = .ok (.getfield 40, 3) := by decide +kernel
theorem dX11_move_32 : decode cX11_move 32 = .ok (.getfield 334, 3) := by decide +kernel
theorem dX11_move_35 : decode cX11_move 35 = .ok (.aload_n 0, 1) := by decide +kernel
theorem dX11_move_36 : decode cX11_move 36 = .ok (.getfield 19, 3) := by decide +kernel
theorem dX11_move_39 : decode cX11_move 39 = .ok (.invokevirtual 274, 3) := by decide +kernel
theorem dX11_move_42 : decode cX11_move 42 = .ok (.iand, 1) := by decide +kernel
theorem dX11_move_43 : decode cX11_move 43 = .ok (.istore_n 2, 1) := by decide +kernel
theorem dX11_move_44 : decode cX11_move 44 = .ok (.aload_n 0, 1) := by decide +kernel
theorem dX11_move_45 : decode cX11_move 45 = .ok (.getfield 33, 3) := by decide +kernel
theorem dX11_move_48 : decode cX11_move 48 = .ok (.aload_n 0, 1) := by decide +kernel
theorem dX11_move_49 : decode cX11_move 49 = .ok (.getfield 10, 3) := by decide +kernel
theorem dX11_move_52 : decode cX11_move 52 = .ok (.aload_n 0, 1) := by decide +kernel
theorem dX11_move_53 : decode cX11_move 53 = .ok (.getfield 40, 3) := by decide +kernel
theorem dX11_move_56 : decode cX11_move 56 = .ok (.getfield 337, 3) := by decide +kernel
theorem dX11_move_59 : decode cX11_move 59 = .ok (.invokevirtual 254, 3) := by decide +kernel
theorem dX11_move_62 : decode cX11_move 62 = .ok (.aload_n 0, 1) := by decide +kernel
theorem dX11_move_63 : decode cX11_move 63 = .ok (.getfield 33, 3) := by decide +kernel
theorem dX11_move_66 : decode cX11_move 66 = .ok (.iload_n 2, 1) := by decide +kernel
theorem dX11_move_67 : decode cX11_move 67 = .ok (.invokevirtual 261, 3) := by decide +kernel
theorem dX11_move_70 : decode cX11_move 70 = .ok (.ifCond .ne 14, 3) := by decide +kernel
theorem dX11_move_73 : decode cX11_move 73 = .ok (.new 221, 3) := by decide +kernel
theorem dX11_move_76 : decode cX11_move 76 = .ok (.dup, 1) := by decide +kernel
theorem dX11_move_77 : decode cX11_move 77 = .ok (.ldc_w 266, 3) := by decide +kernel
theorem dX11_move_80 : decode cX11_move 80 = .ok (.invokespecial 225, 3) := by decide +kernel
theorem dX11_move_83 : decode cX11_move 83 = .ok (.athrow, 1) := by decide +kernel
theorem dX11_move_84 : decode cX11_move 84 = .ok (.aload_n 0, 1) := by decide +kernel
theorem dX11_move_85 : decode cX11_move 85 = .ok (.getfield 54, 3) := by decide +kernel
theorem dX11_move_88 : decode cX11_move 88 = .ok (.iload_n 2, 1) := by decide +kernel
theorem dX11_move_89 : decode cX11_move 89 = .ok (.aload_n 0, 1) := by decide +kernel
theorem dX11_move_90 : decode cX11_move 90 = .ok (.getfield 33, 3) := by decide +kernel
theorem dX11_move_93 : decode cX11_move 93 = .ok (.aload_n 0, 1) := by decide +kernel
theorem dX11_move_94 : decode cX11_move 94 = .ok (.getfield 19, 3) := by decide +kernel
theorem dX11_move_97 : decode cX11_move 97 = .ok (.invokevirtual 340, 3) := by decide +kernel
theorem dX11_move_100 : decode cX11_move 100 = .ok (.aload_n 0, 1) := by decide +kernel
theorem dX11_move_101 : decode cX11_move 101 = .ok (.getfield 54, 3) := by decide +kernel
theorem dX11_move_104 : decode cX11_move 104 = .ok (.aload_n 0, 1) := by decide +kernel
theorem dX11_move_105 : decode cX11_move 105 = .ok (.getfield 10, 3) := by decide +kernel
theorem dX11_move_108 : decode cX11_move 108 = .ok (.aload_n 0, 1) := by decide +kernel
theorem dX11_move_109 : decode cX11_move 109 = .ok (.getfield 33, 3) := by decide +kernel
theorem dX11_move_112 : decode cX11_move 112 = .ok (.aload_n 0, 1) := by decide +kernel
theorem dX11_move_113 : decode cX11_move 113 = .ok (.getfield 19, 3) := by decide +kernel
theorem dX11_move_116 : decode cX11_move 116 = .ok (.iload_n 1, 1) := by decide +kernel
theorem dX11_move_117 : decode cX11_move 117 = .ok (.invokevirtual 343, 3) := by decide +kernel
theorem dX11_move_120 : decode cX11_move 120 = .ok (.ireturn, 1) := by decide +kernel
theorem dX11_phaseOf_0 : decode cX11_phaseOf 0 = .ok (.aload_n 0, 1) := by decide +kernel
theorem dX11_phaseOf_1 : decode cX11_phaseOf 1 = .ok (.iload_n 1, 1) := by decide +kernel
theorem dX11_phaseOf_2 : decode cX11_phaseOf 2 = .ok (.invokevirtual 143, 3) := by decide +kernel
theorem dX11_phaseOf_5 : decode cX11_phaseOf 5 = .ok (.astore_n 2, 1) := by decide +kernel
theorem dX11_phaseOf_6 : decode cX11_phaseOf 6 = .ok (.aload_n 0, 1) := by decide +kernel
theorem dX11_phaseOf_7 : decode cX11_phaseOf 7 = .ok (.getfield 54, 3) := by decide +kernel
theorem dX11_phaseOf_10 : decode cX11_phaseOf 10 = .ok (.getfield 346, 3) := by decide +kernel
theorem dX11_phaseOf_13 : decode cX11_phaseOf 13 = .ok (.aload_n 2, 1) := by decide +kernel
theorem dX11_phaseOf_14 : decode cX11_phaseOf 14 = .ok (.getfield 232, 3) := by decide +kernel
theorem dX11_phaseOf_17 : decode cX11_phaseOf 17 = .ok (.invokevirtual 226, 3) := by decide +kernel
theorem dX11_phaseOf_20 : decode cX11_phaseOf 20 = .ok (.istore_n 3, 1) := by decide +kernel
theorem dX11_phaseOf_21 : decode cX11_phaseOf 21 = .ok (.iload_n 3, 1) := by decide +kernel
theorem dX11_phaseOf_22 : decode cX11_phaseOf 22 = .ok (.iconst (-1), 1) := by decide +kernel
theorem dX11_phaseOf_23 : decode cX11_phaseOf 23 = .ok (.if_icmp .ne 14, 3) := by decide +kernel
theorem dX11_phaseOf_26 : decode cX11_phaseOf 26 = .ok (.new 162, 3) := by decide +kernel
theorem dX11_phaseOf_29 : decode cX11_phaseOf 29 = .ok (.dup, 1) := by decide +kernel
theorem dX11_phaseOf_30 : decode cX11_phaseOf 30 = .ok (.ldc_w 349, 3) := by decide +kernel
theorem dX11_phaseOf_33 : decode cX11_phaseOf 33 = .ok (.invokespecial 166, 3) := by decide +kernel
theorem dX11_phaseOf_36 : decode cX11_phaseOf 36 = .ok (.athrow, 1) := by decide +kernel
theorem dX11_phaseOf_37 : decode cX11_phaseOf 37 = .ok (.iload_n 3, 1) := by decide +kernel
theorem dX11_phaseOf_38 : decode cX11_phaseOf 38 = .ok (.ireturn, 1) := by decide +kernel
theorem dX11_dark_0 : decode cX11_dark 0 = .ok (.aload_n 0, 1) := by decide +kernel
theorem dX11_dark_1 : decode cX11_dark 1 = .ok (.getfield 54, 3) := by decide +kernel
theorem dX11_dark_4 : decode cX11_dark 4 = .ok (.getfield 351, 3) := by decide +kernel
theorem dX11_dark_7 : decode cX11_dark 7 = .ok (.ireturn, 1) := by decide +kernel
theorem dX11_onShare_0 : decode cX11_onShare 0 = .ok (.aload_n 0, 1) := by decide +kernel
theorem dX11_onShare_1 : decode cX11_onShare 1 = .ok (.getfield 10, 3) := by decide +kernel
theorem dX11_onShare_4 : decode cX11_onShare 4 = .ok (.getfield 125, 3) := by decide +kernel
theorem dX11_onShare_7 : decode cX11_onShare 7 = .ok (.invokevirtual 91, 3) := by decide +kernel
theorem dX11_onShare_10 : decode cX11_onShare 10 = .ok (.istore_n 1, 1) := by decide +kernel
theorem dX11_onShare_11 : decode cX11_onShare 11 = .ok (.iload_n 1, 1) := by decide +kernel
theorem dX11_onShare_12 : decode cX11_onShare 12 = .ok (.ifCond .ne 14, 3) := by decide +kernel
theorem dX11_onShare_15 : decode cX11_onShare 15 = .ok (.new 354, 3) := by decide +kernel
theorem dX11_onShare_18 : decode cX11_onShare 18 = .ok (.dup, 1) := by decide +kernel
theorem dX11_onShare_19 : decode cX11_onShare 19 = .ok (.ldc_w 356, 3) := by decide +kernel
theorem dX11_onShare_22 : decode cX11_onShare 22 = .ok (.invokespecial 358, 3) := by decide +kernel
theorem dX11_onShare_25 : decode cX11_onShare 25 = .ok (.athrow, 1) := by decide +kernel
theorem dX11_onShare_26 : decode cX11_onShare 26 = .ok (.aload_n 0, 1) := by decide +kernel
theorem dX11_onShare_27 : decode cX11_onShare 27 = .ok (.getfield 19, 3) := by decide +kernel
theorem dX11_onShare_30 : decode cX11_onShare 30 = .ok (.invokevirtual 274, 3) := by decide +kernel
theorem dX11_onShare_33 : decode cX11_onShare 33 = .ok (.invokestatic 297, 3) := by decide +kernel
theorem dX11_onShare_36 : decode cX11_onShare 36 = .ok (.i2f, 1) := by decide +kernel
theorem dX11_onShare_37 : decode cX11_onShare 37 = .ok (.iload_n 1, 1) := by decide +kernel
theorem dX11_onShare_38 : decode cX11_onShare 38 = .ok (.i2f, 1) := by decide +kernel
theorem dX11_onShare_39 : decode cX11_onShare 39 = .ok (.fdiv, 1) := by decide +kernel
theorem dX11_onShare_40 : decode cX11_onShare 40 = .ok (.freturn, 1) := by decide +kernel
theorem dX11_meanLevel_0 : decode cX11_meanLevel 0 = .ok (.aload_n 0, 1) := by decide +kernel
theorem dX11_meanLevel_1 : decode cX11_meanLevel 1 = .ok (.getfield 19, 3) := by decide +kernel
theorem dX11_meanLevel_4 : decode cX11_meanLevel 4 = .ok (.invokevirtual 274, 3) := by decide +kernel
theorem dX11_meanLevel_7 : decode cX11_meanLevel 7 = .ok (.invokestatic 297, 3) := by decide +kernel
theorem dX11_meanLevel_10 : decode cX11_meanLevel 10 = .ok (.istore_n 1, 1) := by decide +kernel
theorem dX11_meanLevel_11 : decode cX11_meanLevel 11 = .ok (.iload_n 1, 1) := by decide +kernel
theorem dX11_meanLevel_12 : decode cX11_meanLevel 12 = .ok (.ifCond .ne 14, 3) := by decide +kernel
theorem dX11_meanLevel_15 : decode cX11_meanLevel 15 = .ok (.new 354, 3) := by decide +kernel
theorem dX11_meanLevel_18 : decode cX11_meanLevel 18 = .ok (.dup, 1) := by decide +kernel
theorem dX11_meanLevel_19 : decode cX11_meanLevel 19 = .ok (.ldc_w 359, 3) := by decide +kernel
theorem dX11_meanLevel_22 : decode cX11_meanLevel 22 = .ok (.invokespecial 358, 3) := by decide +kernel
theorem dX11_meanLevel_25 : decode cX11_meanLevel 25 = .ok (.athrow, 1) := by decide +kernel
theorem dX11_meanLevel_26 : decode cX11_meanLevel 26 = .ok (.iconst 0, 1) := by decide +kernel
theorem dX11_meanLevel_27 : decode cX11_meanLevel 27 = .ok (.istore_n 2, 1) := by decide +kernel
theorem dX11_meanLevel_28 : decode cX11_meanLevel 28 = .ok (.iconst 0, 1) := by decide +kernel
theorem dX11_meanLevel_29 : decode cX11_meanLevel 29 = .ok (.istore_n 3, 1) := by decide +kernel
theorem dX11_meanLevel_30 : decode cX11_meanLevel 30 = .ok (.iload_n 3, 1) := by decide +kernel
theorem dX11_meanLevel_31 : decode cX11_meanLevel 31 = .ok (.aload_n 0, 1) := by decide +kernel
theorem dX11_meanLevel_32 : decode cX11_meanLevel 32 = .ok (.getfield 10, 3) := by decide +kernel
theorem dX11_meanLevel_35 : decode cX11_meanLevel 35 = .ok (.getfield 125, 3) := by decide +kernel
theorem dX11_meanLevel_38 : decode cX11_meanLevel 38 = .ok (.invokevirtual 91, 3) := by decide +kernel
theorem dX11_meanLevel_41 : decode cX11_meanLevel 41 = .ok (.if_icmp .ge 48, 3) := by decide +kernel
theorem dX11_meanLevel_44 : decode cX11_meanLevel 44 = .ok (.aload_n 0, 1) := by decide +kernel
theorem dX11_meanLevel_45 : decode cX11_meanLevel 45 = .ok (.getfield 19, 3) := by decide +kernel
theorem dX11_meanLevel_48 : decode cX11_meanLevel 48 = .ok (.getfield 154, 3) := by decide +kernel
theorem dX11_meanLevel_51 : decode cX11_meanLevel 51 = .ok (.iload_n 3, 1) := by decide +kernel
theorem dX11_meanLevel_52 : decode cX11_meanLevel 52 = .ok (.invokevirtual 226, 3) := by decide +kernel
theorem dX11_meanLevel_55 : decode cX11_meanLevel 55 = .ok (.iconst (-1), 1) := by decide +kernel
theorem dX11_meanLevel_56 : decode cX11_meanLevel 56 = .ok (.if_icmp .eq 27, 3) := by decide +kernel
theorem dX11_meanLevel_59 : decode cX11_meanLevel 59 = .ok (.iload_n 2, 1) := by decide +kernel
theorem dX11_meanLevel_60 : decode cX11_meanLevel 60 = .ok (.aload_n 0, 1) := by decide +kernel
theorem dX11_meanLevel_61 : decode cX11_meanLevel 61 = .ok (.getfield 10, 3) := by decide +kernel
theorem dX11_meanLevel_64 : decode cX11_meanLevel 64 = .ok (.aload_n 0, 1) := by decide +kernel
theorem dX11_meanLevel_65 : decode cX11_meanLevel 65 = .ok (.getfield 10, 3) := by decide +kernel
theorem dX11_meanLevel_68 : decode cX11_meanLevel 68 = .ok (.getfield 125, 3) := by decide +kernel
theorem dX11_meanLevel_71 : decode cX11_meanLevel 71 = .ok (.iload_n 3, 1) := by decide +kernel
theorem dX11_meanLevel_72 : decode cX11_meanLevel 72 = .ok (.invokevirtual 361, 3) := by decide +kernel
theorem dX11_meanLevel_75 : decode cX11_meanLevel 75 = .ok (.checkcast 130, 3) := by decide +kernel
theorem dX11_meanLevel_78 : decode cX11_meanLevel 78 = .ok (.invokevirtual 147, 3) := by decide +kernel
theorem dX11_meanLevel_81 : decode cX11_meanLevel 81 = .ok (.iadd, 1) := by decide +kernel
theorem dX11_meanLevel_82 : decode cX11_meanLevel 82 = .ok (.istore_n 2, 1) := by decide +kernel
theorem dX11_meanLevel_83 : decode cX11_meanLevel 83 = .ok (.iinc 3 1, 3) := by decide +kernel
theorem dX11_meanLevel_86 : decode cX11_meanLevel 86 = .ok (.goto (-56), 3) := by decide +kernel
theorem dX11_meanLevel_89 : decode cX11_meanLevel 89 = .ok (.iload_n 2, 1) := by decide +kernel
theorem dX11_meanLevel_90 : decode cX11_meanLevel 90 = .ok (.i2d, 1) := by decide +kernel
theorem dX11_meanLevel_91 : decode cX11_meanLevel 91 = .ok (.iload_n 1, 1) := by decide +kernel
theorem dX11_meanLevel_92 : decode cX11_meanLevel 92 = .ok (.i2d, 1) := by decide +kernel
theorem dX11_meanLevel_93 : decode cX11_meanLevel 93 = .ok (.ddiv, 1) := by decide +kernel
theorem dX11_meanLevel_94 : decode cX11_meanLevel 94 = .ok (.dreturn, 1) := by decide +kernel
theorem dX11_isSound_0 : decode cX11_isSound 0 = .ok (.aload_n 0, 1) := by decide +kernel
theorem dX11_isSound_1 : decode cX11_isSound 1 = .ok (.getfield 54, 3) := by decide +kernel
theorem dX11_isSound_4 : decode cX11_isSound 4 = .ok (.getfield 365, 3) := by decide +kernel
theorem dX11_isSound_7 : decode cX11_isSound 7 = .ok (.ifCond .ne 20, 3) := by decide +kernel
theorem dX11_isSound_10 : decode cX11_isSound 10 = .ok (.aload_n 0, 1) := by decide +kernel
theorem dX11_isSound_11 : decode cX11_isSound 11 = .ok (.getfield 10, 3) := by decide +kernel
theorem dX11_isSound_14 : decode cX11_isSound 14 = .ok (.aload_n 0, 1) := by decide +kernel
theorem dX11_isSound_15 : decode cX11_isSound 15 = .ok (.getfield 19, 3) := by decide +kernel
theorem dX11_isSound_18 : decode cX11_isSound 18 = .ok (.getfield 154, 3) := by decide +kernel
theorem dX11_isSound_21 : decode cX11_isSound 21 = .ok (.invokevirtual 217, 3) := by decide +kernel
theorem dX11_isSound_24 : decode cX11_isSound 24 = .ok (.ifCond .eq 7, 3) := by decide +kernel
theorem dX11_isSound_27 : decode cX11_isSound 27 = .ok (.iconst 1, 1) := by decide +kernel
theorem dX11_isSound_28 : decode cX11_isSound 28 = .ok (.goto 4, 3) := by decide +kernel
theorem dX11_isSound_31 : decode cX11_isSound 31 = .ok (.iconst 0, 1) := by decide +kernel
theorem dX11_isSound_32 : decode cX11_isSound 32 = .ok (.istore_n 1, 1) := by decide +kernel
theorem dX11_isSound_33 : decode cX11_isSound 33 = .ok (.iload_n 1, 1) := by decide +kernel
theorem dX11_isSound_34 : decode cX11_isSound 34 = .ok (.ifCond .eq 37, 3) := by decide +kernel
theorem dX11_isSound_37 : decode cX11_isSound 37 = .ok (.aload_n 0, 1) := by decide +kernel
theorem dX11_isSound_38 : decode cX11_isSound 38 = .ok (.getfield 19, 3) := by decide +kernel
theorem dX11_isSound_41 : decode cX11_isSound 41 = .ok (.invokevirtual 368, 3) := by decide +kernel
theorem dX11_isSound_44 : decode cX11_isSound 44 = .ok (.ifCond .eq 27, 3) := by decide +kernel
theorem dX11_isSound_47 : decode cX11_isSound 47 = .ok (.aload_n 0, 1) := by decide +kernel
theorem dX11_isSound_48 : decode cX11_isSound 48 = .ok (.getfield 47, 3) := by decide +kernel
theorem dX11_isSound_51 : decode cX11_isSound 51 = .ok (.invokevirtual 372, 3) := by decide +kernel
theorem dX11_isSound_54 : decode cX11_isSound 54 = .ok (.ifCond .eq 17, 3) := by decide +kernel
theorem dX11_isSound_57 : decode cX11_isSound 57 = .ok (.aload_n 0, 1) := by decide +kernel
theorem dX11_isSound_58 : decode cX11_isSound 58 = .ok (.getfield 40, 3) := by decide +kernel
theorem dX11_isSound_61 : decode cX11_isSound 61 = .ok (.invokevirtual 375, 3) := by decide +kernel
theorem dX11_isSound_64 : decode cX11_isSound 64 = .ok (.ifCond .eq 7, 3) := by decide +kernel
theorem dX11_isSound_67 : decode cX11_isSound 67 = .ok (.iconst 1, 1) := by decide +kernel
theorem dX11_isSound_68 : decode cX11_isSound 68 = .ok (.goto 4, 3) := by decide +kernel
theorem dX11_isSound_71 : decode cX11_isSound 71 = .ok (.iconst 0, 1) := by decide +kernel
theorem dX11_isSound_72 : decode cX11_isSound 72 = .ok (.ireturn, 1) := by decide +kernel
theorem dX11_needCell_0 : decode cX11_needCell 0 = .ok (.iload_n 1, 1) := by decide +kernel
theorem dX11_needCell_1 : decode cX11_needCell 1 = .ok (.ifCond .lt 19, 3) := by decide +kernel
theorem dX11_needCell_4 : decode cX11_needCell 4 = .ok (.iload_n 1, 1) := by decide +kernel
theorem dX11_needCell_5 : decode cX11_needCell 5 = .ok (.bipush 20, 2) := by decide +kernel
theorem dX11_needCell_7 : decode cX11_needCell 7 = .ok (.if_icmp .ge 13, 3) := by decide +kernel
theorem dX11_needCell_10 : decode cX11_needCell 10 = .ok (.iload_n 2, 1) := by decide +kernel
theorem dX11_needCell_11 : decode cX11_needCell 11 = .ok (.ifCond .lt 9, 3) := by decide +kernel
theorem dX11_needCell_14 : decode cX11_needCell 14 = .ok (.iload_n 2, 1) := by decide +kernel
theorem dX11_needCell_15 : decode cX11_needCell 15 = .ok (.bipush 20, 2) := by decide +kernel
theorem dX11_needCell_17 : decode cX11_needCell 17 = .ok (.if_icmp .lt 14, 3) := by decide +kernel
theorem dX11_needCell_20 : decode cX11_needCell 20 = .ok (.new 376, 3) := by decide +kernel
theorem dX11_needCell_23 : decode cX11_needCell 23 = .ok (.dup, 1) := by decide +kernel
theorem dX11_needCell_24 : decode cX11_needCell 24 = .ok (.ldc_w 378, 3) := by decide +kernel
theorem dX11_needCell_27 : decode cX11_needCell 27 = .ok (.invokespecial 380, 3) := by decide +kernel
theorem dX11_needCell_30 : decode cX11_needCell 30 = .ok (.athrow, 1) := by decide +kernel
theorem dX11_needCell_31 : decode cX11_needCell 31 = .ok (.return_, 1) := by decide +kernel
theorem dX11_needSite_0 : decode cX11_needSite 0 = .ok (.iload_n 1, 1) := by decide +kernel
theorem dX11_needSite_1 : decode cX11_needSite 1 = .ok (.ifCond .lt 20, 3) := by decide +kernel
theorem dX11_needSite_4 : decode cX11_needSite 4 = .ok (.iload_n 1, 1) := by decide +kernel
theorem dX11_needSite_5 : decode cX11_needSite 5 = .ok (.aload_n 0, 1) := by decide +kernel
theorem dX11_needSite_6 : decode cX11_needSite 6 = .ok (.getfield 10, 3) := by decide +kernel
theorem dX11_needSite_9 : decode cX11_needSite 9 = .ok (.getfield 77, 3) := by decide +kernel
theorem dX11_needSite_12 : decode cX11_needSite 12 = .ok (.getfield 87, 3) := by decide +kernel
theorem dX11_needSite_15 : decode cX11_needSite 15 = .ok (.invokevirtual 91, 3) := by decide +kernel
theorem dX11_needSite_18 : decode cX11_needSite 18 = .ok (.if_icmp .lt 14, 3) := by decide +kernel
theorem dX11_needSite_21 : decode cX11_needSite 21 = .ok (.new 376, 3) := by decide +kernel
theorem dX11_needSite_24 : decode cX11_needSite 24 = .ok (.dup, 1) := by decide +kernel
theorem dX11_needSite_25 : decode cX11_needSite 25 = .ok (.ldc_w 381, 3) := by decide +kernel
theorem dX11_needSite_28 : decode cX11_needSite 28 = .ok (.invokespecial 380, 3) := by decide +kernel
theorem dX11_needSite_31 : decode cX11_needSite 31 = .ok (.athrow, 1) := by decide +kernel
theorem dX11_needSite_32 : decode cX11_needSite 32 = .ok (.return_, 1) := by decide +kernel
theorem dX11_needBidder_0 : decode cX11_needBidder 0 = .ok (.iload_n 1, 1) := by decide +kernel
theorem dX11_needBidder_1 : decode cX11_needBidder 1 = .ok (.ifCond .lt 14, 3) := by decide +kernel
theorem dX11_needBidder_4 : decode cX11_needBidder 4 = .ok (.iload_n 1, 1) := by decide +kernel
theorem dX11_needBidder_5 : decode cX11_needBidder 5 = .ok (.aload_n 0, 1) := by decide +kernel
theorem dX11_needBidder_6 : decode cX11_needBidder 6 = .ok (.getfield 47, 3) := by decide +kernel
theorem dX11_needBidder_9 : decode cX11_needBidder 9 = .ok (.getfield 310, 3) := by decide +kernel
theorem dX11_needBidder_12 : decode cX11_needBidder 12 = .ok (.if_icmp .lt 14, 3) := by decide +kernel
theorem dX11_needBidder_15 : decode cX11_needBidder 15 = .ok (.new 376, 3) := by decide +kernel
theorem dX11_needBidder_18 : decode cX11_needBidder 18 = .ok (.dup, 1) := by decide +kernel
theorem dX11_needBidder_19 : decode cX11_needBidder 19 = .ok (.ldc_w 383, 3) := by decide +kernel
theorem dX11_needBidder_22 : decode cX11_needBidder 22 = .ok (.invokespecial 380, 3) := by decide +kernel
theorem dX11_needBidder_25 : decode cX11_needBidder 25 = .ok (.athrow, 1) := by decide +kernel
theorem dX11_needBidder_26 : decode cX11_needBidder 26 = .ok (.return_, 1) := by decide +kernel
theorem dX11_needChannel_0 : decode cX11_needChannel 0 = .ok (.aload_n 0, 1) := by decide +kernel
theorem dX11_needChannel_1 : decode cX11_needChannel 1 = .ok (.iload_n 1, 1) := by decide +kernel
theorem dX11_needChannel_2 : decode cX11_needChannel 2 = .ok (.iconst 0, 1) := by decide +kernel
theorem dX11_needChannel_3 : decode cX11_needChannel 3 = .ok (.bipush 7, 2) := by decide +kernel
theorem dX11_needChannel_5 : decode cX11_needChannel 5 = .ok (.invokevirtual 70, 3) := by decide +kernel
theorem dX11_needChannel_8 : decode cX11_needChannel 8 = .ok (.return_, 1) := by decide +kernel
theorem dX11_needRange_0 : decode cX11_needRange 0 = .ok (.iload_n 1, 1) := by decide +kernel
theorem dX11_needRange_1 : decode cX11_needRange 1 = .ok (.iload_n 2, 1) := by decide +kernel
theorem dX11_needRange_2 : decode cX11_needRange 2 = .ok (.if_icmp .lt 8, 3) := by decide +kernel
theorem dX11_needRange_5 : decode cX11_needRange 5 = .ok (.iload_n 1, 1) := by decide +kernel
theorem dX11_needRange_6 : decode cX11_needRange 6 = .ok (.iload_n 3, 1) := by decide +kernel
theorem dX11_needRange_7 : decode cX11_needRange 7 = .ok (.if_icmp .le 14, 3) := by decide +kernel
theorem dX11_needRange_10 : decode cX11_needRange 10 = .ok (.new 120, 3) := by decide +kernel
theorem dX11_needRange_13 : decode cX11_needRange 13 = .ok (.dup, 1) := by decide +kernel
theorem dX11_needRange_14 : decode cX11_needRange 14 = .ok (.ldc_w 385, 3) := by decide +kernel
theorem dX11_needRange_17 : decode cX11_needRange 17 = .ok (.invokespecial 124, 3) := by decide +kernel
theorem dX11_needRange_20 : decode cX11_needRange 20 = .ok (.athrow, 1) := by decide +kernel
theorem dX11_needRange_21 : decode cX11_needRange 21 = .ok (.return_, 1) := by decide +kernel
theorem dX11_needSilence_0 : decode cX11_needSilence 0 = .ok (.aload_n 0, 1) := by decide +kernel
theorem dX11_needSilence_1 : decode cX11_needSilence 1 = .ok (.getfield 19, 3) := by decide +kernel
theorem dX11_needSilence_4 : decode cX11_needSilence 4 = .ok (.invokevirtual 274, 3) := by decide +kernel
theorem dX11_needSilence_7 : decode cX11_needSilence 7 = .ok (.ifCond .eq 14, 3) := by decide +kernel
theorem dX11_needSilence_10 : decode cX11_needSilence 10 = .ok (.new 97, 3) := by decide +kernel
theorem dX11_needSilence_13 : decode cX11_needSilence 13 = .ok (.dup, 1) := by decide +kernel
theorem dX11_needSilence_14 : decode cX11_needSilence 14 = .ok (.ldc_w 387, 3) := by decide +kernel
theorem dX11_needSilence_17 : decode cX11_needSilence 17 = .ok (.invokespecial 101, 3) := by decide +kernel
theorem dX11_needSilence_20 : decode cX11_needSilence 20 = .ok (.athrow, 1) := by decide +kernel
theorem dX11_needSilence_21 : decode cX11_needSilence 21 = .ok (.return_, 1) := by decide +kernel
theorem dX11_stationAt_0 : decode cX11_stationAt 0 = .ok (.iload_n 1, 1) := by decide +kernel
theorem dX11_stationAt_1 : decode cX11_stationAt 1 = .ok (.ifCond .lt 17, 3) := by decide +kernel
theorem dX11_stationAt_4 : decode cX11_stationAt 4 = .ok (.iload_n 1, 1) := by decide +kernel
theorem dX11_stationAt_5 : decode cX11_stationAt 5 = .ok (.aload_n 0, 1) := by decide +kernel
theorem dX11_stationAt_6 : decode cX11_stationAt 6 = .ok (.getfield 10, 3) := by decide +kernel
theorem dX11_stationAt_9 : decode cX11_stationAt 9 = .ok (.getfield 125, 3) := by decide +kernel
theorem dX11_stationAt_12 : decode cX11_stationAt 12 = .ok (.invokevirtual 91, 3) := by decide +kernel
theorem dX11_stationAt_15 : decode cX11_stationAt 15 = .ok (.if_icmp .lt 14, 3) := by decide +kernel
theorem dX11_stationAt_18 : decode cX11_stationAt 18 = .ok (.new 376, 3) := by decide +kernel
theorem dX11_stationAt_21 : decode cX11_stationAt 21 = .ok (.dup, 1) := by decide +kernel
theorem dX11_stationAt_22 : decode cX11_stationAt 22 = .ok (.ldc_w 389, 3) := by decide +kernel
theorem dX11_stationAt_25 : decode cX11_stationAt 25 = .ok (.invokespecial 380, 3) := by decide +kernel
theorem dX11_stationAt_28 : decode cX11_stationAt 28 = .ok (.athrow, 1) := by decide +kernel
theorem dX11_stationAt_29 : decode cX11_stationAt 29 = .ok (.aload_n 0, 1) := by decide +kernel
theorem dX11_stationAt_30 : decode cX11_stationAt 30 = .ok (.getfield 10, 3) := by decide +kernel
theorem dX11_stationAt_33 : decode cX11_stationAt 33 = .ok (.getfield 125, 3) := by decide +kernel
theorem dX11_stationAt_36 : decode cX11_stationAt 36 = .ok (.iload_n 1, 1) := by decide +kernel
theorem dX11_stationAt_37 : decode cX11_stationAt 37 = .ok (.invokevirtual 361, 3) := by decide +kernel
theorem dX11_stationAt_40 : decode cX11_stationAt 40 = .ok (.checkcast 130, 3) := by decide +kernel
theorem dX11_stationAt_43 : decode cX11_stationAt 43 = .ok (.areturn, 1) := by decide +kernel
theorem dX11_stationOnAir_0 : decode cX11_stationOnAir 0 = .ok (.aload_n 0, 1) := by decide +kernel
theorem dX11_stationOnAir_1 : decode cX11_stationOnAir 1 = .ok (.iload_n 1, 1) := by decide +kernel
theorem dX11_stationOnAir_2 : decode cX11_stationOnAir 2 = .ok (.invokevirtual 143, 3) := by decide +kernel
theorem dX11_stationOnAir_5 : decode cX11_stationOnAir 5 = .ok (.astore_n 2, 1) := by decide +kernel
theorem dX11_stationOnAir_6 : decode cX11_stationOnAir 6 = .ok (.aload_n 0, 1) := by decide +kernel
theorem dX11_stationOnAir_7 : decode cX11_stationOnAir 7 = .ok (.getfield 19, 3) := by decide +kernel
theorem dX11_stationOnAir_10 : decode cX11_stationOnAir 10 = .ok (.getfield 154, 3) := by decide +kernel
theorem dX11_stationOnAir_13 : decode cX11_stationOnAir 13 = .ok (.iload_n 1, 1) := by decide +kernel
theorem dX11_stationOnAir_14 : decode cX11_stationOnAir 14 = .ok (.invokevirtual 226, 3) := by decide +kernel
theorem dX11_stationOnAir_17 : decode cX11_stationOnAir 17 = .ok (.iconst (-1), 1) := by decide +kernel
theorem dX11_stationOnAir_18 : decode cX11_stationOnAir 18 = .ok (.if_icmp .ne 14, 3) := by decide +kernel
theorem dX11_stationOnAir_21 : decode cX11_stationOnAir 21 = .ok (.new 221, 3) := by decide +kernel
theorem dX11_stationOnAir_24 : decode cX11_stationOnAir 24 = .ok (.dup, 1) := by decide +kernel
theorem dX11_stationOnAir_25 : decode cX11_stationOnAir 25 = .ok (.ldc_w 391, 3) := by decide +kernel
theorem dX11_stationOnAir_28 : decode cX11_stationOnAir 28 = .ok (.invokespecial 225, 3) := by decide +kernel
theorem dX11_stationOnAir_31 : decode cX11_stationOnAir 31 = .ok (.athrow, 1) := by decide +kernel
theorem dX11_stationOnAir_32 : decode cX11_stationOnAir 32 = .ok (.aload_n 2, 1) := by decide +kernel
theorem dX11_stationOnAir_33 : decode cX11_stationOnAir 33 = .ok (.areturn, 1) := by decide +kernel
theorem dX11_silenceSecondaries_0 : decode cX11_silenceSecondaries 0 = .ok (.iconst 0, 1) := by decide +kernel
theorem dX11_silenceSecondaries_1 : decode cX11_silenceSecondaries 1 = .ok (.istore_n 2, 1) := by decide +kernel
theorem dX11_silenceSecondaries_2 : decode cX11_silenceSecondaries 2 = .ok (.aload_n 0, 1) := by decide +kernel
theorem dX11_silenceSecondaries_3 : decode cX11_silenceSecondaries 3 = .ok (.getfield 10, 3) := by decide +kernel
theorem dX11_silenceSecondaries_6 : decode cX11_silenceSecondaries 6 = .ok (.getfield 125, 3) := by decide +kernel
theorem dX11_silenceSecondaries_9 : decode cX11_silenceSecondaries 9 = .ok (.invokevirtual 91, 3) := by decide +kernel
theorem dX11_silenceSecondaries_12 : decode cX11_silenceSecondaries 12 = .ok (.iconst 1, 1) := by decide +kernel
theorem dX11_silenceSecondaries_13 : decode cX11_silenceSecondaries 13 = .ok (.isub, 1) := by decide +kernel
theorem dX11_silenceSecondaries_14 : decode cX11_silenceSecondaries 14 = .ok (.istore_n 3, 1) := by decide +kernel
theorem dX11_silenceSecondaries_15 : decode cX11_silenceSecondaries 15 = .ok (.iload_n 3, 1) := by decide +kernel
theorem dX11_silenceSecondaries_16 : decode cX11_silenceSecondaries 16 = .ok (.ifCond .lt 97, 3) := by decide +kernel
theorem dX11_silenceSecondaries_19 : decode cX11_silenceSecondaries 19 = .ok (.aload_n 0, 1) := by decide +kernel
theorem dX11_silenceSecondaries_20 : decode cX11_silenceSecondaries 20 = .ok (.getfield 10, 3) := by decide +kernel
theorem dX11_silenceSecondaries_23 : decode cX11_silenceSecondaries 23 = .ok (.getfield 125, 3) := by decide +kernel
theorem dX11_silenceSecondaries_26 : decode cX11_silenceSecondaries 26 = .ok (.iload_n 3, 1) := by decide +kernel
theorem dX11_silenceSecondaries_27 : decode cX11_silenceSecondaries 27 = .ok (.invokevirtual 361, 3) := by decide +kernel
theorem dX11_silenceSecondaries_30 : decode cX11_silenceSecondaries 30 = .ok (.checkcast 130, 3) := by decide +kernel
theorem dX11_silenceSecondaries_33 : decode cX11_silenceSecondaries 33 = .ok (.astore 4, 2) := by decide +kernel
theorem dX11_silenceSecondaries_35 : decode cX11_silenceSecondaries 35 = .ok (.aload_n 0, 1) := by decide +kernel
theorem dX11_silenceSecondaries_36 : decode cX11_silenceSecondaries 36 = .ok (.getfield 63, 3) := by decide +kernel
theorem dX11_silenceSecondaries_39 : decode cX11_silenceSecondaries 39 = .ok (.iload_n 3, 1) := by decide +kernel
theorem dX11_silenceSecondaries_40 : decode cX11_silenceSecondaries 40 = .ok (.invokevirtual 226, 3) := by decide +kernel
theorem dX11_silenceSecondaries_43 : decode cX11_silenceSecondaries 43 = .ok (.aload_n 0, 1) := by decide +kernel
theorem dX11_silenceSecondaries_44 : decode cX11_silenceSecondaries 44 = .ok (.getfield 63, 3) := by decide +kernel
theorem dX11_silenceSecondaries_47 : decode cX11_silenceSecondaries 47 = .ok (.aload_n 1, 1) := by decide +kernel
theorem dX11_silenceSecondaries_48 : decode cX11_silenceSecondaries 48 = .ok (.getfield 232, 3) := by decide +kernel
theorem dX11_silenceSecondaries_51 : decode cX11_silenceSecondaries 51 = .ok (.invokevirtual 226, 3) := by decide +kernel
theorem dX11_silenceSecondaries_54 : decode cX11_silenceSecondaries 54 = .ok (.isub, 1) := by decide +kernel
theorem dX11_silenceSecondaries_55 : decode cX11_silenceSecondaries 55 = .ok (.invokestatic 176, 3) := by decide +kernel
theorem dX11_silenceSecondaries_58 : decode cX11_silenceSecondaries 58 = .ok (.istore 5, 2) := by decide +kernel
theorem dX11_silenceSecondaries_60 : decode cX11_silenceSecondaries 60 = .ok (.aload 4, 2) := by decide +kernel
theorem dX11_silenceSecondaries_62 : decode cX11_silenceSecondaries 62 = .ok (.getfield 210, 3) := by decide +kernel
theorem dX11_silenceSecondaries_65 : decode cX11_silenceSecondaries 65 = .ok (.ifCond .ne 42, 3) := by decide +kernel
theorem dX11_silenceSecondaries_68 : decode cX11_silenceSecondaries 68 = .ok (.aload_n 0, 1) := by decide +kernel
theorem dX11_silenceSecondaries_69 : decode cX11_silenceSecondaries 69 = .ok (.getfield 63, 3) := by decide +kernel
theorem dX11_silenceSecondaries_72 : decode cX11_silenceSecondaries 72 = .ok (.iload_n 3, 1) := by decide +kernel
theorem dX11_silenceSecondaries_73 : decode cX11_silenceSecondaries 73 = .ok (.invokevirtual 226, 3) := by decide +kernel
theorem dX11_silenceSecondaries_76 : decode cX11_silenceSecondaries 76 = .ok (.iconst (-1), 1) := by decide +kernel
theorem dX11_silenceSecondaries_77 : decode cX11_silenceSecondaries 77 = .ok (.if_icmp .eq 30, 3) := by decide +kernel
theorem dX11_silenceSecondaries_80 : decode cX11_silenceSecondaries 80 = .ok (.aload_n 0, 1) := by decide +kernel
theorem dX11_silenceSecondaries_81 : decode cX11_silenceSecondaries 81 = .ok (.getfield 10, 3) := by decide +kernel
theorem dX11_silenceSecondaries_84 : decode cX11_silenceSecondaries 84 = .ok (.aload_n 1, 1) := by decide +kernel
theorem dX11_silenceSecondaries_85 : decode cX11_silenceSecondaries 85 = .ok (.aload 4, 2) := by decide +kernel
theorem dX11_silenceSecondaries_87 : decode cX11_silenceSecondaries 87 = .ok (.iload 5, 2) := by decide +kernel
theorem dX11_silenceSecondaries_89 : decode cX11_silenceSecondaries 89 = .ok (.invokevirtual 182, 3) := by decide +kernel
theorem dX11_silenceSecondaries_92 : decode cX11_silenceSecondaries 92 = .ok (.ifCond .eq 15, 3) := by decide +kernel
theorem dX11_silenceSecondaries_95 : decode cX11_silenceSecondaries 95 = .ok (.aload_n 0, 1) := by decide +kernel
theorem dX11_silenceSecondaries_96 : decode cX11_silenceSecondaries 96 = .ok (.getfield 63, 3) := by decide +kernel
theorem dX11_silenceSecondaries_99 : decode cX11_silenceSecondaries 99 = .ok (.iload_n 3, 1) := by decide +kernel
theorem dX11_silenceSecondaries_100 : decode cX11_silenceSecondaries 100 = .ok (.iconst (-1), 1) := by decide +kernel
theorem dX11_silenceSecondaries_101 : decode cX11_silenceSecondaries 101 = .ok (.invokevirtual 207, 3) := by decide +kernel
theorem dX11_silenceSecondaries_104 : decode cX11_silenceSecondaries 104 = .ok (.iinc 2 1, 3) := by decide +kernel
theorem dX11_silenceSecondaries_107 : decode cX11_silenceSecondaries 107 = .ok (.iinc 3 (-1), 3) := by decide +kernel
theorem dX11_silenceSecondaries_110 : decode cX11_silenceSecondaries 110 = .ok (.goto (-95), 3) := by decide +kernel
theorem dX11_silenceSecondaries_113 : decode cX11_silenceSecondaries 113 = .ok (.iload_n 2, 1) := by decide +kernel
theorem dX11_silenceSecondaries_114 : decode cX11_silenceSecondaries 114 = .ok (.ireturn, 1) := by decide +kernel
theorem dX11_isIn_0 : decode cX11_isIn 0 = .ok (.iload_n 1, 1) := by decide +kernel
theorem dX11_isIn_1 : decode cX11_isIn 1 = .ok (.iload_n 0, 1) := by decide +kernel
theorem dX11_isIn_2 : decode cX11_isIn 2 = .ok (.ishr, 1) := by decide +kernel
theorem dX11_isIn_3 : decode cX11_isIn 3 = .ok (.iconst 1, 1) := by decide +kernel
theorem dX11_isIn_4 : decode cX11_isIn 4 = .ok (.iand, 1) := by decide +kernel
theorem dX11_isIn_5 : decode cX11_isIn 5 = .ok (.iconst 1, 1) := by decide +kernel
theorem dX11_isIn_6 : decode cX11_isIn 6 = .ok (.if_icmp .ne 7, 3) := by decide +kernel
theorem dX11_isIn_9 : decode cX11_isIn 9 = .ok (.iconst 1, 1) := by decide +kernel
theorem dX11_isIn_10 : decode cX11_isIn 10 = .ok (.goto 4, 3) := by decide +kernel
theorem dX11_isIn_13 : decode cX11_isIn 13 = .ok (.iconst 0, 1) := by decide +kernel
theorem dX11_isIn_14 : decode cX11_isIn 14 = .ok (.ireturn, 1) := by decide +kernel
theorem dX12_init_0 : decode cX12_init 0 = .ok (.aload_n 0, 1) := by decide +kernel
theorem dX12_init_1 : decode cX12_init 1 = .ok (.invokespecial 1, 3) := by decide +kernel
theorem dX12_init_4 : decode cX12_init 4 = .ok (.aload_n 0, 1) := by decide +kernel
theorem dX12_init_5 : decode cX12_init 5 = .ok (.sipush 170, 3) := by decide +kernel
theorem dX12_init_8 : decode cX12_init 8 = .ok (.putfield 7, 3) := by decide +kernel
theorem dX12_init_11 : decode cX12_init 11 = .ok (.aload_n 0, 1) := by decide +kernel
theorem dX12_init_12 : decode cX12_init 12 = .ok (.sipush 400, 3) := by decide +kernel
theorem dX12_init_15 : decode cX12_init 15 = .ok (.newarray .int, 2) := by decide +kernel
theorem dX12_init_17 : decode cX12_init 17 = .ok (.putfield 13, 3) := by decide +kernel
theorem dX12_init_20 : decode cX12_init 20 = .ok (.aload_n 0, 1) := by decide +kernel
theorem dX12_init_21 : decode cX12_init 21 = .ok (.bipush 10, 2) := by decide +kernel
theorem dX12_init_23 : decode cX12_init 23 = .ok (.newarray .int, 2) := by decide +kernel
theorem dX12_init_25 : decode cX12_init 25 = .ok (.putfield 17, 3) := by decide +kernel
theorem dX12_init_28 : decode cX12_init 28 = .ok (.aload_n 0, 1) := by decide +kernel
theorem dX12_init_29 : decode cX12_init 29 = .ok (.bipush 10, 2) := by decide +kernel
theorem dX12_init_31 : decode cX12_init 31 = .ok (.newarray .int, 2) := by decide +kernel
theorem dX12_init_33 : decode cX12_init 33 = .ok (.putfield 20, 3) := by decide +kernel
theorem dX12_init_36 : decode cX12_init 36 = .ok (.aload_n 0, 1) := by decide +kernel
theorem dX12_init_37 : decode cX12_init 37 = .ok (.bipush 10, 2) := by decide +kernel
theorem dX12_init_39 : decode cX12_init 39 = .ok (.newarray .int, 2) := by decide +kernel
theorem dX12_init_41 : decode cX12_init 41 = .ok (.putfield 23, 3) := by decide +kernel
theorem dX12_init_44 : decode cX12_init 44 = .ok (.aload_n 0, 1) := by decide +kernel
theorem dX12_init_45 : decode cX12_init 45 = .ok (.bipush 8, 2) := by decide +kernel
theorem dX12_init_47 : decode cX12_init 47 = .ok (.newarray .int, 2) := by decide +kernel
theorem dX12_init_49 : decode cX12_init 49 = .ok (.putfield 26, 3) := by decide +kernel
theorem dX12_init_52 : decode cX12_init 52 = .ok (.aload_n 0, 1) := by decide +kernel
theorem dX12_init_53 : decode cX12_init 53 = .ok (.bipush 8, 2) := by decide +kernel
theorem dX12_init_55 : decode cX12_init 55 = .ok (.newarray .int, 2) := by decide +kernel
theorem dX12_init_57 : decode cX12_init 57 = .ok (.putfield 29, 3) := by decide +kernel
theorem dX12_init_60 : decode cX12_init 60 = .ok (.aload_n 0, 1) := by decide +kernel
theorem dX12_init_61 : decode cX12_init 61 = .ok (.bipush 8, 2) := by decide +kernel
theorem dX12_init_63 : decode cX12_init 63 = .ok (.newarray .int, 2) := by decide +kernel
theorem dX12_init_65 : decode cX12_init 65 = .ok (.putfield 32, 3) := by decide +kernel
theorem dX12_init_68 : decode cX12_init 68 = .ok (.aload_n 0, 1) := by decide +kernel
theorem dX12_init_69 : decode cX12_init 69 = .ok (.bipush 8, 2) := by decide +kernel
theorem dX12_init_71 : decode cX12_init 71 = .ok (.newarray .boolean, 2) := by decide +kernel
theorem dX12_init_73 : decode cX12_init 73 = .ok (.putfield 35, 3) := by decide +kernel
theorem dX12_init_76 : decode cX12_init 76 = .ok (.aload_n 0, 1) := by decide +kernel
theorem dX12_init_77 : decode cX12_init 77 = .ok (.bipush 8, 2) := by decide +kernel
theorem dX12_init_79 : decode cX12_init 79 = .ok (.newarray .int, 2) := by decide +kernel
theorem dX12_init_81 : decode cX12_init 81 = .ok (.putfield 39, 3) := by decide +kernel
theorem dX12_init_84 : decode cX12_init 84 = .ok (.aload_n 0, 1) := by decide +kernel
theorem dX12_init_85 : decode cX12_init 85 = .ok (.bipush 8, 2) := by decide +kernel
theorem dX12_init_87 : decode cX12_init 87 = .ok (.newarray .int, 2) := by decide +kernel
theorem dX12_init_89 : decode cX12_init 89 = .ok (.putfield 42, 3) := by decide +kernel
theorem dX12_init_92 : decode cX12_init 92 = .ok (.aload_n 0, 1) := by decide +kernel
theorem dX12_init_93 : decode cX12_init 93 = .ok (.new 45, 3) := by decide +kernel
theorem dX12_init_96 : decode cX12_init 96 = .ok (.dup, 1) := by decide +kernel
theorem dX12_init_97 : decode cX12_init 97 = .ok (.invokespecial 47, 3) := by decide +kernel
theorem dX12_init_100 : decode cX12_init 100 = .ok (.putfield 48, 3) := by decide +kernel
theorem dX12_init_103 : decode cX12_init 103 = .ok (.aload_n 0, 1) := by decide +kernel
theorem dX12_init_104 : decode cX12_init 104 = .ok (.bipush 8, 2) := by decide +kernel
theorem dX12_init_106 : decode cX12_init 106 = .ok (.newarray .boolean, 2) := by decide +kernel
theorem dX12_init_108 : decode cX12_init 108 = .ok (.putfield 52, 3) := by decide +kernel
theorem dX12_init_111 : decode cX12_init 111 = .ok (.aload_n 0, 1) := by decide +kernel
theorem dX12_init_112 : decode cX12_init 112 = .ok (.bipush 64, 2) := by decide +kernel
theorem dX12_init_114 : decode cX12_init 114 = .ok (.newarray .int, 2) := by decide +kernel
theorem dX12_init_116 : decode cX12_init 116 = .ok (.putfield 55, 3) := by decide +kernel
theorem dX12_init_119 : decode cX12_init 119 = .ok (.aload_n 0, 1) := by decide +kernel
theorem dX12_init_120 : decode cX12_init 120 = .ok (.bipush 64, 2) := by decide +kernel
theorem dX12_init_122 : decode cX12_init 122 = .ok (.newarray .boolean, 2) := by decide +kernel
theorem dX12_init_124 : decode cX12_init 124 = .ok (.putfield 58, 3) := by decide +kernel
theorem dX12_init_127 : decode cX12_init 127 = .ok (.aload_n 0, 1) := by decide +kernel
theorem dX12_init_128 : decode cX12_init 128 = .ok (.bipush 8, 2) := by decide +kernel
theorem dX12_init_130 : decode cX12_init 130 = .ok (.newarray .int, 2) := by decide +kernel
theorem dX12_init_132 : decode cX12_init 132 = .ok (.putfield 61, 3) := by decide +kernel
theorem dX12_init_135 : decode cX12_init 135 = .ok (.aload_n 0, 1) := by decide +kernel
theorem dX12_init_136 : decode cX12_init 136 = .ok (.bipush 8, 2) := by decide +kernel
theorem dX12_init_138 : decode cX12_init 138 = .ok (.newarray .boolean, 2) := by decide +kernel
theorem dX12_init_140 : decode cX12_init 140 = .ok (.putfield 64, 3) := by decide +kernel
theorem dX12_init_143 : decode cX12_init 143 = .ok (.aload_n 0, 1) := by decide +kernel
theorem dX12_init_144 : decode cX12_init 144 = .ok (.bipush 12, 2) := by decide +kernel
theorem dX12_init_146 : decode cX12_init 146 = .ok (.newarray .int, 2) := by decide +kernel
theorem dX12_init_148 : decode cX12_init 148 = .ok (.putfield 67, 3) := by decide +kernel
theorem dX12_init_151 : decode cX12_init 151 = .ok (.aload_n 0, 1) := by decide +kernel
theorem dX12_init_152 : decode cX12_init 152 = .ok (.iconst 4, 1) := by decide +kernel
theorem dX12_init_153 : decode cX12_init 153 = .ok (.newarray .int, 2) := by decide +kernel
theorem dX12_init_155 : decode cX12_init 155 = .ok (.putfield 70, 3) := by decide +kernel
theorem dX12_init_158 : decode cX12_init 158 = .ok (.aload_n 0, 1) := by decide +kernel
theorem dX12_init_159 : decode cX12_init 159 = .ok (.iconst 4, 1) := by decide +kernel
theorem dX12_init_160 : decode cX12_init 160 = .ok (.newarray .long, 2) := by decide +kernel
theorem dX12_init_162 : decode cX12_init 162 = .ok (.putfield 73, 3) := by decide +kernel
theorem dX12_init_165 : decode cX12_init 165 = .ok (.aload_n 0, 1) := by decide +kernel
theorem dX12_init_166 : decode cX12_init 166 = .ok (.bipush 8, 2) := by decide +kernel
theorem dX12_init_168 : decode cX12_init 168 = .ok (.newarray .int, 2) := by decide +kernel
theorem dX12_init_170 : decode cX12_init 170 = .ok (.putfield 77, 3) := by decide +kernel
theorem dX12_init_173 : decode cX12_init 173 = .ok (.aload_n 0, 1) := by decide +kernel
theorem dX12_init_174 : decode cX12_init 174 = .ok (.bipush 8, 2) := by decide +kernel
theorem dX12_init_176 : decode cX12_init 176 = .ok (.newarray .boolean, 2) := by decide +kernel
theorem dX12_init_178 : decode cX12_init 178 = .ok (.putfield 80, 3) := by decide +kernel
theorem dX12_init_181 : decode cX12_init 181 = .ok (.aload_n 0, 1) := by decide +kernel
theorem dX12_init_182 : decode cX12_init 182 = .ok (.bipush 8, 2) := by decide +kernel
theorem dX12_init_184 : decode cX12_init 184 = .ok (.newarray .int, 2) := by decide +kernel
theorem dX12_init_186 : decode cX12_init 186 = .ok (.putfield 83, 3) := by decide +kernel
theorem dX12_init_189 : decode cX12_init 189 = .ok (.aload_n 0, 1) := by decide +kernel
theorem dX12_init_190 : decode cX12_init 190 = .ok (.bipush 8, 2) := by decide +kernel
theorem dX12_init_192 : decode cX12_init 192 = .ok (.newarray .int, 2) := by decide +kernel
theorem dX12_init_194 : decode cX12_init 194 = .ok (.putfield 86, 3) := by decide +kernel
theorem dX12_init_197 : decode cX12_init 197 = .ok (.aload_n 0, 1) := by decide +kernel
theorem dX12_init_198 : decode cX12_init 198 = .ok (.bipush 8, 2) := by decide +kernel
theorem dX12_init_200 : decode cX12_init 200 = .ok (.newarray .int, 2) := by decide +kernel
theorem dX12_init_202 : decode cX12_init 202 = .ok (.putfield 89, 3) := by decide +kernel
theorem dX12_init_205 : decode cX12_init 205 = .ok (.aload_n 0, 1) := by decide +kernel
theorem dX12_init_206 : decode cX12_init 206 = .ok (.bipush 8, 2) := by decide +kernel
theorem dX12_init_208 : decode cX12_init 208 = .ok (.newarray .boolean, 2) := by decide +kernel
theorem dX12_init_210 : decode cX12_init 210 = .ok (.putfield 92, 3) := by decide +kernel
theorem dX12_init_213 : decode cX12_init 213 = .ok (.aload_n 0, 1) := by decide +kernel
theorem dX12_init_214 : decode cX12_init 214 = .ok (.bipush 8, 2) := by decide +kernel
theorem dX12_init_216 : decode cX12_init 216 = .ok (.newarray .int, 2) := by decide +kernel
theorem dX12_init_218 : decode cX12_init 218 = .ok (.putfield 95, 3) := by decide +kernel
theorem dX12_init_221 : decode cX12_init 221 = .ok (.iconst 0, 1) := by decide +kernel
theorem dX12_init_222 : decode cX12_init 222 = .ok (.istore_n 1, 1) := by decide +kernel
theorem dX12_init_223 : decode cX12_init 223 = .ok (.iload_n 1, 1) := by decide +kernel
theorem dX12_init_224 : decode cX12_init 224 = .ok (.bipush 64, 2) := by decide +kernel
theorem dX12_init_226 : decode cX12_init 226 = .ok (.if_icmp .ge 16, 3) := by decide +kernel
theorem dX12_init_229 : decode cX12_init 229 = .ok (.aload_n 0, 1) := by decide +kernel
theorem dX12_init_230 : decode cX12_init 230 = .ok (.getfield 55, 3) := by decide +kernel
theorem dX12_init_233 : decode cX12_init 233 = .ok (.iload_n 1, 1) := by decide +kernel
theorem dX12_init_234 : decode cX12_init 234 = .ok (.iconst (-1), 1) := by decide +kernel
theorem dX12_init_235 : decode cX12_init 235 = .ok (.iastore, 1) := by decide +kernel
theorem dX12_init_236 : decode cX12_init 236 = .ok (.iinc 1 1, 3) := by decide +kernel
theorem dX12_init_239 : decode cX12_init 239 = .ok (.goto (-16), 3) := by decide +kernel
theorem dX12_init_242 : decode cX12_init 242 = .ok (.iconst 0, 1) := by decide +kernel
theorem dX12_init_243 : decode cX12_init 243 = .ok (.istore_n 1, 1) := by decide +kernel
theorem dX12_init_244 : decode cX12_init 244 = .ok (.iload_n 1, 1) := by decide +kernel
theorem dX12_init_245 : decode cX12_init 245 = .ok (.bipush 8, 2) := by decide +kernel
theorem dX12_init_247 : decode cX12_init 247 = .ok (.if_icmp .ge 30, 3) := by decide +kernel
theorem dX12_init_250 : decode cX12_init 250 = .ok (.aload_n 0, 1) := by decide +kernel
theorem dX12_init_251 : decode cX12_init 251 = .ok (.getfield 61, 3) := by decide +kernel
theorem dX12_init_254 : decode cX12_init 254 = .ok (.iload_n 1, 1) := by decide +kernel
theorem dX12_init_255 : decode cX12_init 255 = .ok (.iconst (-1), 1) := by decide +kernel
theorem dX12_init_256 : decode cX12_init 256 = .ok (.iastore, 1) := by decide +kernel
theorem dX12_init_257 : decode cX12_init 257 = .ok (.aload_n 0, 1) := by decide +kernel
theorem dX12_init_258 : decode cX12_init 258 = .ok (.getfield 77, 3) := by decide +kernel
theorem dX12_init_261 : decode cX12_init 261 = .ok (.iload_n 1, 1) := by decide +kernel
theorem dX12_init_262 : decode cX12_init 262 = .ok (.iconst (-1), 1) := by decide +kernel
theorem dX12_init_263 : decode cX12_init 263 = .ok (.iastore, 1) := by decide +kernel
theorem dX12_init_264 : decode cX12_init 264 = .ok (.aload_n 0, 1) := by decide +kernel
theorem dX12_init_265 : decode cX12_init 265 = .ok (.getfield 39, 3) := by decide +kernel
theorem dX12_init_268 : decode cX12_init 268 = .ok (.iload_n 1, 1) := by decide +kernel
theorem dX12_init_269 : decode cX12_init 269 = .ok (.iconst (-1), 1) := by decide +kernel
theorem dX12_init_270 : decode cX12_init 270 = .ok (.iastore, 1) := by decide +kernel
theorem dX12_init_271 : decode cX12_init 271 = .ok (.iinc 1 1, 3) := by decide +kernel
theorem dX12_init_274 : decode cX12_init 274 = .ok (.goto (-30), 3) := by decide +kernel
theorem dX12_init_277 : decode cX12_init 277 = .ok (.return_, 1) := by decide +kernel
theorem dX12_thrown_0 : decode cX12_thrown 0 = .ok (.aload_n 0, 1) := by decide +kernel
theorem dX12_thrown_1 : decode cX12_thrown 1 = .ok (.getfield 98, 3) := by decide +kernel
theorem dX12_thrown_4 : decode cX12_thrown 4 = .ok (.ireturn, 1) := by decide +kernel
theorem dX12_in_0 : decode cX12_in 0 = .ok (.iload_n 0, 1) := by decide +kernel
theorem dX12_in_1 : decode cX12_in 1 = .ok (.iload_n 1, 1) := by decide +kernel
theorem dX12_in_2 : decode cX12_in 2 = .ok (.if_icmp .lt 12, 3) := by decide +kernel
theorem dX12_in_5 : decode cX12_in 5 = .ok (.iload_n 0, 1) := by decide +kernel
theorem dX12_in_6 : decode cX12_in 6 = .ok (.iload_n 2, 1) := by decide +kernel
theorem dX12_in_7 : decode cX12_in 7 = .ok (.if_icmp .gt 7, 3) := by decide +kernel
theorem dX12_in_10 : decode cX12_in 10 = .ok (.iconst 1, 1) := by decide +kernel
theorem dX12_in_11 : decode cX12_in 11 = .ok (.goto 4, 3) := by decide +kernel
theorem dX12_in_14 : decode cX12_in 14 = .ok (.iconst 0, 1) := by decide +kernel
theorem dX12_in_15 : decode cX12_in 15 = .ok (.ireturn, 1) := by decide +kernel
theorem dX12_fails_0 : decode cX12_fails 0 = .ok (.iload_n 1, 1) := by decide +kernel
theorem dX12_fails_1 : decode cX12_fails 1 = .ok (.ifCond .eq 15, 3) := by decide +kernel
theorem dX12_fails_4 : decode cX12_fails 4 = .ok (.aload_n 0, 1) := by decide +kernel
theorem dX12_fails_5 : decode cX12_fails 5 = .ok (.getfield 98, 3) := by decide +kernel
theorem dX12_fails_8 : decode cX12_fails 8 = .ok (.ifCond .ne 8, 3) := by decide +kernel
theorem dX12_fails_11 : decode cX12_fails 11 = .ok (.aload_n 0, 1) := by decide +kernel
theorem dX12_fails_12 : decode cX12_fails 12 = .ok (.iload_n 2, 1) := by decide +kernel
theorem dX12_fails_13 : decode cX12_fails 13 = .ok (.putfield 98, 3) := by decide +kernel
theorem dX12_fails_16 : decode cX12_fails 16 = .ok (.aload_n 0, 1) := by decide +kernel
theorem dX12_fails_17 : decode cX12_fails 17 = .ok (.getfield 98, 3) := by decide +kernel
theorem dX12_fails_20 : decode cX12_fails 20 = .ok (.ifCond .eq 7, 3) := by decide +kernel
theorem dX12_fails_23 : decode cX12_fails 23 = .ok (.iconst 1, 1) := by decide +kernel
theorem dX12_fails_24 : decode cX12_fails 24 = .ok (.goto 4, 3) := by decide +kernel
theorem dX12_fails_27 : decode cX12_fails 27 = .ok (.iconst 0, 1) := by decide +kernel
theorem dX12_fails_28 : decode cX12_fails 28 = .ok (.ireturn, 1) := by decide +kernel
theorem dX12_noCell_0 : decode cX12_noCell 0 = .ok (.iload_n 0, 1) := by decide +kernel
theorem dX12_noCell_1 : decode cX12_noCell 1 = .ok (.iconst 0, 1) := by decide +kernel
theorem dX12_noCell_2 : decode cX12_noCell 2 = .ok (.bipush 19, 2) := by decide +kernel
theorem dX12_noCell_4 : decode cX12_noCell 4 = .ok (.invokestatic 101, 3) := by decide +kernel
theorem dX12_noCell_7 : decode cX12_noCell 7 = .ok (.ifCond .eq 13, 3) := by decide +kernel
theorem dX12_noCell_10 : decode cX12_noCell 10 = .ok (.iload_n 1, 1) := by decide +kernel
theorem dX12_noCell_11 : decode cX12_noCell 11 = .ok (.iconst 0, 1) := by decide +kernel
theorem dX12_noCell_12 : decode cX12_noCell 12 = .ok (.bipush 19, 2) := by decide +kernel
theorem dX12_noCell_14 : decode cX12_noCell 14 = .ok (.invokestatic 101, 3) := by decide +kernel
theorem dX12_noCell_17 : decode cX12_noCell 17 = .ok (.ifCond .ne 7, 3) := by decide +kernel
theorem dX12_noCell_20 : decode cX12_noCell 20 = .ok (.iconst 1, 1) := by decide +kernel
theorem dX12_noCell_21 : decode cX12_noCell 21 = .ok (.goto 4, 3) := by decide +kernel
theorem dX12_noCell_24 : decode cX12_noCell 24 = .ok (.iconst 0, 1) := by decide +kernel
theorem dX12_noCell_25 : decode cX12_noCell 25 = .ok (.ireturn, 1) := by decide +kernel
theorem dX12_noSite_0 : decode cX12_noSite 0 = .ok (.iload_n 1, 1) := by decide +kernel
theorem dX12_noSite_1 : decode cX12_noSite 1 = .ok (.iconst 0, 1) := by decide +kernel
theorem dX12_noSite_2 : decode cX12_noSite 2 = .ok (.aload_n 0, 1) := by decide +kernel
theorem dX12_noSite_3 : decode cX12_noSite 3 = .ok (.getfield 105, 3) := by decide +kernel
theorem dX12_noSite_6 : decode cX12_noSite 6 = .ok (.iconst 1, 1) := by decide +kernel
theorem dX12_noSite_7 : decode cX12_noSite 7 = .ok (.isub, 1) := by decide +kernel
theorem dX12_noSite_8 : decode cX12_noSite 8 = .ok (.invokestatic 101, 3) := by decide +kernel
theorem dX12_noSite_11 : decode cX12_noSite 11 = .ok (.ifCond .ne 7, 3) := by decide +kernel
theorem dX12_noSite_14 : decode cX12_noSite 14 = .ok (.iconst 1, 1) := by decide +kernel
theorem dX12_noSite_15 : decode cX12_noSite 15 = .ok (.goto 4, 3) := by decide +kernel
theorem dX12_noSite_18 : decode cX12_noSite 18 = .ok (.iconst 0, 1) := by decide +kernel
theorem dX12_noSite_19 : decode cX12_noSite 19 = .ok (.ireturn, 1) := by decide +kernel
theorem dX12_no_0 : decode cX12_no 0 = .ok (.iload_n 1, 1) := by decide +kernel
theorem dX12_no_1 : decode cX12_no 1 = .ok (.iconst 0, 1) := by decide +kernel
theorem dX12_no_2 : decode cX12_no 2 = .ok (.aload_n 0, 1) := by decide +kernel
theorem dX12_no_3 : decode cX12_no 3 = .ok (.getfield 108, 3) := by decide +kernel
theorem dX12_no_6 : decode cX12_no 6 = .ok (.iconst 1, 1) := by decide +kernel
theorem dX12_no_7 : decode cX12_no 7 = .ok (.isub, 1) := by decide +kernel
theorem dX12_no_8 : decode cX12_no 8 = .ok (.invokestatic 101, 3) := by decide +kernel
theorem dX12_no_11 : decode cX12_no 11 = .ok (.ifCond .ne 7, 3) := by decide +kernel
theorem dX12_no_14 : decode cX12_no 14 = .ok (.iconst 1, 1) := by decide +kernel
theorem dX12_no_15 : decode cX12_no 15 = .ok (.goto 4, 3) := by decide +kernel
theorem dX12_no_18 : decode cX12_no 18 = .ok (.iconst 0, 1) := by decide +kernel
theorem dX12_no_19 : decode cX12_no 19 = .ok (.ireturn, 1) := by decide +kernel
theorem dX12_noChannel_0 : decode cX12_noChannel 0 = .ok (.iload_n 0, 1) := by decide +kernel
theorem dX12_noChannel_1 : decode cX12_noChannel 1 = .ok (.iconst 0, 1) := by decide +kernel
theorem dX12_noChannel_2 : decode cX12_noChannel 2 = .ok (.bipush 7, 2) := by decide +kernel
theorem dX12_noChannel_4 : decode cX12_noChannel 4 = .ok (.invokestatic 101, 3) := by decide +kernel
theorem dX12_noChannel_7 : decode cX12_noChannel 7 = .ok (.ifCond .ne 7, 3) := by decide +kernel
theorem dX12_noChannel_10 : decode cX12_noChannel 10 = .ok (.iconst 1, 1) := by decide +kernel
theorem dX12_noChannel_11 : decode cX12_noChannel 11 = .ok (.goto 4, 3) := by decide +kernel
theorem dX12_noChannel_14 : decode cX12_noChannel 14 = .ok (.iconst 0, 1) := by decide +kernel
theorem dX12_noChannel_15 : decode cX12_noChannel 15 = .ok (.ireturn, 1) := by decide +kernel
theorem dX12_isAnyOn_0 : decode cX12_isAnyOn 0 = .ok (.iconst 0, 1) := by decide +kernel
theorem dX12_isAnyOn_1 : decode cX12_isAnyOn 1 = .ok (.istore_n 1, 1) := by decide +kernel
theorem dX12_isAnyOn_2 : decode cX12_isAnyOn 2 = .ok (.iconst 0, 1) := by decide +kernel
theorem dX12_isAnyOn_3 : decode cX12_isAnyOn 3 = .ok (.istore_n 2, 1) := by decide +kernel
theorem dX12_isAnyOn_4 : decode cX12_isAnyOn 4 = .ok (.iload_n 2, 1) := by decide +kernel
theorem dX12_isAnyOn_5 : decode cX12_isAnyOn 5 = .ok (.aload_n 0, 1) := by decide +kernel
theorem dX12_isAnyOn_6 : decode cX12_isAnyOn 6 = .ok (.getfield 108, 3) := by decide +kernel
theorem dX12_isAnyOn_9 : decode cX12_isAnyOn 9 = .ok (.if_icmp .ge 29, 3) := by decide +kernel
theorem dX12_isAnyOn_12 : decode cX12_isAnyOn 12 = .ok (.iload_n 1, 1) := by decide +kernel
theorem dX12_isAnyOn_13 : decode cX12_isAnyOn 13 = .ok (.ifCond .ne 13, 3) := by decide +kernel
theorem dX12_isAnyOn_16 : decode cX12_isAnyOn 16 = .ok (.aload_n 0, 1) := by decide +kernel
theorem dX12_isAnyOn_17 : decode cX12_isAnyOn 17 = .ok (.getfield 39, 3) := by decide +kernel
theorem dX12_isAnyOn_20 : decode cX12_isAnyOn 20 = .ok (.iload_n 2, 1) := by decide +kernel
theorem dX12_isAnyOn_21 : decode cX12_isAnyOn 21 = .ok (.iaload, 1) := by decide +kernel
theorem dX12_isAnyOn_22 : decode cX12_isAnyOn 22 = .ok (.iconst (-1), 1) := by decide +kernel
theorem dX12_isAnyOn_23 : decode cX12_isAnyOn 23 = .ok (.if_icmp .eq 7, 3) := by decide +kernel
theorem dX12_isAnyOn_26 : decode cX12_isAnyOn 26 = .ok (.iconst 1, 1) := by decide +kernel
theorem dX12_isAnyOn_27 : decode cX12_isAnyOn 27 = .ok (.goto 4, 3) := by decide +kernel
theorem dX12_isAnyOn_30 : decode cX12_isAnyOn 30 = .ok (.iconst 0, 1) := by decide +kernel
theorem dX12_isAnyOn_31 : decode cX12_isAnyOn 31 = .ok (.istore_n 1, 1) := by decide +kernel
theorem dX12_isAnyOn_32 : decode cX12_isAnyOn 32 = .ok (.iinc 2 1, 3) := by decide +kernel
theorem dX12_isAnyOn_35 : decode cX12_isAnyOn 35 = .ok (.goto (-31), 3) := by decide +kernel
theorem dX12_isAnyOn_38 : decode cX12_isAnyOn 38 = .ok (.iload_n 1, 1) := by decide +kernel
theorem dX12_isAnyOn_39 : decode cX12_isAnyOn 39 = .ok (.ireturn, 1) := by decide +kernel
theorem dX12_setGround_0 : decode cX12_setGround 0 = .ok (.aload_n 0, 1) := by decide +kernel
theorem dX12_setGround_1 : decode cX12_setGround 1 = .ok (.iconst 0, 1) := by decide +kernel
theorem dX12_setGround_2 : decode cX12_setGround 2 = .ok (.putfield 98, 3) := by decide +kernel
theorem dX12_setGround_5 : decode cX12_setGround 5 = .ok (.aload_n 0, 1) := by decide +kernel
theorem dX12_setGround_6 : decode cX12_setGround 6 = .ok (.iload_n 1, 1) := by decide +kernel
theorem dX12_setGround_7 : decode cX12_setGround 7 = .ok (.iload_n 2, 1) := by decide +kernel
theorem dX12_setGround_8 : decode cX12_setGround 8 = .ok (.invokestatic 111, 3) := by decide +kernel
theorem dX12_setGround_11 : decode cX12_setGround 11 = .ok (.iconst 1, 1) := by decide +kernel
theorem dX12_setGround_12 : decode cX12_setGround 12 = .ok (.invokevirtual 115, 3) := by decide +kernel
theorem dX12_setGround_15 : decode cX12_setGround 15 = .ok (.ifCond .ne 38, 3) := by decide +kernel
theorem dX12_setGround_18 : decode cX12_setGround 18 = .ok (.aload_n 0, 1) := by decide +kernel
theorem dX12_setGround_19 : decode cX12_setGround 19 = .ok (.iload_n 3, 1) := by decide +kernel
theorem dX12_setGround_20 : decode cX12_setGround 20 = .ok (.iconst 0, 1) := by decide +kernel
theorem dX12_setGround_21 : decode cX12_setGround 21 = .ok (.bipush 99, 2) := by decide +kernel
theorem dX12_setGround_23 : decode cX12_setGround 23 = .ok (.invokestatic 101, 3) := by decide +kernel
theorem dX12_setGround_26 : decode cX12_setGround 26 = .ok (.ifCond .ne 7, 3) := by decide +kernel
theorem dX12_setGround_29 : decode cX12_setGround 29 = .ok (.iconst 1, 1) := by decide +kernel
theorem dX12_setGround_30 : decode cX12_setGround 30 = .ok (.goto 4, 3) := by decide +kernel
theorem dX12_setGround_33 : decode cX12_setGround 33 = .ok (.iconst 0, 1) := by decide +kernel
theorem dX12_setGround_34 : decode cX12_setGround 34 = .ok (.iconst 2, 1) := by decide +kernel
theorem dX12_setGround_35 : decode cX12_setGround 35 = .ok (.invokevirtual 115, 3) := by decide +kernel
theorem dX12_setGround_38 : decode cX12_setGround 38 = .ok (.ifCond .ne 15, 3) := by decide +kernel
theorem dX12_setGround_41 : decode cX12_setGround 41 = .ok (.aload_n 0, 1) := by decide +kernel
theorem dX12_setGround_42 : decode cX12_setGround 42 = .ok (.aload_n 0, 1) := by decide +kernel
theorem dX12_setGround_43 : decode cX12_setGround 43 = .ok (.invokevirtual 119, 3) := by decide +kernel
theorem dX12_setGround_46 : decode cX12_setGround 46 = .ok (.iconst 3, 1) := by decide +kernel
theorem dX12_setGround_47 : decode cX12_setGround 47 = .ok (.invokevirtual 115, 3) := by decide +kernel
theorem dX12_setGround_50 : decode cX12_setGround 50 = .ok (.ifCond .eq 5, 3) := by decide +kernel
theorem dX12_setGround_53 : decode cX12_setGround 53 = .ok (.iconst 0, 1) := by decide +kernel
theorem dX12_setGround_54 : decode cX12_setGround 54 = .ok (.ireturn, 1) := by decide +kernel
theorem dX12_setGround_55 : decode cX12_setGround 55 = .ok (.aload_n 0, 1) := by decide +kernel
theorem dX12_setGround_56 : decode cX12_setGround 56 = .ok (.getfield 13, 3) := by decide +kernel
theorem dX12_setGround_59 : decode cX12_setGround 59 = .ok (.bipush 20, 2) := by decide +kernel
theorem dX12_setGround_61 : decode cX12_setGround 61 = .ok (.iload_n 2, 1) := by decide +kernel
theorem dX12_setGround_62 : decode cX12_setGround 62 = .ok (.imul, 1) := by decide +kernel
theorem dX12_setGround_63 : decode cX12_setGround 63 = .ok (.iload_n 1, 1) := by decide +kernel
theorem dX12_setGround_64 : decode cX12_setGround 64 = .ok (.iadd, 1) := by decide +kernel
theorem dX12_setGround_65 : decode cX12_setGround 65 = .ok (.iaload, 1) := by decide +kernel
theorem dX12_setGround_66 : decode cX12_setGround 66 = .ok (.istore 4, 2) := by decide +kernel
theorem dX12_setGround_68 : decode cX12_setGround 68 = .ok (.aload_n 0, 1) := by decide +kernel
theorem dX12_setGround_69 : decode cX12_setGround 69 = .ok (.getfield 13, 3) := by decide +kernel
theorem dX12_setGround_72 : decode cX12_setGround 72 = .ok (.bipush 20, 2) := by decide +kernel
theorem dX12_setGround_74 : decode cX12_setGround 74 = .ok (.iload_n 2, 1) := by decide +kernel
theorem dX12_setGround_75 : decode cX12_setGround 75 = .ok (.imul, 1) := by decide +kernel
theorem dX12_setGround_76 : decode cX12_setGround 76 = .ok (.iload_n 1, 1) := by decide +kernel
theorem dX12_setGround_77 : decode cX12_setGround 77 = .ok (.iadd, 1) := by decide +kernel
theorem dX12_setGround_78 : decode cX12_setGround 78 = .ok (.iload_n 3, 1) := by decide +kernel
theorem dX12_setGround_79 : decode cX12_setGround 79 = .ok (.iastore, 1) := by decide +kernel
theorem dX12_setGround_80 : decode cX12_setGround 80 = .ok (.iload 4, 2) := by decide +kernel
theorem dX12_setGround_82 : decode cX12_setGround 82 = .ok (.ireturn, 1) := by decide +kernel
theorem dX12_addSite_0 : decode cX12_addSite 0 = .ok (.aload_n 0, 1) := by decide +kernel
theorem dX12_addSite_1 : decode cX12_addSite 1 = .ok (.iconst 0, 1) := by decide +kernel
theorem dX12_addSite_2 : decode cX12_addSite 2 = .ok (.putfield 98, 3) := by decide +kernel
theorem dX12_addSite_5 : decode cX12_addSite 5 = .ok (.aload_n 0, 1) := by decide +kernel
theorem dX12_addSite_6 : decode cX12_addSite 6 = .ok (.iload_n 1, 1) := by decide +kernel
theorem dX12_addSite_7 : decode cX12_addSite 7 = .ok (.iload_n 2, 1) := by decide +kernel
theorem dX12_addSite_8 : decode cX12_addSite 8 = .ok (.invokestatic 111, 3) := by decide +kernel
theorem dX12_addSite_11 : decode cX12_addSite 11 = .ok (.iconst 1, 1) := by decide +kernel
theorem dX12_addSite_12 : decode cX12_addSite 12 = .ok (.invokevirtual 115, 3) := by decide +kernel
theorem dX12_addSite_15 : decode cX12_addSite 15 = .ok (.ifCond .ne 48, 3) := by decide +kernel
theorem dX12_addSite_18 : decode cX12_addSite 18 = .ok (.aload_n 0, 1) := by decide +kernel
theorem dX12_addSite_19 : decode cX12_addSite 19 = .ok (.iload_n 3, 1) := by decide +kernel
theorem dX12_addSite_20 : decode cX12_addSite 20 = .ok (.iconst 0, 1) := by decide +kernel
theorem dX12_addSite_21 : decode cX12_addSite 21 = .ok (.bipush 99, 2) := by decide +kernel
theorem dX12_addSite_23 : decode cX12_addSite 23 = .ok (.invokestatic 101, 3) := by decide +kernel
theorem dX12_addSite_26 : decode cX12_addSite 26 = .ok (.ifCond .ne 7, 3) := by decide +kernel
theorem dX12_addSite_29 : decode cX12_addSite 29 = .ok (.iconst 1, 1) := by decide +kernel
theorem dX12_addSite_30 : decode cX12_addSite 30 = .ok (.goto 4, 3) := by decide +kernel
theorem dX12_addSite_33 : decode cX12_addSite 33 = .ok (.iconst 0, 1) := by decide +kernel
theorem dX12_addSite_34 : decode cX12_addSite 34 = .ok (.iconst 2, 1) := by decide +kernel
theorem dX12_addSite_35 : decode cX12_addSite 35 = .ok (.invokevirtual 115, 3) := by decide +kernel
theorem dX12_addSite_38 : decode cX12_addSite 38 = .ok (.ifCond .ne 25, 3) := by decide +kernel
theorem dX12_addSite_41 : decode cX12_addSite 41 = .ok (.aload_n 0, 1) := by decide +kernel
theorem dX12_addSite_42 : decode cX12_addSite 42 = .ok (.aload_n 0, 1) := by decide +kernel
theorem dX12_addSite_43 : decode cX12_addSite 43 = .ok (.getfield 105, 3) := by decide +kernel
theorem dX12_addSite_46 : decode cX12_addSite 46 = .ok (.bipush 10, 2) := by decide +kernel
theorem dX12_addSite_48 : decode cX12_addSite 48 = .ok (.if_icmp .ne 7, 3) := by decide +kernel
theorem dX12_addSite_51 : decode cX12_addSite 51 = .ok (.iconst 1, 1) := by decide +kernel
theorem dX12_addSite_52 : decode cX12_addSite 52 = .ok (.goto 4, 3) := by decide +kernel
theorem dX12_addSite_55 : decode cX12_addSite 55 = .ok (.iconst 0, 1) := by decide +kernel
theorem dX12_addSite_56 : decode cX12_addSite 56 = .ok (.iconst 3, 1) := by decide +kernel
theorem dX12_addSite_57 : decode cX12_addSite 57 = .ok (.invokevirtual 115, 3) := by decide +kernel
theorem dX12_addSite_60 : decode cX12_addSite 60 = .ok (.ifCond .eq 5, 3) := by decide +kernel
theorem dX12_addSite_63 : decode cX12_addSite 63 = .ok (.iconst 0, 1) := by decide +kernel
theorem dX12_addSite_64 : decode cX12_addSite 64 = .ok (.ireturn, 1) := by decide +kernel
theorem dX12_addSite_65 : decode cX12_addSite 65 = .ok (.aload_n 0, 1) := by decide +kernel
theorem dX12_addSite_66 : decode cX12_addSite 66 = .ok (.getfield 17, 3) := by decide +kernel
theorem dX12_addSite_69 : decode cX12_addSite 69 = .ok (.aload_n 0, 1) := by decide +kernel
theorem dX12_addSite_70 : decode cX12_addSite 70 = .ok (.getfield 105, 3) := by decide +kernel
theorem dX12_addSite_73 : decode cX12_addSite 73 = .ok (.iload_n 1, 1) := by decide +kernel
theorem dX12_addSite_74 : decode cX12_addSite 74 = .ok (.iastore, 1) := by decide +kernel
theorem dX12_addSite_75 : decode cX12_addSite 75 = .ok (.aload_n 0, 1) := by decide +kernel
theorem dX12_addSite_76 : decode cX12_addSite 76 = .ok (.getfield 20, 3) := by decide +kernel
theorem dX12_addSite_79 : decode cX12_addSite 79 = .ok (.aload_n 0, 1) := by decide +kernel
theorem dX12_addSite_80 : decode cX12_addSite 80 = .ok (.getfield 105, 3) := by decide +kernel
theorem dX12_addSite_83 : decode cX12_addSite 83 = .ok (.iload_n 2, 1) := by decide +kernel
theorem dX12_addSite_84 : decode cX12_addSite 84 = .ok (.iastore, 1) := by decide +kernel
theorem dX12_addSite_85 : decode cX12_addSite 85 = .ok (.aload_n 0, 1) := by decide +kernel
theorem dX12_addSite_86 : decode cX12_addSite 86 = .ok (.getfield 23, 3) := by decide +kernel
theorem dX12_addSite_89 : decode cX12_addSite 89 = .ok (.aload_n 0, 1) := by decide +kernel
theorem dX12_addSite_90 : decode cX12_addSite 90 = .ok (.getfield 105, 3) := by decide +kernel
theorem dX12_addSite_93 : decode cX12_addSite 93 = .ok (.iload_n 3, 1) := by decide +kernel
theorem dX12_addSite_94 : decode cX12_addSite 94 = .ok (.iastore, 1) := by decide +kernel
theorem dX12_addSite_95 : decode cX12_addSite 95 = .ok (.aload_n 0, 1) := by decide +kernel
theorem dX12_addSite_96 : decode cX12_addSite 96 = .ok (.dup, 1) := by decide +kernel
theorem dX12_addSite_97 : decode cX12_addSite 97 = .ok (.getfield 105, 3) := by decide +kernel
theorem dX12_addSite_100 : decode cX12_addSite 100 = .ok (.iconst 1, 1) := by decide +kernel
theorem dX12_addSite_101 : decode cX12_addSite 101 = .ok (.iadd, 1) := by decide +kernel
theorem dX12_addSite_102 : decode cX12_addSite 102 = .ok (.putfield 105, 3) := by decide +kernel
theorem dX12_addSite_105 : decode cX12_addSite 105 = .ok (.aload_n 0, 1) := by decide +kernel
theorem dX12_addSite_106 : decode cX12_addSite 106 = .ok (.getfield 105, 3) := by decide +kernel
theorem dX12_addSite_109 : decode cX12_addSite 109 = .ok (.iconst 1, 1) := by decide +kernel
theorem dX12_addSite_110 : decode cX12_addSite 110 = .ok (.isub, 1) := by decide +kernel
theorem dX12_addSite_111 : decode cX12_addSite 111 = .ok (.ireturn, 1) := by decide +kernel
theorem dX12_topOf_0 : decode cX12_topOf 0 = .ok (.aload_n 0, 1) := by decide +kernel
theorem dX12_topOf_1 : decode cX12_topOf 1 = .ok (.getfield 23, 3) := by decide +kernel
theorem dX12_topOf_4 : decode cX12_topOf 4 = .ok (.iload_n 1, 1) := by decide +kernel
theorem dX12_topOf_5 : decode cX12_topOf 5 = .ok (.iaload, 1) := by decide +kernel
theorem dX12_topOf_6 : decode cX12_topOf 6 = .ok (.aload_n 0, 1) := by decide +kernel
theorem dX12_topOf_7 : decode cX12_topOf 7 = .ok (.getfield 13, 3) := by decide +kernel
theorem dX12_topOf_10 : decode cX12_topOf 10 = .ok (.bipush 20, 2) := by decide +kernel
theorem dX12_topOf_12 : decode cX12_topOf 12 = .ok (.aload_n 0, 1) := by decide +kernel
theorem dX12_topOf_13 : decode cX12_topOf 13 = .ok (.getfield 20, 3) := by decide +kernel
theorem dX12_topOf_16 : decode cX12_topOf 16 = .ok (.iload_n 1, 1) := by decide +kernel
theorem dX12_topOf_17 : decode cX12_topOf 17 = .ok (.iaload, 1) := by decide +kernel
theorem dX12_topOf_18 : decode cX12_topOf 18 = .ok (.imul, 1) := by decide +kernel
theorem dX12_topOf_19 : decode cX12_topOf 19 = .ok (.aload_n 0, 1) := by decide +kernel
theorem dX12_topOf_20 : decode cX12_topOf 20 = .ok (.getfield 17, 3) := by decide +kernel
theorem dX12_topOf_23 : decode cX12_topOf 23 = .ok (.iload_n 1, 1) := by decide +kernel
theorem dX12_topOf_24 : decode cX12_topOf 24 = .ok (.iaload, 1) := by decide +kernel
theorem dX12_topOf_25 : decode cX12_topOf 25 = .ok (.iadd, 1) := by decide +kernel
theorem dX12_topOf_26 : decode cX12_topOf 26 = .ok (.iaload, 1) := by decide +kernel
theorem dX12_topOf_27 : decode cX12_topOf 27 = .ok (.iadd, 1) := by decide +kernel
theorem dX12_topOf_28 : decode cX12_topOf 28 = .ok (.ireturn, 1) := by decide +kernel
theorem dX12_lossOf_0 : decode cX12_lossOf 0 = .ok (.iload_n 1, 1) := by decide +kernel
theorem dX12_lossOf_1 : decode cX12_lossOf 1 = .ok (.iload_n 2, 1) := by decide +kernel
theorem dX12_lossOf_2 : decode cX12_lossOf 2 = .ok (.if_icmp .ne 5, 3) := by decide +kernel
theorem dX12_lossOf_5 : decode cX12_lossOf 5 = .ok (.iconst 0, 1) := by decide +kernel
theorem dX12_lossOf_6 : decode cX12_lossOf 6 = .ok (.ireturn, 1) := by decide +kernel
theorem dX12_lossOf_7 : decode cX12_lossOf 7 = .ok (.iload_n 1, 1) := by decide +kernel
theorem dX12_lossOf_8 : decode cX12_lossOf 8 = .ok (.iload_n 2, 1) := by decide +kernel
theorem dX12_lossOf_9 : decode cX12_lossOf 9 = .ok (.invokestatic 123, 3) := by decide +kernel
theorem dX12_lossOf_12 : decode cX12_lossOf 12 = .ok (.istore_n 3, 1) := by decide +kernel
theorem dX12_lossOf_13 : decode cX12_lossOf 13 = .ok (.iload_n 1, 1) := by decide +kernel
theorem dX12_lossOf_14 : decode cX12_lossOf 14 = .ok (.iload_n 2, 1) := by decide +kernel
theorem dX12_lossOf_15 : decode cX12_lossOf 15 = .ok (.invokestatic 129, 3) := by decide +kernel
theorem dX12_lossOf_18 : decode cX12_lossOf 18 = .ok (.istore 4, 2) := by decide +kernel
theorem dX12_lossOf_20 : decode cX12_lossOf 20 = .ok (.aload_n 0, 1) := by decide +kernel
theorem dX12_lossOf_21 : decode cX12_lossOf 21 = .ok (.getfield 17, 3) := by decide +kernel
theorem dX12_lossOf_24 : decode cX12_lossOf 24 = .ok (.iload 4, 2) := by decide +kernel
theorem dX12_lossOf_26 : decode cX12_lossOf 26 = .ok (.iaload, 1) := by decide +kernel
theorem dX12_lossOf_27 : decode cX12_lossOf 27 = .ok (.aload_n 0, 1) := by decide +kernel
theorem dX12_lossOf_28 : decode cX12_lossOf 28 = .ok (.getfield 17, 3) := by decide +kernel
theorem dX12_lossOf_31 : decode cX12_lossOf 31 = .ok (.iload_n 3, 1) := by decide +kernel
theorem dX12_lossOf_32 : decode cX12_lossOf 32 = .ok (.iaload, 1) := by decide +kernel
theorem dX12_lossOf_33 : decode cX12_lossOf 33 = .ok (.isub, 1) := by decide +kernel
theorem dX12_lossOf_34 : decode cX12_lossOf 34 = .ok (.istore 5, 2) := by decide +kernel
theorem dX12_lossOf_36 : decode cX12_lossOf 36 = .ok (.aload_n 0, 1) := by decide +kernel
theorem dX12_lossOf_37 : decode cX12_lossOf 37 = .ok (.getfield 20, 3) := by decide +kernel
theorem dX12_lossOf_40 : decode cX12_lossOf 40 = .ok (.iload 4, 2) := by decide +kernel
theorem dX12_lossOf_42 : decode cX12_lossOf 42 = .ok (.iaload, 1) := by decide +kernel
theorem dX12_lossOf_43 : decode cX12_lossOf 43 = .ok (.aload_n 0, 1) := by decide +kernel
theorem dX12_lossOf_44 : decode cX12_lossOf 44 = .ok (.getfield 20, 3) := by decide +kernel
theorem dX12_lossOf_47 : decode cX12_lossOf 47 = .ok (.iload_n 3, 1) := by decide +kernel
theorem dX12_lossOf_48 : decode cX12_lossOf 48 = .ok (.iaload, 1) := by decide +kernel
theorem dX12_lossOf_49 : decode cX12_lossOf 49 = .ok (.isub, 1) := by decide +kernel
theorem dX12_lossOf_50 : decode cX12_lossOf 50 = .ok (.istore 6, 2) := by decide +kernel
theorem dX12_lossOf_52 : decode cX12_lossOf 52 = .ok (.iload 5, 2) := by decide +kernel
theorem dX12_lossOf_54 : decode cX12_lossOf 54 = .ok (.invokestatic 132, 3) := by decide +kernel
theorem dX12_lossOf_57 : decode cX12_lossOf 57 = .ok (.iload 6, 2) := by decide +kernel
theorem dX12_lossOf_59 : decode cX12_lossOf 59 = .ok (.invokestatic 132, 3) := by decide +kernel
theorem dX12_lossOf_62 : decode cX12_lossOf 62 = .ok (.invokestatic 129, 3) := by decide +kernel
theorem dX12_lossOf_65 : decode cX12_lossOf 65 = .ok (.istore 7, 2) := by decide +kernel
theorem dX12_lossOf_67 : decode cX12_lossOf 67 = .ok (.bipush 100, 2) := by decide +kernel
theorem dX12_lossOf_69 : decode cX12_lossOf 69 = .ok (.iload 5, 2) := by decide +kernel
theorem dX12_lossOf_71 : decode cX12_lossOf 71 = .ok (.iload 5, 2) := by decide +kernel
theorem dX12_lossOf_73 : decode cX12_lossOf 73 = .ok (.imul, 1) := by decide +kernel
theorem dX12_lossOf_74 : decode cX12_lossOf 74 = .ok (.iload 6, 2) := by decide +kernel
theorem dX12_lossOf_76 : decode cX12_lossOf 76 = .ok (.iload 6, 2) := by decide +kernel
theorem dX12_lossOf_78 : decode cX12_lossOf 78 = .ok (.imul, 1) := by decide +kernel
theorem dX12_lossOf_79 : decode cX12_lossOf 79 = .ok (.iadd, 1) := by decide +kernel
theorem dX12_lossOf_80 : decode cX12_lossOf 80 = .ok (.imul, 1) := by decide +kernel
theorem dX12_lossOf_81 : decode cX12_lossOf 81 = .ok (.istore 8, 2) := by decide +kernel
theorem dX12_lossOf_83 : decode cX12_lossOf 83 = .ok (.iconst 0, 1) := by decide +kernel
theorem dX12_lossOf_84 : decode cX12_lossOf 84 = .ok (.istore 9, 2) := by decide +kernel
theorem dX12_lossOf_86 : decode cX12_lossOf 86 = .ok (.iload 9, 2) := by decide +kernel
theorem dX12_lossOf_88 : decode cX12_lossOf 88 = .ok (.iconst 1, 1) := by decide +kernel
theorem dX12_lossOf_89 : decode cX12_lossOf 89 = .ok (.iadd, 1) := by decide +kernel
theorem dX12_lossOf_90 : decode cX12_lossOf 90 = .ok (.iload 9, 2) := by decide +kernel
theorem dX12_lossOf_92 : decode cX12_lossOf 92 = .ok (.iconst 1, 1) := by decide +kernel
theorem dX12_lossOf_93 : decode cX12_lossOf 93 = .ok (.iadd, 1) := by decide +kernel
theorem dX12_lossOf_94 : decode cX12_lossOf 94 = .ok (.imul, 1) := by decide +kernel
theorem dX12_lossOf_95 : decode cX12_lossOf 95 = .ok (.iload 8, 2) := by decide +kernel
theorem dX12_lossOf_97 : decode cX12_lossOf 97 = .ok (.if_icmp .gt 9, 3) := by decide +kernel
theorem dX12_lossOf_100 : decode cX12_lossOf 100 = .ok (.iinc 9 1, 3) := by decide +kernel
theorem dX12_lossOf_103 : decode cX12_lossOf 103 = .ok (.goto (-17), 3) := by decide +kernel
theorem dX12_lossOf_106 : decode cX12_lossOf 106 = .ok (.iconst 0, 1) := by decide +kernel
theorem dX12_lossOf_107 : decode cX12_lossOf 107 = .ok (.istore 10, 2) := by decide +kernel
theorem dX12_lossOf_109 : decode cX12_lossOf 109 = .ok (.iconst 1, 1) := by decide +kernel
theorem dX12_lossOf_110 : decode cX12_lossOf 110 = .ok (.istore 11, 2) := by decide +kernel
theorem dX12_lossOf_112 : decode cX12_lossOf 112 = .ok (.iload 11, 2) := by decide +kernel
theorem dX12_lossOf_114 : decode cX12_lossOf 114 = .ok (.iload 7, 2) := by decide +kernel
theorem dX12_lossOf_116 : decode cX12_lossOf 116 = .ok (.if_icmp .ge 101, 3) := by decide +kernel
theorem dX12_lossOf_119 : decode cX12_lossOf 119 = .ok (.aload_n 0, 1) := by decide +kernel
theorem dX12_lossOf_120 : decode cX12_lossOf 120 = .ok (.getfield 17, 3) := by decide +kernel
theorem dX12_lossOf_123 : decode cX12_lossOf 123 = .ok (.iload_n 3, 1) := by decide +kernel
theorem dX12_lossOf_124 : decode cX12_lossOf 124 = .ok (.iaload, 1) := by decide +kernel
theorem dX12_lossOf_125 : decode cX12_lossOf 125 = .ok (.iload 11, 2) := by decide +kernel
theorem dX12_lossOf_127 : decode cX12_lossOf 127 = .ok (.iload 5, 2) := by decide +kernel
theorem dX12_lossOf_129 : decode cX12_lossOf 129 = .ok (.imul, 1) := by decide +kernel
theorem dX12_lossOf_130 : decode cX12_lossOf 130 = .ok (.iload 7, 2) := by decide +kernel
theorem dX12_lossOf_132 : decode cX12_lossOf 132 = .ok (.invokestatic 136, 3) := by decide +kernel
theorem dX12_lossOf_135 : decode cX12_lossOf 135 = .ok (.iadd, 1) := by decide +kernel
theorem dX12_lossOf_136 : decode cX12_lossOf 136 = .ok (.istore 12, 2) := by decide +kernel
theorem dX12_lossOf_138 : decode cX12_lossOf 138 = .ok (.aload_n 0, 1) := by decide +kernel
theorem dX12_lossOf_139 : decode cX12_lossOf 139 = .ok (.getfield 20, 3) := by decide +kernel
theorem dX12_lossOf_142 : decode cX12_lossOf 142 = .ok (.iload_n 3, 1) := by decide +kernel
theorem dX12_lossOf_143 : decode cX12_lossOf 143 = .ok (.iaload, 1) := by decide +kernel
theorem dX12_lossOf_144 : decode cX12_lossOf 144 = .ok (.iload 11, 2) := by decide +kernel
theorem dX12_lossOf_146 : decode cX12_lossOf 146 = .ok (.iload 6, 2) := by decide +kernel
theorem dX12_lossOf_148 : decode cX12_lossOf 148 = .ok (.imul, 1) := by decide +kernel
theorem dX12_lossOf_149 : decode cX12_lossOf 149 = .ok (.iload 7, 2) := by decide +kernel
theorem dX12_lossOf_151 : decode cX12_lossOf 151 = .ok (.invokestatic 136, 3) := by decide +kernel
theorem dX12_lossOf_154 : decode cX12_lossOf 154 = .ok (.iadd, 1) := by decide +kernel
theorem dX12_lossOf_155 : decode cX12_lossOf 155 = .ok (.istore 13, 2) := by decide +kernel
theorem dX12_lossOf_157 : decode cX12_lossOf 157 = .ok (.aload_n 0, 1) := by decide +kernel
theorem dX12_lossOf_158 : decode cX12_lossOf 158 = .ok (.iload_n 3, 1) := by decide +kernel
theorem dX12_lossOf_159 : decode cX12_lossOf 159 = .ok (.invokevirtual 139, 3) := by decide +kernel
theorem dX12_lossOf_162 : decode cX12_lossOf 162 = .ok (.iload 7, 2) := by decide +kernel
theorem dX12_lossOf_164 : decode cX12_lossOf 164 = .ok (.iload 11, 2) := by decide +kernel
theorem dX12_lossOf_166 : decode cX12_lossOf 166 = .ok (.isub, 1) := by decide +kernel
theorem dX12_lossOf_167 : decode cX12_lossOf 167 = .ok (.imul, 1) := by decide +kernel
theorem dX12_lossOf_168 : decode cX12_lossOf 168 = .ok (.aload_n 0, 1) := by decide +kernel
theorem dX12_lossOf_169 : decode cX12_lossOf 169 = .ok (.iload 4, 2) := by decide +kernel
theorem dX12_lossOf_171 : decode cX12_lossOf 171 = .ok (.invokevirtual 139, 3) := by decide +kernel
theorem dX12_lossOf_174 : decode cX12_lossOf 174 = .ok (.iload 11, 2) := by decide +kernel
theorem dX12_lossOf_176 : decode cX12_lossOf 176 = .ok (.imul, 1) := by decide +kernel
theorem dX12_lossOf_177 : decode cX12_lossOf 177 = .ok (.iadd, 1) := by decide +kernel
theorem dX12_lossOf_178 : decode cX12_lossOf 178 = .ok (.iload 7, 2) := by decide +kernel
theorem dX12_lossOf_180 : decode cX12_lossOf 180 = .ok (.idiv, 1) := by decide +kernel
theorem dX12_lossOf_181 : decode cX12_lossOf 181 = .ok (.istore 14, 2) := by decide +kernel
theorem dX12_lossOf_183 : decode cX12_lossOf 183 = .ok (.iload 10, 2) := by decide +kernel
theorem dX12_lossOf_185 : decode cX12_lossOf 185 = .ok (.aload_n 0, 1) := by decide +kernel
theorem dX12_lossOf_186 : decode cX12_lossOf 186 = .ok (.getfield 13, 3) := by decide +kernel
theorem dX12_lossOf_189 : decode cX12_lossOf 189 = .ok (.bipush 20, 2) := by decide +kernel
theorem dX12_lossOf_191 : decode cX12_lossOf 191 = .ok (.iload 13, 2) := by decide +kernel
theorem dX12_lossOf_193 : decode cX12_lossOf 193 = .ok (.imul, 1) := by decide +kernel
theorem dX12_lossOf_194 : decode cX12_lossOf 194 = .ok (.iload 12, 2) := by decide +kernel
theorem dX12_lossOf_196 : decode cX12_lossOf 196 = .ok (.iadd, 1) := by decide +kernel
theorem dX12_lossOf_197 : decode cX12_lossOf 197 = .ok (.iaload, 1) := by decide +kernel
theorem dX12_lossOf_198 : decode cX12_lossOf 198 = .ok (.iload 14, 2) := by decide +kernel
theorem dX12_lossOf_200 : decode cX12_lossOf 200 = .ok (.if_icmp .le 7, 3) := by decide +kernel
theorem dX12_lossOf_203 : decode cX12_lossOf 203 = .ok (.iconst 1, 1) := by decide +kernel
theorem dX12_lossOf_204 : decode cX12_lossOf 204 = .ok (.goto 4, 3) := by decide +kernel
theorem dX12_lossOf_207 : decode cX12_lossOf 207 = .ok (.iconst 0, 1) := by decide +kernel
theorem dX12_lossOf_208 : decode cX12_lossOf 208 = .ok (.iadd, 1) := by decide +kernel
theorem dX12_lossOf_209 : decode cX12_lossOf 209 = .ok (.istore 10, 2) := by decide +kernel
theorem dX12_lossOf_211 : decode cX12_lossOf 211 = .ok (.iinc 11 1, 3) := by decide +kernel
theorem dX12_lossOf_214 : decode cX12_lossOf 214 = .ok (.goto (-102), 3) := by decide +kernel
theorem dX12_lossOf_217 : decode cX12_lossOf 217 = .ok (.sipush 200, 3) := by decide +kernel
theorem dX12_lossOf_220 : decode cX12_lossOf 220 = .ok (.bipush 8, 2) := by decide +kernel
theorem dX12_lossOf_222 : decode cX12_lossOf 222 = .ok (.iload 9, 2) := by decide +kernel
theorem dX12_lossOf_224 : decode cX12_lossOf 224 = .ok (.imul, 1) := by decide +kernel
theorem dX12_lossOf_225 : decode cX12_lossOf 225 = .ok (.iadd, 1) := by decide +kernel
theorem dX12_lossOf_226 : decode cX12_lossOf 226 = .ok (.bipush 60, 2) := by decide +kernel
theorem dX12_lossOf_228 : decode cX12_lossOf 228 = .ok (.iload 10, 2) := by decide +kernel
theorem dX12_lossOf_230 : decode cX12_lossOf 230 = .ok (.imul, 1) := by decide +kernel
theorem dX12_lossOf_231 : decode cX12_lossOf 231 = .ok (.iadd, 1) := by decide +kernel
theorem dX12_lossOf_232 : decode cX12_lossOf 232 = .ok (.ireturn, 1) := by decide +kernel
theorem dX12_loss_0 : decode cX12_loss 0 = .ok (.aload_n 0, 1) := by decide +kernel
theorem dX12_loss_1 : decode cX12_loss 1 = .ok (.iconst 0, 1) := by decide +kernel
theorem dX12_loss_2 : decode cX12_loss 2 = .ok (.putfield 98, 3) := by decide +kernel
theorem dX12_loss_5 : decode cX12_loss 5 = .ok (.aload_n 0, 1) := by decide +kernel
theorem dX12_loss_6 : decode cX12_loss 6 = .ok (.aload_n 0, 1) := by decide +kernel
theorem dX12_loss_7 : decode cX12_loss 7 = .ok (.iload_n 1, 1) := by decide +kernel
theorem dX12_loss_8 : decode cX12_loss 8 = .ok (.invokevirtual 142, 3) := by decide +kernel
theorem dX12_loss_11 : decode cX12_loss 11 = .ok (.ifCond .ne 11, 3) := by decide +kernel
theorem dX12_loss_14 : decode cX12_loss 14 = .ok (.aload_n 0, 1) := by decide +kernel
theorem dX12_loss_15 : decode cX12_loss 15 = .ok (.iload_n 2, 1) := by decide +kernel
theorem dX12_loss_16 : decode cX12_loss 16 = .ok (.invokevirtual 142, 3) := by decide +kernel
theorem dX12_loss_19 : decode cX12_loss 19 = .ok (.ifCond .eq 7, 3) := by decide +kernel
theorem dX12_loss_22 : decode cX12_loss 22 = .ok (.iconst 1, 1) := by decide +kernel
theorem dX12_loss_23 : decode cX12_loss 23 = .ok (.goto 4, 3) := by decide +kernel
theorem dX12_loss_26 : decode cX12_loss 26 = .ok (.iconst 0, 1) := by decide +kernel
theorem dX12_loss_27 : decode cX12_loss 27 = .ok (.iconst 1, 1) := by decide +kernel
theorem dX12_loss_28 : decode cX12_loss 28 = .ok (.invokevirtual 115, 3) := by decide +kernel
theorem dX12_loss_31 : decode cX12_loss 31 = .ok (.ifCond .eq 7, 3) := by decide +kernel
theorem dX12_loss_34 : decode cX12_loss 34 = .ok (.iconst 0, 1) := by decide +kernel
theorem dX12_loss_35 : decode cX12_loss 35 = .ok (.goto 9, 3) := by decide +kernel
theorem dX12_loss_38 : decode cX12_loss 38 = .ok (.aload_n 0, 1) := by decide +kernel
theorem dX12_loss_39 : decode cX12_loss 39 = .ok (.iload_n 1, 1) := by decide +kernel
theorem dX12_loss_40 : decode cX12_loss 40 = .ok (.iload_n 2, 1) := by decide +kernel
theorem dX12_loss_41 : decode cX12_loss 41 = .ok (.invokevirtual 146, 3) := by decide +kernel
theorem dX12_loss_44 : decode cX12_loss 44 = .ok (.ireturn, 1) := by decide +kernel
theorem dX12_addStation_0 : decode cX12_addStation 0 = .ok (.aload_n 0, 1) := by decide +kernel
theorem dX12_addStation_1 : decode cX12_addStation 1 = .ok (.iconst 0, 1) := by decide +kernel
theorem dX12_addStation_2 : decode cX12_addStation 2 = .ok (.putfield 98, 3) := by decide +kernel
theorem dX12_addStation_5 : decode cX12_addStation 5 = .ok (.aload_n 0, 1) := by decide +kernel
theorem dX12_addStation_6 : decode cX12_addStation 6 = .ok (.aload_n 0, 1) := by decide +kernel
theorem dX12_addStation_7 : decode cX12_addStation 7 = .ok (.iload_n 1, 1) := by decide +kernel
theorem dX12_addStation_8 : decode cX12_addStation 8 = .ok (.invokevirtual 142, 3) := by decide +kernel
theorem dX12_addStation_11 : decode cX12_addStation 11 = .ok (.ifCond .ne 11, 3) := by decide +kernel
theorem dX12_addStation_14 : decode cX12_addStation 14 = .ok (.aload_n 0, 1) := by decide +kernel
theorem dX12_addStation_15 : decode cX12_addStation 15 = .ok (.iload_n 2, 1) := by decide +kernel
theorem dX12_addStation_16 : decode cX12_addStation 16 = .ok (.invokevirtual 142, 3) := by decide +kernel
theorem dX12_addStation_19 : decode cX12_addStation 19 = .ok (.ifCond .eq 7, 3) := by decide +kernel
theorem dX12_addStation_22 : decode cX12_addStation 22 = .ok (.iconst 1, 1) := by decide +kernel
theorem dX12_addStation_23 : decode cX12_addStation 23 = .ok (.goto 4, 3) := by decide +kernel
theorem dX12_addStation_26 : decode cX12_addStation 26 = .ok (.iconst 0, 1) := by decide +kernel
theorem dX12_addStation_27 : decode cX12_addStation 27 = .ok (.iconst 1, 1) := by decide +kernel
theorem dX12_addStation_28 : decode cX12_addStation 28 = .ok (.invokevirtual 115, 3) := by decide +kernel
theorem dX12_addStation_31 : decode cX12_addStation 31 = .ok (.ifCond .ne 54, 3) := by decide +kernel
theorem dX12_addStation_34 : decode cX12_addStation 34 = .ok (.aload_n 0, 1) := by decide +kernel
theorem dX12_addStation_35 : decode cX12_addStation 35 = .ok (.iload_n 1, 1) := by decide +kernel
theorem dX12_addStation_36 : decode cX12_addStation 36 = .ok (.iload_n 2, 1) := by decide +kernel
theorem dX12_addStation_37 : decode cX12_addStation 37 = .ok (.if_icmp .eq 14, 3) := by decide +kernel
theorem dX12_addStation_40 : decode cX12_addStation 40 = .ok (.iload_n 3, 1) := by decide +kernel
theorem dX12_addStation_41 : decode cX12_addStation 41 = .ok (.iconst 0, 1) := by decide +kernel
theorem dX12_addStation_42 : decode cX12_addStation 42 = .ok (.sipush 500, 3) := by decide +kernel
theorem dX12_addStation_45 : decode cX12_addStation 45 = .ok (.invokestatic 101, 3) := by decide +kernel
theorem dX12_addStation_48 : decode cX12_addStation 48 = .ok (.ifCond .ne 7, 3) := by decide +kernel
theorem dX12_addStation_51 : decode cX12_addStation 51 = .ok (.iconst 1, 1) := by decide +kernel
theorem dX12_addStation_52 : decode cX12_addStation 52 = .ok (.goto 4, 3) := by decide +kernel
theorem dX12_addStation_55 : decode cX12_addStation 55 = .ok (.iconst 0, 1) := by decide +kernel
theorem dX12_addStation_56 : decode cX12_addStation 56 = .ok (.iconst 2, 1) := by decide +kernel
theorem dX12_addStation_57 : decode cX12_addStation 57 = .ok (.invokevirtual 115, 3) := by decide +kernel
theorem dX12_addStation_60 : decode cX12_addStation 60 = .ok (.ifCond .ne 25, 3) := by decide +kernel
theorem dX12_addStation_63 : decode cX12_addStation 63 = .ok (.aload_n 0, 1) := by decide +kernel
theorem dX12_addStation_64 : decode cX12_addStation 64 = .ok (.aload_n 0, 1) := by decide +kernel
theorem dX12_addStation_65 : decode cX12_addStation 65 = .ok (.getfield 108, 3) := by decide +kernel
theorem dX12_addStation_68 : decode cX12_addStation 68 = .ok (.bipush 8, 2) := by decide +kernel
theorem dX12_addStation_70 : decode cX12_addStation 70 = .ok (.if_icmp .ne 7, 3) := by decide +kernel
theorem dX12_addStation_73 : decode cX12_addStation 73 = .ok (.iconst 1, 1) := by decide +kernel
theorem dX12_addStation_74 : decode cX12_addStation 74 = .ok (.goto 4, 3) := by decide +kernel
theorem dX12_addStation_77 : decode cX12_addStation 77 = .ok (.iconst 0, 1) := by decide +kernel
theorem dX12_addStation_78 : decode cX12_addStation 78 = .ok (.iconst 3, 1) := by decide +kernel
theorem dX12_addStation_79 : decode cX12_addStation 79 = .ok (.invokevirtual 115, 3) := by decide +kernel
theorem dX12_addStation_82 : decode cX12_addStation 82 = .ok (.ifCond .eq 5, 3) := by decide +kernel
theorem dX12_addStation_85 : decode cX12_addStation 85 = .ok (.iconst 0, 1) := by decide +kernel
theorem dX12_addStation_86 : decode cX12_addStation 86 = .ok (.ireturn, 1) := by decide +kernel
theorem dX12_addStation_87 : decode cX12_addStation 87 = .ok (.aload_n 0, 1) := by decide +kernel
theorem dX12_addStation_88 : decode cX12_addStation 88 = .ok (.getfield 26, 3) := by decide +kernel
theorem dX12_addStation_91 : decode cX12_addStation 91 = .ok (.aload_n 0, 1) := by decide +kernel
theorem dX12_addStation_92 : decode cX12_addStation 92 = .ok (.getfield 108, 3) := by decide +kernel
theorem dX12_addStation_95 : decode cX12_addStation 95 = .ok (.iload_n 1, 1) := by decide +kernel
theorem dX12_addStation_96 : decode cX12_addStation 96 = .ok (.iastore, 1) := by decide +kernel
theorem dX12_addStation_97 : decode cX12_addStation 97 = .ok (.aload_n 0, 1) := by decide +kernel
theorem dX12_addStation_98 : decode cX12_addStation 98 = .ok (.getfield 29, 3) := by decide +kernel
theorem dX12_addStation_101 : decode cX12_addStation 101 = .ok (.aload_n 0, 1) := by decide +kernel
theorem dX12_addStation_102 : decode cX12_addStation 102 = .ok (.getfield 108, 3) := by decide +kernel
theorem dX12_addStation_105 : decode cX12_addStation 105 = .ok (.iload_n 2, 1) := by decide +kernel
theorem dX12_addStation_106 : decode cX12_addStation 106 = .ok (.iastore, 1) := by decide +kernel
theorem dX12_addStation_107 : decode cX12_addStation 107 = .ok (.aload_n 0, 1) := by decide +kernel
theorem dX12_addStation_108 : decode cX12_addStation 108 = .ok (.getfield 32, 3) := by decide +kernel
theorem dX12_addStation_111 : decode cX12_addStation 111 = .ok (.aload_n 0, 1) := by decide +kernel
theorem dX12_addStation_112 : decode cX12_addStation 112 = .ok (.getfield 108, 3) := by decide +kernel
theorem dX12_addStation_115 : decode cX12_addStation 115 = .ok (.iload_n 3, 1) := by decide +kernel
theorem dX12_addStation_116 : decode cX12_addStation 116 = .ok (.iastore, 1) := by decide +kernel
theorem dX12_addStation_117 : decode cX12_addStation 117 = .ok (.aload_n 0, 1) := by decide +kernel
theorem dX12_addStation_118 : decode cX12_addStation 118 = .ok (.getfield 35, 3) := by decide +kernel
theorem dX12_addStation_121 : decode cX12_addStation 121 = .ok (.aload_n 0, 1) := by decide +kernel
theorem dX12_addStation_122 : decode cX12_addStation 122 = .ok (.getfield 108, 3) := by decide +kernel
theorem dX12_addStation_125 : decode cX12_addStation 125 = .ok (.iload 4, 2) := by decide +kernel
theorem dX12_addStation_127 : decode cX12_addStation 127 = .ok (.bastore, 1) := by decide +kernel
theorem dX12_addStation_128 : decode cX12_addStation 128 = .ok (.aload_n 0, 1) := by decide +kernel
theorem dX12_addStation_129 : decode cX12_addStation 129 = .ok (.getfield 48, 3) := by decide +kernel
theorem dX12_addStation_132 : decode cX12_addStation 132 = .ok (.new 45, 3) := by decide +kernel
theorem dX12_addStation_135 : decode cX12_addStation 135 = .ok (.dup, 1) := by decide +kernel
theorem dX12_addStation_136 : decode cX12_addStation 136 = .ok (.invokespecial 47, 3) := by decide +kernel
theorem dX12_addStation_139 : decode cX12_addStation 139 = .ok (.invokevirtual 149, 3) := by decide +kernel
theorem dX12_addStation_142 : decode cX12_addStation 142 = .ok (.pop, 1) := by decide +kernel
theorem dX12_addStation_143 : decode cX12_addStation 143 = .ok (.aload_n 0, 1) := by decide +kernel
theorem dX12_addStation_144 : decode cX12_addStation 144 = .ok (.dup, 1) := by decide +kernel
theorem dX12_addStation_145 : decode cX12_addStation 145 = .ok (.getfield 108, 3) := by decide +kernel
theorem dX12_addStation_148 : decode cX12_addStation 148 = .ok (.iconst 1, 1) := by decide +kernel
theorem dX12_addStation_149 : decode cX12_addStation 149 = .ok (.iadd, 1) := by decide +kernel
theorem dX12_addStation_150 : decode cX12_addStation 150 = .ok (.putfield 108, 3) := by decide +kernel
theorem dX12_addStation_153 : decode cX12_addStation 153 = .ok (.aload_n 0, 1) := by decide +kernel
theorem dX12_addStation_154 : decode cX12_addStation 154 = .ok (.getfield 108, 3) := by decide +kernel
theorem dX12_addStation_157 : decode cX12_addStation 157 = .ok (.iconst 1, 1) := by decide +kernel
theorem dX12_addStation_158 : decode cX12_addStation 158 = .ok (.isub, 1) := by decide +kernel
theorem dX12_addStation_159 : decode cX12_addStation 159 = .ok (.ireturn, 1) := by decide +kernel
theorem dX12_setRatio_0 : decode cX12_setRatio 0 = .ok (.aload_n 0, 1) := by decide +kernel
theorem dX12_setRatio_1 : decode cX12_setRatio 1 = .ok (.iconst 0, 1) := by decide +kernel
theorem dX12_setRatio_2 : decode cX12_setRatio 2 = .ok (.putfield 98, 3) := by decide +kernel
theorem dX12_setRatio_5 : decode cX12_setRatio 5 = .ok (.aload_n 0, 1) := by decide +kernel
theorem dX12_setRatio_6 : decode cX12_setRatio 6 = .ok (.iload_n 1, 1) := by decide +kernel
theorem dX12_setRatio_7 : decode cX12_setRatio 7 = .ok (.iconst 0, 1) := by decide +kernel
theorem dX12_setRatio_8 : decode cX12_setRatio 8 = .ok (.sipush 500, 3) := by decide +kernel
theorem dX12_setRatio_11 : decode cX12_setRatio 11 = .ok (.invokestatic 101, 3) := by decide +kernel
theorem dX12_setRatio_14 : decode cX12_setRatio 14 = .ok (.ifCond .ne 7, 3) := by decide +kernel
theorem dX12_setRatio_17 : decode cX12_setRatio 17 = .ok (.iconst 1, 1) := by decide +kernel
theorem dX12_setRatio_18 : decode cX12_setRatio 18 = .ok (.goto 4, 3) := by decide +kernel
theorem dX12_setRatio_21 : decode cX12_setRatio 21 = .ok (.iconst 0, 1) := by decide +kernel
theorem dX12_setRatio_22 : decode cX12_setRatio 22 = .ok (.iconst 1, 1) := by decide +kernel
theorem dX12_setRatio_23 : decode cX12_setRatio 23 = .ok (.invokevirtual 115, 3) := by decide +kernel
theorem dX12_setRatio_26 : decode cX12_setRatio 26 = .ok (.ifCond .ne 15, 3) := by decide +kernel
theorem dX12_setRatio_29 : decode cX12_setRatio 29 = .ok (.aload_n 0, 1) := by decide +kernel
theorem dX12_setRatio_30 : decode cX12_setRatio 30 = .ok (.aload_n 0, 1) := by decide +kernel
theorem dX12_setRatio_31 : decode cX12_setRatio 31 = .ok (.invokevirtual 119, 3) := by decide +kernel
theorem dX12_setRatio_34 : decode cX12_setRatio 34 = .ok (.iconst 2, 1) := by decide +kernel
theorem dX12_setRatio_35 : decode cX12_setRatio 35 = .ok (.invokevirtual 115, 3) := by decide +kernel
theorem dX12_setRatio_38 : decode cX12_setRatio 38 = .ok (.ifCond .eq 5, 3) := by decide +kernel
theorem dX12_setRatio_41 : decode cX12_setRatio 41 = .ok (.iconst 0, 1) := by decide +kernel
theorem dX12_setRatio_42 : decode cX12_setRatio 42 = .ok (.ireturn, 1) := by decide +kernel
theorem dX12_setRatio_43 : decode cX12_setRatio 43 = .ok (.aload_n 0, 1) := by decide +kernel
theorem dX12_setRatio_44 : decode cX12_setRatio 44 = .ok (.getfield 7, 3) := by decide +kernel
theorem dX12_setRatio_47 : decode cX12_setRatio 47 = .ok (.istore_n 2, 1) := by decide +kernel
theorem dX12_setRatio_48 : decode cX12_setRatio 48 = .ok (.aload_n 0, 1) := by decide +kernel
theorem dX12_setRatio_49 : decode cX12_setRatio 49 = .ok (.iload_n 1, 1) := by decide +kernel
theorem dX12_setRatio_50 : decode cX12_setRatio 50 = .ok (.putfield 7, 3) := by decide +kernel
theorem dX12_setRatio_53 : decode cX12_setRatio 53 = .ok (.iload_n 2, 1) := by decide +kernel
theorem dX12_setRatio_54 : decode cX12_setRatio 54 = .ok (.ireturn, 1) := by decide +kernel
theorem dX12_levelOf_0 : decode cX12_levelOf 0 = .ok (.aload_n 0, 1) := by decide +kernel
theorem dX12_levelOf_1 : decode cX12_levelOf 1 = .ok (.getfield 32, 3) := by decide +kernel
theorem dX12_levelOf_4 : decode cX12_levelOf 4 = .ok (.iload_n 1, 1) := by decide +kernel
theorem dX12_levelOf_5 : decode cX12_levelOf 5 = .ok (.iaload, 1) := by decide +kernel
theorem dX12_levelOf_6 : decode cX12_levelOf 6 = .ok (.aload_n 0, 1) := by decide +kernel
theorem dX12_levelOf_7 : decode cX12_levelOf 7 = .ok (.aload_n 0, 1) := by decide +kernel
theorem dX12_levelOf_8 : decode cX12_levelOf 8 = .ok (.getfield 26, 3) := by decide +kernel
theorem dX12_levelOf_11 : decode cX12_levelOf 11 = .ok (.iload_n 1, 1) := by decide +kernel
theorem dX12_levelOf_12 : decode cX12_levelOf 12 = .ok (.iaload, 1) := by decide +kernel
theorem dX12_levelOf_13 : decode cX12_levelOf 13 = .ok (.aload_n 0, 1) := by decide +kernel
theorem dX12_levelOf_14 : decode cX12_levelOf 14 = .ok (.getfield 29, 3) := by decide +kernel
theorem dX12_levelOf_17 : decode cX12_levelOf 17 = .ok (.iload_n 1, 1) := by decide +kernel
theorem dX12_levelOf_18 : decode cX12_levelOf 18 = .ok (.iaload, 1) := by decide +kernel
theorem dX12_levelOf_19 : decode cX12_levelOf 19 = .ok (.invokevirtual 146, 3) := by decide +kernel
theorem dX12_levelOf_22 : decode cX12_levelOf 22 = .ok (.isub, 1) := by decide +kernel
theorem dX12_levelOf_23 : decode cX12_levelOf 23 = .ok (.ireturn, 1) := by decide +kernel
theorem dX12_level_0 : decode cX12_level 0 = .ok (.aload_n 0, 1) := by decide +kernel
theorem dX12_level_1 : decode cX12_level 1 = .ok (.iconst 0, 1) := by decide +kernel
theorem dX12_level_2 : decode cX12_level 2 = .ok (.putfield 98, 3) := by decide +kernel
theorem dX12_level_5 : decode cX12_level 5 = .ok (.aload_n 0, 1) := by decide +kernel
theorem dX12_level_6 : decode cX12_level 6 = .ok (.aload_n 0, 1) := by decide +kernel
theorem dX12_level_7 : decode cX12_level 7 = .ok (.iload_n 1, 1) := by decide +kernel
theorem dX12_level_8 : decode cX12_level 8 = .ok (.invokevirtual 153, 3) := by decide +kernel
theorem dX12_level_11 : decode cX12_level 11 = .ok (.iconst 1, 1) := by decide +kernel
theorem dX12_level_12 : decode cX12_level 12 = .ok (.invokevirtual 115, 3) := by decide +kernel
theorem dX12_level_15 : decode cX12_level 15 = .ok (.ifCond .eq 7, 3) := by decide +kernel
theorem dX12_level_18 : decode cX12_level 18 = .ok (.iconst 0, 1) := by decide +kernel
theorem dX12_level_19 : decode cX12_level 19 = .ok (.goto 8, 3) := by decide +kernel
theorem dX12_level_22 : decode cX12_level 22 = .ok (.aload_n 0, 1) := by decide +kernel
theorem dX12_level_23 : decode cX12_level 23 = .ok (.iload_n 1, 1) := by decide +kernel
theorem dX12_level_24 : decode cX12_level 24 = .ok (.invokevirtual 156, 3) := by decide +kernel
theorem dX12_level_27 : decode cX12_level 27 = .ok (.ireturn, 1) := by decide +kernel
theorem dX12_harmBy_0 : decode cX12_harmBy 0 = .ok (.aload_n 0, 1) := by decide +kernel
theorem dX12_harmBy_1 : decode cX12_harmBy 1 = .ok (.getfield 32, 3) := by decide +kernel
theorem dX12_harmBy_4 : decode cX12_harmBy 4 = .ok (.iload_n 1, 1) := by decide +kernel
theorem dX12_harmBy_5 : decode cX12_harmBy 5 = .ok (.iaload, 1) := by decide +kernel
theorem dX12_harmBy_6 : decode cX12_harmBy 6 = .ok (.aload_n 0, 1) := by decide +kernel
theorem dX12_harmBy_7 : decode cX12_harmBy 7 = .ok (.aload_n 0, 1) := by decide +kernel
theorem dX12_harmBy_8 : decode cX12_harmBy 8 = .ok (.getfield 26, 3) := by decide +kernel
theorem dX12_harmBy_11 : decode cX12_harmBy 11 = .ok (.iload_n 1, 1) := by decide +kernel
theorem dX12_harmBy_12 : decode cX12_harmBy 12 = .ok (.iaload, 1) := by decide +kernel
theorem dX12_harmBy_13 : decode cX12_harmBy 13 = .ok (.aload_n 0, 1) := by decide +kernel
theorem dX12_harmBy_14 : decode cX12_harmBy 14 = .ok (.getfield 29, 3) := by decide +kernel
theorem dX12_harmBy_17 : decode cX12_harmBy 17 = .ok (.iload_n 2, 1) := by decide +kernel
theorem dX12_harmBy_18 : decode cX12_harmBy 18 = .ok (.iaload, 1) := by decide +kernel
theorem dX12_harmBy_19 : decode cX12_harmBy 19 = .ok (.invokevirtual 146, 3) := by decide +kernel
theorem dX12_harmBy_22 : decode cX12_harmBy 22 = .ok (.isub, 1) := by decide +kernel
theorem dX12_harmBy_23 : decode cX12_harmBy 23 = .ok (.iload_n 3, 1) := by decide +kernel
theorem dX12_harmBy_24 : decode cX12_harmBy 24 = .ok (.ifCond .ne 7, 3) := by decide +kernel
theorem dX12_harmBy_27 : decode cX12_harmBy 27 = .ok (.iconst 0, 1) := by decide +kernel
theorem dX12_harmBy_28 : decode cX12_harmBy 28 = .ok (.goto 17, 3) := by decide +kernel
theorem dX12_harmBy_31 : decode cX12_harmBy 31 = .ok (.iload_n 3, 1) := by decide +kernel
theorem dX12_harmBy_32 : decode cX12_harmBy 32 = .ok (.iconst 1, 1) := by decide +kernel
theorem dX12_harmBy_33 : decode cX12_harmBy 33 = .ok (.if_icmp .ne 9, 3) := by decide +kernel
theorem dX12_harmBy_36 : decode cX12_harmBy 36 = .ok (.sipush 300, 3) := by decide +kernel
theorem dX12_harmBy_39 : decode cX12_harmBy 39 = .ok (.goto 6, 3) := by decide +kernel
theorem dX12_harmBy_42 : decode cX12_harmBy 42 = .ok (.sipush 500, 3) := by decide +kernel
theorem dX12_harmBy_45 : decode cX12_harmBy 45 = .ok (.isub, 1) := by decide +kernel
theorem dX12_harmBy_46 : decode cX12_harmBy 46 = .ok (.ireturn, 1) := by decide +kernel
theorem dX12_harms_0 : decode cX12_harms 0 = .ok (.iload_n 1, 1) := by decide +kernel
theorem dX12_harms_1 : decode cX12_harms 1 = .ok (.iload_n 2, 1) := by decide +kernel
theorem dX12_harms_2 : decode cX12_harms 2 = .ok (.if_icmp .eq 37, 3) := by decide +kernel
theorem dX12_harms_5 : decode cX12_harms 5 = .ok (.aload_n 0, 1) := by decide +kernel
theorem dX12_harms_6 : decode cX12_harms 6 = .ok (.getfield 39, 3) := by decide +kernel
theorem dX12_harms_9 : decode cX12_harms 9 = .ok (.iload_n 1, 1) := by decide +kernel
theorem dX12_harms_10 : decode cX12_harms 10 = .ok (.iaload, 1) := by decide +kernel
theorem dX12_harms_11 : decode cX12_harms 11 = .ok (.iconst (-1), 1) := by decide +kernel
theorem dX12_harms_12 : decode cX12_harms 12 = .ok (.if_icmp .eq 27, 3) := by decide +kernel
theorem dX12_harms_15 : decode cX12_harms 15 = .ok (.aload_n 0, 1) := by decide +kernel
theorem dX12_harms_16 : decode cX12_harms 16 = .ok (.getfield 39, 3) := by decide +kernel
theorem dX12_harms_19 : decode cX12_harms 19 = .ok (.iload_n 1, 1) := by decide +kernel
theorem dX12_harms_20 : decode cX12_harms 20 = .ok (.iaload, 1) := by decide +kernel
theorem dX12_harms_21 : decode cX12_harms 21 = .ok (.aload_n 0, 1) := by decide +kernel
theorem dX12_harms_22 : decode cX12_harms 22 = .ok (.getfield 39, 3) := by decide +kernel
theorem dX12_harms_25 : decode cX12_harms 25 = .ok (.iload_n 2, 1) := by decide +kernel
theorem dX12_harms_26 : decode cX12_harms 26 = .ok (.iaload, 1) := by decide +kernel
theorem dX12_harms_27 : decode cX12_harms 27 = .ok (.isub, 1) := by decide +kernel
theorem dX12_harms_28 : decode cX12_harms 28 = .ok (.invokestatic 132, 3) := by decide +kernel
theorem dX12_harms_31 : decode cX12_harms 31 = .ok (.iconst 2, 1) := by decide +kernel
theorem dX12_harms_32 : decode cX12_harms 32 = .ok (.if_icmp .gt 7, 3) := by decide +kernel
theorem dX12_harms_35 : decode cX12_harms 35 = .ok (.iconst 1, 1) := by decide +kernel
theorem dX12_harms_36 : decode cX12_harms 36 = .ok (.goto 4, 3) := by decide +kernel
theorem dX12_harms_39 : decode cX12_harms 39 = .ok (.iconst 0, 1) := by decide +kernel
theorem dX12_harms_40 : decode cX12_harms 40 = .ok (.ireturn, 1) := by decide +kernel
theorem dX12_isHarmed_0 : decode cX12_isHarmed 0 = .ok (.iconst 0, 1) := by decide +kernel
theorem dX12_isHarmed_1 : decode cX12_isHarmed 1 = .ok (.istore_n 2, 1) := by decide +kernel
theorem dX12_isHarmed_2 : decode cX12_isHarmed 2 = .ok (.iconst 0, 1) := by decide +kernel
theorem dX12_isHarmed_3 : decode cX12_isHarmed 3 = .ok (.istore_n 3, 1) := by decide +kernel
theorem dX12_isHarmed_4 : decode cX12_isHarmed 4 = .ok (.iload_n 3, 1) := by decide +kernel
theorem dX12_isHarmed_5 : decode cX12_isHarmed 5 = .ok (.aload_n 0, 1) := by decide +kernel
theorem dX12_isHarmed_6 : decode cX12_isHarmed 6 = .ok (.getfield 108, 3) := by decide +kernel
theorem dX12_isHarmed_9 : decode cX12_isHarmed 9 = .ok (.if_icmp .ge 28, 3) := by decide +kernel
theorem dX12_isHarmed_12 : decode cX12_isHarmed 12 = .ok (.iload_n 2, 1) := by decide +kernel
theorem dX12_isHarmed_13 : decode cX12_isHarmed 13 = .ok (.ifCond .ne 12, 3) := by decide +kernel
theorem dX12_isHarmed_16 : decode cX12_isHarmed 16 = .ok (.aload_n 0, 1) := by decide +kernel
theorem dX12_isHarmed_17 : decode cX12_isHarmed 17 = .ok (.iload_n 3, 1) := by decide +kernel
theorem dX12_isHarmed_18 : decode cX12_isHarmed 18 = .ok (.iload_n 1, 1) := by decide +kernel
theorem dX12_isHarmed_19 : decode cX12_isHarmed 19 = .ok (.invokevirtual 159, 3) := by decide +kernel
theorem dX12_isHarmed_22 : decode cX12_isHarmed 22 = .ok (.ifCond .eq 7, 3) := by decide +kernel
theorem dX12_isHarmed_25 : decode cX12_isHarmed 25 = .ok (.iconst 1, 1) := by decide +kernel
theorem dX12_isHarmed_26 : decode cX12_isHarmed 26 = .ok (.goto 4, 3) := by decide +kernel
theorem dX12_isHarmed_29 : decode cX12_isHarmed 29 = .ok (.iconst 0, 1) := by decide +kernel
theorem dX12_isHarmed_30 : decode cX12_isHarmed 30 = .ok (.istore_n 2, 1) := by decide +kernel
theorem dX12_isHarmed_31 : decode cX12_isHarmed 31 = .ok (.iinc 3 1, 3) := by decide +kernel
theorem dX12_isHarmed_34 : decode cX12_isHarmed 34 = .ok (.goto (-30), 3) := by decide +kernel
theorem dX12_isHarmed_37 : decode cX12_isHarmed 37 = .ok (.iload_n 2, 1) := by decide +kernel
theorem dX12_isHarmed_38 : decode cX12_isHarmed 38 = .ok (.ireturn, 1) := by decide +kernel
theorem dX12_harmOf_0 : decode cX12_harmOf 0 = .ok (.iconst 1, 1) := by decide +kernel
theorem dX12_harmOf_1 : decode cX12_harmOf 1 = .ok (.istore_n 2, 1) := by decide +kernel
theorem dX12_harmOf_2 : decode cX12_harmOf 2 = .ok (.iconst 0, 1) := by decide +kernel
theorem dX12_harmOf_3 : decode cX12_harmOf 3 = .ok (.istore_n 3, 1) := by decide +kernel
theorem dX12_harmOf_4 : decode cX12_harmOf 4 = .ok (.iconst 0, 1) := by decide +kernel
theorem dX12_harmOf_5 : decode cX12_harmOf 5 = .ok (.istore 4, 2) := by decide +kernel
theorem dX12_harmOf_7 : decode cX12_harmOf 7 = .ok (.iload 4, 2) := by decide +kernel
theorem dX12_harmOf_9 : decode cX12_harmOf 9 = .ok (.aload_n 0, 1) := by decide +kernel
theorem dX12_harmOf_10 : decode cX12_harmOf 10 = .ok (.getfield 108, 3) := by decide +kernel
theorem dX12_harmOf_13 : decode cX12_harmOf 13 = .ok (.if_icmp .ge 80, 3) := by decide +kernel
theorem dX12_harmOf_16 : decode cX12_harmOf 16 = .ok (.aload_n 0, 1) := by decide +kernel
theorem dX12_harmOf_17 : decode cX12_harmOf 17 = .ok (.iload 4, 2) := by decide +kernel
theorem dX12_harmOf_19 : decode cX12_harmOf 19 = .ok (.iload_n 1, 1) := by decide +kernel
theorem dX12_harmOf_20 : decode cX12_harmOf 20 = .ok (.invokevirtual 159, 3) := by decide +kernel
theorem dX12_harmOf_23 : decode cX12_harmOf 23 = .ok (.ifCond .eq 64, 3) := by decide +kernel
theorem dX12_harmOf_26 : decode cX12_harmOf 26 = .ok (.aload_n 0, 1) := by decide +kernel
theorem dX12_harmOf_27 : decode cX12_harmOf 27 = .ok (.iload 4, 2) := by decide +kernel
theorem dX12_harmOf_29 : decode cX12_harmOf 29 = .ok (.iload_n 1, 1) := by decide +kernel
theorem dX12_harmOf_30 : decode cX12_harmOf 30 = .ok (.aload_n 0, 1) := by decide +kernel
theorem dX12_harmOf_31 : decode cX12_harmOf 31 = .ok (.getfield 39, 3) := by decide +kernel
theorem dX12_harmOf_34 : decode cX12_harmOf 34 = .ok (.iload 4, 2) := by decide +kernel
theorem dX12_harmOf_36 : decode cX12_harmOf 36 = .ok (.iaload, 1) := by decide +kernel
theorem dX12_harmOf_37 : decode cX12_harmOf 37 = .ok (.aload_n 0, 1) := by decide +kernel
theorem dX12_harmOf_38 : decode cX12_harmOf 38 = .ok (.getfield 39, 3) := by decide +kernel
theorem dX12_harmOf_41 : decode cX12_harmOf 41 = .ok (.iload_n 1, 1) := by decide +kernel
theorem dX12_harmOf_42 : decode cX12_harmOf 42 = .ok (.iaload, 1) := by decide +kernel
theorem dX12_harmOf_43 : decode cX12_harmOf 43 = .ok (.isub, 1) := by decide +kernel
theorem dX12_harmOf_44 : decode cX12_harmOf 44 = .ok (.invokestatic 132, 3) := by decide +kernel
theorem dX12_harmOf_47 : decode cX12_harmOf 47 = .ok (.invokevirtual 162, 3) := by decide +kernel
theorem dX12_harmOf_50 : decode cX12_harmOf 50 = .ok (.istore 5, 2) := by decide +kernel
theorem dX12_harmOf_52 : decode cX12_harmOf 52 = .ok (.iload_n 2, 1) := by decide +kernel
theorem dX12_harmOf_53 : decode cX12_harmOf 53 = .ok (.ifCond .eq 8, 3) := by decide +kernel
theorem dX12_harmOf_56 : decode cX12_harmOf 56 = .ok (.iload 5, 2) := by decide +kernel
theorem dX12_harmOf_58 : decode cX12_harmOf 58 = .ok (.goto 26, 3) := by decide +kernel
theorem dX12_harmOf_61 : decode cX12_harmOf 61 = .ok (.iload_n 3, 1) := by decide +kernel
theorem dX12_harmOf_62 : decode cX12_harmOf 62 = .ok (.iload 5, 2) := by decide +kernel
theorem dX12_harmOf_64 : decode cX12_harmOf 64 = .ok (.invokestatic 129, 3) := by decide +kernel
theorem dX12_harmOf_67 : decode cX12_harmOf 67 = .ok (.iconst 0, 1) := by decide +kernel
theorem dX12_harmOf_68 : decode cX12_harmOf 68 = .ok (.bipush 30, 2) := by decide +kernel
theorem dX12_harmOf_70 : decode cX12_harmOf 70 = .ok (.iload_n 3, 1) := by decide +kernel
theorem dX12_harmOf_71 : decode cX12_harmOf 71 = .ok (.iload 5, 2) := by decide +kernel
theorem dX12_harmOf_73 : decode cX12_harmOf 73 = .ok (.isub, 1) := by decide +kernel
theorem dX12_harmOf_74 : decode cX12_harmOf 74 = .ok (.invokestatic 132, 3) := by decide +kernel
theorem dX12_harmOf_77 : decode cX12_harmOf 77 = .ok (.iconst 4, 1) := by decide +kernel
theorem dX12_harmOf_78 : decode cX12_harmOf 78 = .ok (.idiv, 1) := by decide +kernel
theorem dX12_harmOf_79 : decode cX12_harmOf 79 = .ok (.isub, 1) := by decide +kernel
theorem dX12_harmOf_80 : decode cX12_harmOf 80 = .ok (.invokestatic 129, 3) := by decide +kernel
theorem dX12_harmOf_83 : decode cX12_harmOf 83 = .ok (.iadd, 1) := by decide +kernel
theorem dX12_harmOf_84 : decode cX12_harmOf 84 = .ok (.istore_n 3, 1) := by decide +kernel
theorem dX12_harmOf_85 : decode cX12_harmOf 85 = .ok (.iconst 0, 1) := by decide +kernel
theorem dX12_harmOf_86 : decode cX12_harmOf 86 = .ok (.istore_n 2, 1) := by decide +kernel
theorem dX12_harmOf_87 : decode cX12_harmOf 87 = .ok (.iinc 4 1, 3) := by decide +kernel
theorem dX12_harmOf_90 : decode cX12_harmOf 90 = .ok (.goto (-83), 3) := by decide +kernel
theorem dX12_harmOf_93 : decode cX12_harmOf 93 = .ok (.iload_n 3, 1) := by decide +kernel
theorem dX12_harmOf_94 : decode cX12_harmOf 94 = .ok (.ireturn, 1) := by decide +kernel
theorem dX12_keepsLevel_0 : decode cX12_keepsLevel 0 = .ok (.aload_n 0, 1) := by decide +kernel
theorem dX12_keepsLevel_1 : decode cX12_keepsLevel 1 = .ok (.iload_n 1, 1) := by decide +kernel
theorem dX12_keepsLevel_2 : decode cX12_keepsLevel 2 = .ok (.invokevirtual 166, 3) := by decide +kernel
theorem dX12_keepsLevel_5 : decode cX12_keepsLevel 5 = .ok (.ifCond .eq 21, 3) := by decide +kernel
theorem dX12_keepsLevel_8 : decode cX12_keepsLevel 8 = .ok (.aload_n 0, 1) := by decide +kernel
theorem dX12_keepsLevel_9 : decode cX12_keepsLevel 9 = .ok (.iload_n 1, 1) := by decide +kernel
theorem dX12_keepsLevel_10 : decode cX12_keepsLevel 10 = .ok (.invokevirtual 156, 3) := by decide +kernel
theorem dX12_keepsLevel_13 : decode cX12_keepsLevel 13 = .ok (.aload_n 0, 1) := by decide +kernel
theorem dX12_keepsLevel_14 : decode cX12_keepsLevel 14 = .ok (.iload_n 1, 1) := by decide +kernel
theorem dX12_keepsLevel_15 : decode cX12_keepsLevel 15 = .ok (.invokevirtual 169, 3) := by decide +kernel
theorem dX12_keepsLevel_18 : decode cX12_keepsLevel 18 = .ok (.isub, 1) := by decide +kernel
theorem dX12_keepsLevel_19 : decode cX12_keepsLevel 19 = .ok (.aload_n 0, 1) := by decide +kernel
theorem dX12_keepsLevel_20 : decode cX12_keepsLevel 20 = .ok (.getfield 7, 3) := by decide +kernel
theorem dX12_keepsLevel_23 : decode cX12_keepsLevel 23 = .ok (.if_icmp .lt 7, 3) := by decide +kernel
theorem dX12_keepsLevel_26 : decode cX12_keepsLevel 26 = .ok (.iconst 1, 1) := by decide +kernel
theorem dX12_keepsLevel_27 : decode cX12_keepsLevel 27 = .ok (.goto 4, 3) := by decide +kernel
theorem dX12_keepsLevel_30 : decode cX12_keepsLevel 30 = .ok (.iconst 0, 1) := by decide +kernel
theorem dX12_keepsLevel_31 : decode cX12_keepsLevel 31 = .ok (.ireturn, 1) := by decide +kernel
theorem dX12_harm_0 : decode cX12_harm 0 = .ok (.aload_n 0, 1) := by decide +kernel
theorem dX12_harm_1 : decode cX12_harm 1 = .ok (.iconst 0, 1) := by decide +kernel
theorem dX12_harm_2 : decode cX12_harm 2 = .ok (.putfield 98, 3) := by decide +kernel
theorem dX12_harm_5 : decode cX12_harm 5 = .ok (.aload_n 0, 1) := by decide +kernel
theorem dX12_harm_6 : decode cX12_harm 6 = .ok (.aload_n 0, 1) := by decide +kernel
theorem dX12_harm_7 : decode cX12_harm 7 = .ok (.iload_n 1, 1) := by decide +kernel
theorem dX12_harm_8 : decode cX12_harm 8 = .ok (.invokevirtual 153, 3) := by decide +kernel
theorem dX12_harm_11 : decode cX12_harm 11 = .ok (.iconst 1, 1) := by decide +kernel
theorem dX12_harm_12 : decode cX12_harm 12 = .ok (.invokevirtual 115, 3) := by decide +kernel
theorem dX12_harm_15 : decode cX12_harm 15 = .ok (.ifCond .ne 47, 3) := by decide +kernel
theorem dX12_harm_18 : decode cX12_harm 18 = .ok (.aload_n 0, 1) := by decide +kernel
theorem dX12_harm_19 : decode cX12_harm 19 = .ok (.aload_n 0, 1) := by decide +kernel
theorem dX12_harm_20 : decode cX12_harm 20 = .ok (.getfield 39, 3) := by decide +kernel
theorem dX12_harm_23 : decode cX12_harm 23 = .ok (.iload_n 1, 1) := by decide +kernel
theorem dX12_harm_24 : decode cX12_harm 24 = .ok (.iaload, 1) := by decide +kernel
theorem dX12_harm_25 : decode cX12_harm 25 = .ok (.iconst (-1), 1) := by decide +kernel
theorem dX12_harm_26 : decode cX12_harm 26 = .ok (.if_icmp .ne 7, 3) := by decide +kernel
theorem dX12_harm_29 : decode cX12_harm 29 = .ok (.iconst 1, 1) := by decide +kernel
theorem dX12_harm_30 : decode cX12_harm 30 = .ok (.goto 4, 3) := by decide +kernel
theorem dX12_harm_33 : decode cX12_harm 33 = .ok (.iconst 0, 1) := by decide +kernel
theorem dX12_harm_34 : decode cX12_harm 34 = .ok (.iconst 2, 1) := by decide +kernel
theorem dX12_harm_35 : decode cX12_harm 35 = .ok (.invokevirtual 115, 3) := by decide +kernel
theorem dX12_harm_38 : decode cX12_harm 38 = .ok (.ifCond .ne 24, 3) := by decide +kernel
theorem dX12_harm_41 : decode cX12_harm 41 = .ok (.aload_n 0, 1) := by decide +kernel
theorem dX12_harm_42 : decode cX12_harm 42 = .ok (.aload_n 0, 1) := by decide +kernel
theorem dX12_harm_43 : decode cX12_harm 43 = .ok (.iload_n 1, 1) := by decide +kernel
theorem dX12_harm_44 : decode cX12_harm 44 = .ok (.invokevirtual 166, 3) := by decide +kernel
theorem dX12_harm_47 : decode cX12_harm 47 = .ok (.ifCond .ne 7, 3) := by decide +kernel
theorem dX12_harm_50 : decode cX12_harm 50 = .ok (.iconst 1, 1) := by decide +kernel
theorem dX12_harm_51 : decode cX12_harm 51 = .ok (.goto 4, 3) := by decide +kernel
theorem dX12_harm_54 : decode cX12_harm 54 = .ok (.iconst 0, 1) := by decide +kernel
theorem dX12_harm_55 : decode cX12_harm 55 = .ok (.iconst 3, 1) := by decide +kernel
theorem dX12_harm_56 : decode cX12_harm 56 = .ok (.invokevirtual 115, 3) := by decide +kernel
theorem dX12_harm_59 : decode cX12_harm 59 = .ok (.ifCond .eq 7, 3) := by decide +kernel
theorem dX12_harm_62 : decode cX12_harm 62 = .ok (.iconst 0, 1) := by decide +kernel
theorem dX12_harm_63 : decode cX12_harm 63 = .ok (.goto 8, 3) := by decide +kernel
theorem dX12_harm_66 : decode cX12_harm 66 = .ok (.aload_n 0, 1) := by decide +kernel
theorem dX12_harm_67 : decode cX12_harm 67 = .ok (.iload_n 1, 1) := by decide +kernel
theorem dX12_harm_68 : decode cX12_harm 68 = .ok (.invokevirtual 169, 3) := by decide +kernel
theorem dX12_harm_71 : decode cX12_harm 71 = .ok (.ireturn, 1) := by decide +kernel
theorem dX12_keeps_0 : decode cX12_keeps 0 = .ok (.aload_n 0, 1) := by decide +kernel
theorem dX12_keeps_1 : decode cX12_keeps 1 = .ok (.iconst 0, 1) := by decide +kernel
theorem dX12_keeps_2 : decode cX12_keeps 2 = .ok (.putfield 98, 3) := by decide +kernel
theorem dX12_keeps_5 : decode cX12_keeps 5 = .ok (.aload_n 0, 1) := by decide +kernel
theorem dX12_keeps_6 : decode cX12_keeps 6 = .ok (.aload_n 0, 1) := by decide +kernel
theorem dX12_keeps_7 : decode cX12_keeps 7 = .ok (.iload_n 1, 1) := by decide +kernel
theorem dX12_keeps_8 : decode cX12_keeps 8 = .ok (.invokevirtual 153, 3) := by decide +kernel
theorem dX12_keeps_11 : decode cX12_keeps 11 = .ok (.iconst 1, 1) := by decide +kernel
theorem dX12_keeps_12 : decode cX12_keeps 12 = .ok (.invokevirtual 115, 3) := by decide +kernel
theorem dX12_keeps_15 : decode cX12_keeps 15 = .ok (.ifCond .ne 38, 3) := by decide +kernel
theorem dX12_keeps_18 : decode cX12_keeps 18 = .ok (.aload_n 0, 1) := by decide +kernel
theorem dX12_keeps_19 : decode cX12_keeps 19 = .ok (.aload_n 0, 1) := by decide +kernel
theorem dX12_keeps_20 : decode cX12_keeps 20 = .ok (.getfield 39, 3) := by decide +kernel
theorem dX12_keeps_23 : decode cX12_keeps 23 = .ok (.iload_n 1, 1) := by decide +kernel
theorem dX12_keeps_24 : decode cX12_keeps 24 = .ok (.iaload, 1) := by decide +kernel
theorem dX12_keeps_25 : decode cX12_keeps 25 = .ok (.iconst (-1), 1) := by decide +kernel
theorem dX12_keeps_26 : decode cX12_keeps 26 = .ok (.if_icmp .ne 7, 3) := by decide +kernel
theorem dX12_keeps_29 : decode cX12_keeps 29 = .ok (.iconst 1, 1) := by decide +kernel
theorem dX12_keeps_30 : decode cX12_keeps 30 = .ok (.goto 4, 3) := by decide +kernel
theorem dX12_keeps_33 : decode cX12_keeps 33 = .ok (.iconst 0, 1) := by decide +kernel
theorem dX12_keeps_34 : decode cX12_keeps 34 = .ok (.iconst 2, 1) := by decide +kernel
theorem dX12_keeps_35 : decode cX12_keeps 35 = .ok (.invokevirtual 115, 3) := by decide +kernel
theorem dX12_keeps_38 : decode cX12_keeps 38 = .ok (.ifCond .ne 15, 3) := by decide +kernel
theorem dX12_keeps_41 : decode cX12_keeps 41 = .ok (.aload_n 0, 1) := by decide +kernel
theorem dX12_keeps_42 : decode cX12_keeps 42 = .ok (.iload_n 1, 1) := by decide +kernel
theorem dX12_keeps_43 : decode cX12_keeps 43 = .ok (.invokevirtual 172, 3) := by decide +kernel
theorem dX12_keeps_46 : decode cX12_keeps 46 = .ok (.ifCond .eq 7, 3) := by decide +kernel
theorem dX12_keeps_49 : decode cX12_keeps 49 = .ok (.iconst 1, 1) := by decide +kernel
theorem dX12_keeps_50 : decode cX12_keeps 50 = .ok (.goto 4, 3) := by decide +kernel
theorem dX12_keeps_53 : decode cX12_keeps 53 = .ok (.iconst 0, 1) := by decide +kernel
theorem dX12_keeps_54 : decode cX12_keeps 54 = .ok (.ireturn, 1) := by decide +kernel
theorem dX12_areBarred_0 : decode cX12_areBarred 0 = .ok (.iload_n 2, 1) := by decide +kernel
theorem dX12_areBarred_1 : decode cX12_areBarred 1 = .ok (.iload 4, 2) := by decide +kernel
theorem dX12_areBarred_3 : decode cX12_areBarred 3 = .ok (.isub, 1) := by decide +kernel
theorem dX12_areBarred_4 : decode cX12_areBarred 4 = .ok (.invokestatic 132, 3) := by decide +kernel
theorem dX12_areBarred_7 : decode cX12_areBarred 7 = .ok (.istore 5, 2) := by decide +kernel
theorem dX12_areBarred_9 : decode cX12_areBarred 9 = .ok (.aload_n 0, 1) := by decide +kernel
theorem dX12_areBarred_10 : decode cX12_areBarred 10 = .ok (.getfield 35, 3) := by decide +kernel
theorem dX12_areBarred_13 : decode cX12_areBarred 13 = .ok (.iload_n 1, 1) := by decide +kernel
theorem dX12_areBarred_14 : decode cX12_areBarred 14 = .ok (.baload, 1) := by decide +kernel
theorem dX12_areBarred_15 : decode cX12_areBarred 15 = .ok (.ifCond .eq 28, 3) := by decide +kernel
theorem dX12_areBarred_18 : decode cX12_areBarred 18 = .ok (.aload_n 0, 1) := by decide +kernel
theorem dX12_areBarred_19 : decode cX12_areBarred 19 = .ok (.iload_n 1, 1) := by decide +kernel
theorem dX12_areBarred_20 : decode cX12_areBarred 20 = .ok (.invokevirtual 156, 3) := by decide +kernel
theorem dX12_areBarred_23 : decode cX12_areBarred 23 = .ok (.aload_n 0, 1) := by decide +kernel
theorem dX12_areBarred_24 : decode cX12_areBarred 24 = .ok (.iload_n 3, 1) := by decide +kernel
theorem dX12_areBarred_25 : decode cX12_areBarred 25 = .ok (.iload_n 1, 1) := by decide +kernel
theorem dX12_areBarred_26 : decode cX12_areBarred 26 = .ok (.iload 5, 2) := by decide +kernel
theorem dX12_areBarred_28 : decode cX12_areBarred 28 = .ok (.invokevirtual 162, 3) := by decide +kernel
theorem dX12_areBarred_31 : decode cX12_areBarred 31 = .ok (.isub, 1) := by decide +kernel
theorem dX12_areBarred_32 : decode cX12_areBarred 32 = .ok (.aload_n 0, 1) := by decide +kernel
theorem dX12_areBarred_33 : decode cX12_areBarred 33 = .ok (.getfield 7, 3) := by decide +kernel
theorem dX12_areBarred_36 : decode cX12_areBarred 36 = .ok (.if_icmp .ge 7, 3) := by decide +kernel
theorem dX12_areBarred_39 : decode cX12_areBarred 39 = .ok (.iconst 1, 1) := by decide +kernel
theorem dX12_areBarred_40 : decode cX12_areBarred 40 = .ok (.goto 4, 3) := by decide +kernel
theorem dX12_areBarred_43 : decode cX12_areBarred 43 = .ok (.iconst 0, 1) := by decide +kernel
theorem dX12_areBarred_44 : decode cX12_areBarred 44 = .ok (.istore 6, 2) := by decide +kernel
theorem dX12_areBarred_46 : decode cX12_areBarred 46 = .ok (.iload 5, 2) := by decide +kernel
theorem dX12_areBarred_48 : decode cX12_areBarred 48 = .ok (.iconst 2, 1) := by decide +kernel
theorem dX12_areBarred_49 : decode cX12_areBarred 49 = .ok (.if_icmp .gt 42, 3) := by decide +kernel
theorem dX12_areBarred_52 : decode cX12_areBarred 52 = .ok (.iload 6, 2) := by decide +kernel
theorem dX12_areBarred_54 : decode cX12_areBarred 54 = .ok (.ifCond .ne 33, 3) := by decide +kernel
theorem dX12_areBarred_57 : decode cX12_areBarred 57 = .ok (.aload_n 0, 1) := by decide +kernel
theorem dX12_areBarred_58 : decode cX12_areBarred 58 = .ok (.getfield 35, 3) := by decide +kernel
theorem dX12_areBarred_61 : decode cX12_areBarred 61 = .ok (.iload_n 3, 1) := by decide +kernel
theorem dX12_areBarred_62 : decode cX12_areBarred 62 = .ok (.baload, 1) := by decide +kernel
theorem dX12_areBarred_63 : decode cX12_areBarred 63 = .ok (.ifCond .eq 28, 3) := by decide +kernel
theorem dX12_areBarred_66 : decode cX12_areBarred 66 = .ok (.aload_n 0, 1) := by decide +kernel
theorem dX12_areBarred_67 : decode cX12_areBarred 67 = .ok (.iload_n 3, 1) := by decide +kernel
theorem dX12_areBarred_68 : decode cX12_areBarred 68 = .ok (.invokevirtual 156, 3) := by decide +kernel
theorem dX12_areBarred_71 : decode cX12_areBarred 71 = .ok (.aload_n 0, 1) := by decide +kernel
theorem dX12_areBarred_72 : decode cX12_areBarred 72 = .ok (.iload_n 1, 1) := by decide +kernel
theorem dX12_areBarred_73 : decode cX12_areBarred 73 = .ok (.iload_n 3, 1) := by decide +kernel
theorem dX12_areBarred_74 : decode cX12_areBarred 74 = .ok (.iload 5, 2) := by decide +kernel
theorem dX12_areBarred_76 : decode cX12_areBarred 76 = .ok (.invokevirtual 162, 3) := by decide +kernel
theorem dX12_areBarred_79 : decode cX12_areBarred 79 = .ok (.isub, 1) := by decide +kernel
theorem dX12_areBarred_80 : decode cX12_areBarred 80 = .ok (.aload_n 0, 1) := by decide +kernel
theorem dX12_areBarred_81 : decode cX12_areBarred 81 = .ok (.getfield 7, 3) := by decide +kernel
theorem dX12_areBarred_84 : decode cX12_areBarred 84 = .ok (.if_icmp .ge 7, 3) := by decide +kernel
theorem dX12_areBarred_87 : decode cX12_areBarred 87 = .ok (.iconst 1, 1) := by decide +kernel
theorem dX12_areBarred_88 : decode cX12_areBarred 88 = .ok (.goto 4, 3) := by decide +kernel
theorem dX12_areBarred_91 : decode cX12_areBarred 91 = .ok (.iconst 0, 1) := by decide +kernel
theorem dX12_areBarred_92 : decode cX12_areBarred 92 = .ok (.ireturn, 1) := by decide +kernel
theorem dX12_bars_0 : decode cX12_bars 0 = .ok (.aload_n 0, 1) := by decide +kernel
theorem dX12_bars_1 : decode cX12_bars 1 = .ok (.iconst 0, 1) := by decide +kernel
theorem dX12_bars_2 : decode cX12_bars 2 = .ok (.putfield 98, 3) := by decide +kernel
theorem dX12_bars_5 : decode cX12_bars 5 = .ok (.aload_n 0, 1) := by decide +kernel
theorem dX12_bars_6 : decode cX12_bars 6 = .ok (.aload_n 0, 1) := by decide +kernel
theorem dX12_bars_7 : decode cX12_bars 7 = .ok (.iload_n 1, 1) := by decide +kernel
theorem dX12_bars_8 : decode cX12_bars 8 = .ok (.invokevirtual 153, 3) := by decide +kernel
theorem dX12_bars_11 : decode cX12_bars 11 = .ok (.ifCond .ne 11, 3) := by decide +kernel
theorem dX12_bars_14 : decode cX12_bars 14 = .ok (.aload_n 0, 1) := by decide +kernel
theorem dX12_bars_15 : decode cX12_bars 15 = .ok (.iload_n 3, 1) := by decide +kernel
theorem dX12_bars_16 : decode cX12_bars 16 = .ok (.invokevirtual 153, 3) := by decide +kernel
theorem dX12_bars_19 : decode cX12_bars 19 = .ok (.ifCond .eq 7, 3) := by decide +kernel
theorem dX12_bars_22 : decode cX12_bars 22 = .ok (.iconst 1, 1) := by decide +kernel
theorem dX12_bars_23 : decode cX12_bars 23 = .ok (.goto 4, 3) := by decide +kernel
theorem dX12_bars_26 : decode cX12_bars 26 = .ok (.iconst 0, 1) := by decide +kernel
theorem dX12_bars_27 : decode cX12_bars 27 = .ok (.iconst 1, 1) := by decide +kernel
theorem dX12_bars_28 : decode cX12_bars 28 = .ok (.invokevirtual 115, 3) := by decide +kernel
theorem dX12_bars_31 : decode cX12_bars 31 = .ok (.ifCond .ne 36, 3) := by decide +kernel
theorem dX12_bars_34 : decode cX12_bars 34 = .ok (.aload_n 0, 1) := by decide +kernel
theorem dX12_bars_35 : decode cX12_bars 35 = .ok (.iload_n 1, 1) := by decide +kernel
theorem dX12_bars_36 : decode cX12_bars 36 = .ok (.iload_n 3, 1) := by decide +kernel
theorem dX12_bars_37 : decode cX12_bars 37 = .ok (.if_icmp .eq 18, 3) := by decide +kernel
theorem dX12_bars_40 : decode cX12_bars 40 = .ok (.iload_n 2, 1) := by decide +kernel
theorem dX12_bars_41 : decode cX12_bars 41 = .ok (.invokestatic 175, 3) := by decide +kernel
theorem dX12_bars_44 : decode cX12_bars 44 = .ok (.ifCond .ne 11, 3) := by decide +kernel
theorem dX12_bars_47 : decode cX12_bars 47 = .ok (.iload 4, 2) := by decide +kernel
theorem dX12_bars_49 : decode cX12_bars 49 = .ok (.invokestatic 175, 3) := by decide +kernel
theorem dX12_bars_52 : decode cX12_bars 52 = .ok (.ifCond .eq 7, 3) := by decide +kernel
theorem dX12_bars_55 : decode cX12_bars 55 = .ok (.iconst 1, 1) := by decide +kernel
theorem dX12_bars_56 : decode cX12_bars 56 = .ok (.goto 4, 3) := by decide +kernel
theorem dX12_bars_59 : decode cX12_bars 59 = .ok (.iconst 0, 1) := by decide +kernel
theorem dX12_bars_60 : decode cX12_bars 60 = .ok (.iconst 2, 1) := by decide +kernel
theorem dX12_bars_61 : decode cX12_bars 61 = .ok (.invokevirtual 115, 3) := by decide +kernel
theorem dX12_bars_64 : decode cX12_bars 64 = .ok (.ifCond .eq 5, 3) := by decide +kernel
theorem dX12_bars_67 : decode cX12_bars 67 = .ok (.iconst 0, 1) := by decide +kernel
theorem dX12_bars_68 : decode cX12_bars 68 = .ok (.ireturn, 1) := by decide +kernel
theorem dX12_bars_69 : decode cX12_bars 69 = .ok (.aload_n 0, 1) := by decide +kernel
theorem dX12_bars_70 : decode cX12_bars 70 = .ok (.iload_n 1, 1) := by decide +kernel
theorem dX12_bars_71 : decode cX12_bars 71 = .ok (.iload_n 2, 1) := by decide +kernel
theorem dX12_bars_72 : decode cX12_bars 72 = .ok (.iload_n 3, 1) := by decide +kernel
theorem dX12_bars_73 : decode cX12_bars 73 = .ok (.iload 4, 2) := by decide +kernel
theorem dX12_bars_75 : decode cX12_bars 75 = .ok (.invokevirtual 178, 3) := by decide +kernel
theorem dX12_bars_78 : decode cX12_bars 78 = .ok (.ireturn, 1) := by decide +kernel
theorem dX12_set_0 : decode cX12_set 0 = .ok (.aload_n 0, 1) := by decide +kernel
theorem dX12_set_1 : decode cX12_set 1 = .ok (.getfield 39, 3) := by decide +kernel
theorem dX12_set_4 : decode cX12_set 4 = .ok (.iload_n 1, 1) := by decide +kernel
theorem dX12_set_5 : decode cX12_set 5 = .ok (.iload_n 2, 1) := by decide +kernel
theorem dX12_set_6 : decode cX12_set 6 = .ok (.iastore, 1) := by decide +kernel
theorem dX12_set_7 : decode cX12_set 7 = .ok (.aload_n 0, 1) := by decide +kernel
theorem dX12_set_8 : decode cX12_set 8 = .ok (.getfield 48, 3) := by decide +kernel
theorem dX12_set_11 : decode cX12_set 11 = .ok (.iload_n 1, 1) := by decide +kernel
theorem dX12_set_12 : decode cX12_set 12 = .ok (.invokevirtual 182, 3) := by decide +kernel
theorem dX12_set_15 : decode cX12_set 15 = .ok (.checkcast 45, 3) := by decide +kernel
theorem dX12_set_18 : decode cX12_set 18 = .ok (.aload_n 0, 1) := by decide +kernel
theorem dX12_set_19 : decode cX12_set 19 = .ok (.getfield 186, 3) := by decide +kernel
theorem dX12_set_22 : decode cX12_set 22 = .ok (.invokestatic 189, 3) := by decide +kernel
theorem dX12_set_25 : decode cX12_set 25 = .ok (.invokevirtual 149, 3) := by decide +kernel
theorem dX12_set_28 : decode cX12_set 28 = .ok (.pop, 1) := by decide +kernel
theorem dX12_set_29 : decode cX12_set 29 = .ok (.aload_n 0, 1) := by decide +kernel
theorem dX12_set_30 : decode cX12_set 30 = .ok (.getfield 48, 3) := by decide +kernel
theorem dX12_set_33 : decode cX12_set 33 = .ok (.iload_n 1, 1) := by decide +kernel
theorem dX12_set_34 : decode cX12_set 34 = .ok (.invokevirtual 182, 3) := by decide +kernel
theorem dX12_set_37 : decode cX12_set 37 = .ok (.checkcast 45, 3) := by decide +kernel
theorem dX12_set_40 : decode cX12_set 40 = .ok (.iload_n 2, 1) := by decide +kernel
theorem dX12_set_41 : decode cX12_set 41 = .ok (.invokestatic 189, 3) := by decide +kernel
theorem dX12_set_44 : decode cX12_set 44 = .ok (.invokevirtual 149, 3) := by decide +kernel
theorem dX12_set_47 : decode cX12_set 47 = .ok (.pop, 1) := by decide +kernel
theorem dX12_set_48 : decode cX12_set 48 = .ok (.return_, 1) := by decide +kernel
theorem dX12_hasYesFor_0 : decode cX12_hasYesFor 0 = .ok (.bipush 8, 2) := by decide +kernel
theorem dX12_hasYesFor_2 : decode cX12_hasYesFor 2 = .ok (.iload_n 1, 1) := by decide +kernel
theorem dX12_hasYesFor_3 : decode cX12_hasYesFor 3 = .ok (.imul, 1) := by decide +kernel
theorem dX12_hasYesFor_4 : decode cX12_hasYesFor 4 = .ok (.iload_n 2, 1) := by decide +kernel
theorem dX12_hasYesFor_5 : decode cX12_hasYesFor 5 = .ok (.iadd, 1) := by decide +kernel
theorem dX12_hasYesFor_6 : decode cX12_hasYesFor 6 = .ok (.istore_n 3, 1) := by decide +kernel
