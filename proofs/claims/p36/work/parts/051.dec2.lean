theorem dX11_putOff_7 : decode cX11_putOff 7 = .ok (.getfield 19, 3) := by decide +kernel
theorem dX11_putOff_10 : decode cX11_putOff 10 = .ok (.getfield 154, 3) := by decide +kernel
theorem dX11_putOff_13 : decode cX11_putOff 13 = .ok (.aload_n 2, 1) := by decide +kernel
theorem dX11_putOff_14 : decode cX11_putOff 14 = .ok (.getfield 232, 3) := by decide +kernel
theorem dX11_putOff_17 : decode cX11_putOff 17 = .ok (.invokevirtual 226, 3) := by decide +kernel
theorem dX11_putOff_20 : decode cX11_putOff 20 = .ok (.istore_n 3, 1) := by decide +kernel
theorem dX11_putOff_21 : decode cX11_putOff 21 = .ok (.aload_n 0, 1) := by decide +kernel
theorem dX11_putOff_22 : decode cX11_putOff 22 = .ok (.getfield 19, 3) := by decide +kernel
theorem dX11_putOff_25 : decode cX11_putOff 25 = .ok (.aload_n 2, 1) := by decide +kernel
theorem dX11_putOff_26 : decode cX11_putOff 26 = .ok (.getfield 232, 3) := by decide +kernel
theorem dX11_putOff_29 : decode cX11_putOff 29 = .ok (.iconst (-1), 1) := by decide +kernel
theorem dX11_putOff_30 : decode cX11_putOff 30 = .ok (.invokevirtual 229, 3) := by decide +kernel
theorem dX11_putOff_33 : decode cX11_putOff 33 = .ok (.iload_n 3, 1) := by decide +kernel
theorem dX11_putOff_34 : decode cX11_putOff 34 = .ok (.ireturn, 1) := by decide +kernel
theorem dX11_channelOf_0 : decode cX11_channelOf 0 = .ok (.aload_n 0, 1) := by decide +kernel
theorem dX11_channelOf_1 : decode cX11_channelOf 1 = .ok (.iload_n 1, 1) := by decide +kernel
theorem dX11_channelOf_2 : decode cX11_channelOf 2 = .ok (.invokevirtual 143, 3) := by decide +kernel
theorem dX11_channelOf_5 : decode cX11_channelOf 5 = .ok (.astore_n 3, 1) := by decide +kernel
theorem dX11_channelOf_6 : decode cX11_channelOf 6 = .ok (.aload_n 0, 1) := by decide +kernel
theorem dX11_channelOf_7 : decode cX11_channelOf 7 = .ok (.iload_n 2, 1) := by decide +kernel
theorem dX11_channelOf_8 : decode cX11_channelOf 8 = .ok (.iconst 0, 1) := by decide +kernel
theorem dX11_channelOf_9 : decode cX11_channelOf 9 = .ok (.aload_n 0, 1) := by decide +kernel
theorem dX11_channelOf_10 : decode cX11_channelOf 10 = .ok (.getfield 19, 3) := by decide +kernel
theorem dX11_channelOf_13 : decode cX11_channelOf 13 = .ok (.getfield 194, 3) := by decide +kernel
theorem dX11_channelOf_16 : decode cX11_channelOf 16 = .ok (.invokevirtual 70, 3) := by decide +kernel
theorem dX11_channelOf_19 : decode cX11_channelOf 19 = .ok (.aload_n 0, 1) := by decide +kernel
theorem dX11_channelOf_20 : decode cX11_channelOf 20 = .ok (.getfield 19, 3) := by decide +kernel
theorem dX11_channelOf_23 : decode cX11_channelOf 23 = .ok (.aload_n 3, 1) := by decide +kernel
theorem dX11_channelOf_24 : decode cX11_channelOf 24 = .ok (.getfield 232, 3) := by decide +kernel
theorem dX11_channelOf_27 : decode cX11_channelOf 27 = .ok (.iload_n 2, 1) := by decide +kernel
theorem dX11_channelOf_28 : decode cX11_channelOf 28 = .ok (.invokevirtual 235, 3) := by decide +kernel
theorem dX11_channelOf_31 : decode cX11_channelOf 31 = .ok (.ireturn, 1) := by decide +kernel
theorem dX11_setForeign_0 : decode cX11_setForeign 0 = .ok (.aload_n 0, 1) := by decide +kernel
theorem dX11_setForeign_1 : decode cX11_setForeign 1 = .ok (.iload_n 1, 1) := by decide +kernel
theorem dX11_setForeign_2 : decode cX11_setForeign 2 = .ok (.invokevirtual 173, 3) := by decide +kernel
theorem dX11_setForeign_5 : decode cX11_setForeign 5 = .ok (.aload_n 0, 1) := by decide +kernel
theorem dX11_setForeign_6 : decode cX11_setForeign 6 = .ok (.getfield 26, 3) := by decide +kernel
theorem dX11_setForeign_9 : decode cX11_setForeign 9 = .ok (.iload_n 1, 1) := by decide +kernel
theorem dX11_setForeign_10 : decode cX11_setForeign 10 = .ok (.invokevirtual 186, 3) := by decide +kernel
theorem dX11_setForeign_13 : decode cX11_setForeign 13 = .ok (.istore_n 3, 1) := by decide +kernel
theorem dX11_setForeign_14 : decode cX11_setForeign 14 = .ok (.aload_n 0, 1) := by decide +kernel
theorem dX11_setForeign_15 : decode cX11_setForeign 15 = .ok (.getfield 26, 3) := by decide +kernel
theorem dX11_setForeign_18 : decode cX11_setForeign 18 = .ok (.iload_n 1, 1) := by decide +kernel
theorem dX11_setForeign_19 : decode cX11_setForeign 19 = .ok (.iload_n 2, 1) := by decide +kernel
theorem dX11_setForeign_20 : decode cX11_setForeign 20 = .ok (.invokevirtual 238, 3) := by decide +kernel
theorem dX11_setForeign_23 : decode cX11_setForeign 23 = .ok (.iload_n 3, 1) := by decide +kernel
theorem dX11_setForeign_24 : decode cX11_setForeign 24 = .ok (.ireturn, 1) := by decide +kernel
theorem dX11_askAbroad_0 : decode cX11_askAbroad 0 = .ok (.aload_n 0, 1) := by decide +kernel
theorem dX11_askAbroad_1 : decode cX11_askAbroad 1 = .ok (.iload_n 1, 1) := by decide +kernel
theorem dX11_askAbroad_2 : decode cX11_askAbroad 2 = .ok (.invokevirtual 143, 3) := by decide +kernel
theorem dX11_askAbroad_5 : decode cX11_askAbroad 5 = .ok (.astore_n 3, 1) := by decide +kernel
theorem dX11_askAbroad_6 : decode cX11_askAbroad 6 = .ok (.aload_n 0, 1) := by decide +kernel
theorem dX11_askAbroad_7 : decode cX11_askAbroad 7 = .ok (.iload_n 2, 1) := by decide +kernel
theorem dX11_askAbroad_8 : decode cX11_askAbroad 8 = .ok (.invokevirtual 173, 3) := by decide +kernel
theorem dX11_askAbroad_11 : decode cX11_askAbroad 11 = .ok (.aload_n 0, 1) := by decide +kernel
theorem dX11_askAbroad_12 : decode cX11_askAbroad 12 = .ok (.getfield 26, 3) := by decide +kernel
theorem dX11_askAbroad_15 : decode cX11_askAbroad 15 = .ok (.aload_n 3, 1) := by decide +kernel
theorem dX11_askAbroad_16 : decode cX11_askAbroad 16 = .ok (.getfield 232, 3) := by decide +kernel
theorem dX11_askAbroad_19 : decode cX11_askAbroad 19 = .ok (.iload_n 2, 1) := by decide +kernel
theorem dX11_askAbroad_20 : decode cX11_askAbroad 20 = .ok (.aload_n 0, 1) := by decide +kernel
theorem dX11_askAbroad_21 : decode cX11_askAbroad 21 = .ok (.getfield 19, 3) := by decide +kernel
theorem dX11_askAbroad_24 : decode cX11_askAbroad 24 = .ok (.getfield 194, 3) := by decide +kernel
theorem dX11_askAbroad_27 : decode cX11_askAbroad 27 = .ok (.invokevirtual 242, 3) := by decide +kernel
theorem dX11_askAbroad_30 : decode cX11_askAbroad 30 = .ok (.ireturn, 1) := by decide +kernel
theorem dX11_object_0 : decode cX11_object 0 = .ok (.aload_n 0, 1) := by decide +kernel
theorem dX11_object_1 : decode cX11_object 1 = .ok (.iload_n 1, 1) := by decide +kernel
theorem dX11_object_2 : decode cX11_object 2 = .ok (.invokevirtual 143, 3) := by decide +kernel
theorem dX11_object_5 : decode cX11_object 5 = .ok (.astore_n 3, 1) := by decide +kernel
theorem dX11_object_6 : decode cX11_object 6 = .ok (.aload_n 0, 1) := by decide +kernel
theorem dX11_object_7 : decode cX11_object 7 = .ok (.iload_n 2, 1) := by decide +kernel
theorem dX11_object_8 : decode cX11_object 8 = .ok (.invokevirtual 173, 3) := by decide +kernel
theorem dX11_object_11 : decode cX11_object 11 = .ok (.aload_n 0, 1) := by decide +kernel
theorem dX11_object_12 : decode cX11_object 12 = .ok (.getfield 26, 3) := by decide +kernel
theorem dX11_object_15 : decode cX11_object 15 = .ok (.aload_n 3, 1) := by decide +kernel
theorem dX11_object_16 : decode cX11_object 16 = .ok (.getfield 232, 3) := by decide +kernel
theorem dX11_object_19 : decode cX11_object 19 = .ok (.iload_n 2, 1) := by decide +kernel
theorem dX11_object_20 : decode cX11_object 20 = .ok (.invokevirtual 245, 3) := by decide +kernel
theorem dX11_object_23 : decode cX11_object 23 = .ok (.ifCond .ne 13, 3) := by decide +kernel
theorem dX11_object_26 : decode cX11_object 26 = .ok (.new 162, 3) := by decide +kernel
theorem dX11_object_29 : decode cX11_object 29 = .ok (.dup, 1) := by decide +kernel
theorem dX11_object_30 : decode cX11_object 30 = .ok (.ldc 249, 2) := by decide +kernel
theorem dX11_object_32 : decode cX11_object 32 = .ok (.invokespecial 166, 3) := by decide +kernel
theorem dX11_object_35 : decode cX11_object 35 = .ok (.athrow, 1) := by decide +kernel
theorem dX11_object_36 : decode cX11_object 36 = .ok (.aload_n 0, 1) := by decide +kernel
theorem dX11_object_37 : decode cX11_object 37 = .ok (.getfield 26, 3) := by decide +kernel
theorem dX11_object_40 : decode cX11_object 40 = .ok (.aload_n 3, 1) := by decide +kernel
theorem dX11_object_41 : decode cX11_object 41 = .ok (.getfield 232, 3) := by decide +kernel
theorem dX11_object_44 : decode cX11_object 44 = .ok (.iload_n 2, 1) := by decide +kernel
theorem dX11_object_45 : decode cX11_object 45 = .ok (.aload_n 0, 1) := by decide +kernel
theorem dX11_object_46 : decode cX11_object 46 = .ok (.getfield 19, 3) := by decide +kernel
theorem dX11_object_49 : decode cX11_object 49 = .ok (.getfield 194, 3) := by decide +kernel
theorem dX11_object_52 : decode cX11_object 52 = .ok (.invokevirtual 251, 3) := by decide +kernel
theorem dX11_object_55 : decode cX11_object 55 = .ok (.ireturn, 1) := by decide +kernel
theorem dX11_hasYes_0 : decode cX11_hasYes 0 = .ok (.aload_n 0, 1) := by decide +kernel
theorem dX11_hasYes_1 : decode cX11_hasYes 1 = .ok (.iload_n 1, 1) := by decide +kernel
theorem dX11_hasYes_2 : decode cX11_hasYes 2 = .ok (.invokevirtual 143, 3) := by decide +kernel
theorem dX11_hasYes_5 : decode cX11_hasYes 5 = .ok (.astore_n 3, 1) := by decide +kernel
theorem dX11_hasYes_6 : decode cX11_hasYes 6 = .ok (.aload_n 0, 1) := by decide +kernel
theorem dX11_hasYes_7 : decode cX11_hasYes 7 = .ok (.iload_n 2, 1) := by decide +kernel
theorem dX11_hasYes_8 : decode cX11_hasYes 8 = .ok (.invokevirtual 173, 3) := by decide +kernel
theorem dX11_hasYes_11 : decode cX11_hasYes 11 = .ok (.aload_n 0, 1) := by decide +kernel
theorem dX11_hasYes_12 : decode cX11_hasYes 12 = .ok (.getfield 26, 3) := by decide +kernel
theorem dX11_hasYes_15 : decode cX11_hasYes 15 = .ok (.aload_n 3, 1) := by decide +kernel
theorem dX11_hasYes_16 : decode cX11_hasYes 16 = .ok (.getfield 232, 3) := by decide +kernel
theorem dX11_hasYes_19 : decode cX11_hasYes 19 = .ok (.iload_n 2, 1) := by decide +kernel
theorem dX11_hasYes_20 : decode cX11_hasYes 20 = .ok (.aload_n 0, 1) := by decide +kernel
theorem dX11_hasYes_21 : decode cX11_hasYes 21 = .ok (.getfield 19, 3) := by decide +kernel
theorem dX11_hasYes_24 : decode cX11_hasYes 24 = .ok (.getfield 194, 3) := by decide +kernel
theorem dX11_hasYes_27 : decode cX11_hasYes 27 = .ok (.invokevirtual 197, 3) := by decide +kernel
theorem dX11_hasYes_30 : decode cX11_hasYes 30 = .ok (.ireturn, 1) := by decide +kernel
theorem dX11_goOn_0 : decode cX11_goOn 0 = .ok (.aload_n 0, 1) := by decide +kernel
theorem dX11_goOn_1 : decode cX11_goOn 1 = .ok (.iload_n 1, 1) := by decide +kernel
theorem dX11_goOn_2 : decode cX11_goOn 2 = .ok (.iconst 1, 1) := by decide +kernel
theorem dX11_goOn_3 : decode cX11_goOn 3 = .ok (.bipush 99, 2) := by decide +kernel
theorem dX11_goOn_5 : decode cX11_goOn 5 = .ok (.invokevirtual 70, 3) := by decide +kernel
theorem dX11_goOn_8 : decode cX11_goOn 8 = .ok (.aload_n 0, 1) := by decide +kernel
theorem dX11_goOn_9 : decode cX11_goOn 9 = .ok (.getfield 19, 3) := by decide +kernel
theorem dX11_goOn_12 : decode cX11_goOn 12 = .ok (.dup, 1) := by decide +kernel
theorem dX11_goOn_13 : decode cX11_goOn 13 = .ok (.getfield 194, 3) := by decide +kernel
theorem dX11_goOn_16 : decode cX11_goOn 16 = .ok (.iload_n 1, 1) := by decide +kernel
theorem dX11_goOn_17 : decode cX11_goOn 17 = .ok (.iadd, 1) := by decide +kernel
theorem dX11_goOn_18 : decode cX11_goOn 18 = .ok (.putfield 194, 3) := by decide +kernel
theorem dX11_goOn_21 : decode cX11_goOn 21 = .ok (.aload_n 0, 1) := by decide +kernel
theorem dX11_goOn_22 : decode cX11_goOn 22 = .ok (.getfield 19, 3) := by decide +kernel
theorem dX11_goOn_25 : decode cX11_goOn 25 = .ok (.getfield 194, 3) := by decide +kernel
theorem dX11_goOn_28 : decode cX11_goOn 28 = .ok (.ireturn, 1) := by decide +kernel
theorem dX11_canPack_0 : decode cX11_canPack 0 = .ok (.aload_n 0, 1) := by decide +kernel
theorem dX11_canPack_1 : decode cX11_canPack 1 = .ok (.iload_n 1, 1) := by decide +kernel
theorem dX11_canPack_2 : decode cX11_canPack 2 = .ok (.iconst 1, 1) := by decide +kernel
theorem dX11_canPack_3 : decode cX11_canPack 3 = .ok (.bipush 8, 2) := by decide +kernel
theorem dX11_canPack_5 : decode cX11_canPack 5 = .ok (.invokevirtual 70, 3) := by decide +kernel
theorem dX11_canPack_8 : decode cX11_canPack 8 = .ok (.aload_n 0, 1) := by decide +kernel
theorem dX11_canPack_9 : decode cX11_canPack 9 = .ok (.getfield 33, 3) := by decide +kernel
theorem dX11_canPack_12 : decode cX11_canPack 12 = .ok (.aload_n 0, 1) := by decide +kernel
theorem dX11_canPack_13 : decode cX11_canPack 13 = .ok (.getfield 10, 3) := by decide +kernel
theorem dX11_canPack_16 : decode cX11_canPack 16 = .ok (.iload_n 1, 1) := by decide +kernel
theorem dX11_canPack_17 : decode cX11_canPack 17 = .ok (.invokevirtual 254, 3) := by decide +kernel
theorem dX11_canPack_20 : decode cX11_canPack 20 = .ok (.aload_n 0, 1) := by decide +kernel
theorem dX11_canPack_21 : decode cX11_canPack 21 = .ok (.getfield 33, 3) := by decide +kernel
theorem dX11_canPack_24 : decode cX11_canPack 24 = .ok (.aload_n 0, 1) := by decide +kernel
theorem dX11_canPack_25 : decode cX11_canPack 25 = .ok (.getfield 10, 3) := by decide +kernel
theorem dX11_canPack_28 : decode cX11_canPack 28 = .ok (.invokevirtual 258, 3) := by decide +kernel
theorem dX11_canPack_31 : decode cX11_canPack 31 = .ok (.invokevirtual 261, 3) := by decide +kernel
theorem dX11_canPack_34 : decode cX11_canPack 34 = .ok (.ireturn, 1) := by decide +kernel
theorem dX11_packed_0 : decode cX11_packed 0 = .ok (.aload_n 0, 1) := by decide +kernel
theorem dX11_packed_1 : decode cX11_packed 1 = .ok (.iload_n 1, 1) := by decide +kernel
theorem dX11_packed_2 : decode cX11_packed 2 = .ok (.iconst 1, 1) := by decide +kernel
theorem dX11_packed_3 : decode cX11_packed 3 = .ok (.bipush 8, 2) := by decide +kernel
theorem dX11_packed_5 : decode cX11_packed 5 = .ok (.invokevirtual 70, 3) := by decide +kernel
theorem dX11_packed_8 : decode cX11_packed 8 = .ok (.aload_n 0, 1) := by decide +kernel
theorem dX11_packed_9 : decode cX11_packed 9 = .ok (.iload_n 2, 1) := by decide +kernel
theorem dX11_packed_10 : decode cX11_packed 10 = .ok (.invokevirtual 143, 3) := by decide +kernel
theorem dX11_packed_13 : decode cX11_packed 13 = .ok (.astore_n 3, 1) := by decide +kernel
theorem dX11_packed_14 : decode cX11_packed 14 = .ok (.aload_n 3, 1) := by decide +kernel
theorem dX11_packed_15 : decode cX11_packed 15 = .ok (.getfield 210, 3) := by decide +kernel
theorem dX11_packed_18 : decode cX11_packed 18 = .ok (.ifCond .ne 14, 3) := by decide +kernel
theorem dX11_packed_21 : decode cX11_packed 21 = .ok (.new 221, 3) := by decide +kernel
theorem dX11_packed_24 : decode cX11_packed 24 = .ok (.dup, 1) := by decide +kernel
theorem dX11_packed_25 : decode cX11_packed 25 = .ok (.ldc_w 264, 3) := by decide +kernel
theorem dX11_packed_28 : decode cX11_packed 28 = .ok (.invokespecial 225, 3) := by decide +kernel
theorem dX11_packed_31 : decode cX11_packed 31 = .ok (.athrow, 1) := by decide +kernel
theorem dX11_packed_32 : decode cX11_packed 32 = .ok (.aload_n 0, 1) := by decide +kernel
theorem dX11_packed_33 : decode cX11_packed 33 = .ok (.getfield 33, 3) := by decide +kernel
theorem dX11_packed_36 : decode cX11_packed 36 = .ok (.aload_n 0, 1) := by decide +kernel
theorem dX11_packed_37 : decode cX11_packed 37 = .ok (.getfield 10, 3) := by decide +kernel
theorem dX11_packed_40 : decode cX11_packed 40 = .ok (.iload_n 1, 1) := by decide +kernel
theorem dX11_packed_41 : decode cX11_packed 41 = .ok (.invokevirtual 254, 3) := by decide +kernel
theorem dX11_packed_44 : decode cX11_packed 44 = .ok (.aload_n 0, 1) := by decide +kernel
theorem dX11_packed_45 : decode cX11_packed 45 = .ok (.getfield 33, 3) := by decide +kernel
theorem dX11_packed_48 : decode cX11_packed 48 = .ok (.aload_n 0, 1) := by decide +kernel
theorem dX11_packed_49 : decode cX11_packed 49 = .ok (.getfield 10, 3) := by decide +kernel
theorem dX11_packed_52 : decode cX11_packed 52 = .ok (.invokevirtual 258, 3) := by decide +kernel
theorem dX11_packed_55 : decode cX11_packed 55 = .ok (.invokevirtual 261, 3) := by decide +kernel
theorem dX11_packed_58 : decode cX11_packed 58 = .ok (.ifCond .ne 14, 3) := by decide +kernel
theorem dX11_packed_61 : decode cX11_packed 61 = .ok (.new 162, 3) := by decide +kernel
theorem dX11_packed_64 : decode cX11_packed 64 = .ok (.dup, 1) := by decide +kernel
theorem dX11_packed_65 : decode cX11_packed 65 = .ok (.ldc_w 266, 3) := by decide +kernel
theorem dX11_packed_68 : decode cX11_packed 68 = .ok (.invokespecial 166, 3) := by decide +kernel
theorem dX11_packed_71 : decode cX11_packed 71 = .ok (.athrow, 1) := by decide +kernel
theorem dX11_packed_72 : decode cX11_packed 72 = .ok (.aload_n 0, 1) := by decide +kernel
theorem dX11_packed_73 : decode cX11_packed 73 = .ok (.getfield 33, 3) := by decide +kernel
theorem dX11_packed_76 : decode cX11_packed 76 = .ok (.getfield 268, 3) := by decide +kernel
theorem dX11_packed_79 : decode cX11_packed 79 = .ok (.aload_n 3, 1) := by decide +kernel
theorem dX11_packed_80 : decode cX11_packed 80 = .ok (.getfield 232, 3) := by decide +kernel
theorem dX11_packed_83 : decode cX11_packed 83 = .ok (.invokevirtual 226, 3) := by decide +kernel
theorem dX11_packed_86 : decode cX11_packed 86 = .ok (.ireturn, 1) := by decide +kernel
theorem dX11_setAsked_0 : decode cX11_setAsked 0 = .ok (.aload_n 0, 1) := by decide +kernel
theorem dX11_setAsked_1 : decode cX11_setAsked 1 = .ok (.iload_n 1, 1) := by decide +kernel
theorem dX11_setAsked_2 : decode cX11_setAsked 2 = .ok (.invokevirtual 143, 3) := by decide +kernel
theorem dX11_setAsked_5 : decode cX11_setAsked 5 = .ok (.astore_n 3, 1) := by decide +kernel
theorem dX11_setAsked_6 : decode cX11_setAsked 6 = .ok (.aload_n 0, 1) := by decide +kernel
theorem dX11_setAsked_7 : decode cX11_setAsked 7 = .ok (.iload_n 2, 1) := by decide +kernel
theorem dX11_setAsked_8 : decode cX11_setAsked 8 = .ok (.iconst 0, 1) := by decide +kernel
theorem dX11_setAsked_9 : decode cX11_setAsked 9 = .ok (.sipush 9999, 3) := by decide +kernel
theorem dX11_setAsked_12 : decode cX11_setAsked 12 = .ok (.invokevirtual 70, 3) := by decide +kernel
theorem dX11_setAsked_15 : decode cX11_setAsked 15 = .ok (.aload_n 3, 1) := by decide +kernel
theorem dX11_setAsked_16 : decode cX11_setAsked 16 = .ok (.getfield 271, 3) := by decide +kernel
theorem dX11_setAsked_19 : decode cX11_setAsked 19 = .ok (.istore 4, 2) := by decide +kernel
theorem dX11_setAsked_21 : decode cX11_setAsked 21 = .ok (.aload_n 3, 1) := by decide +kernel
theorem dX11_setAsked_22 : decode cX11_setAsked 22 = .ok (.iload_n 2, 1) := by decide +kernel
theorem dX11_setAsked_23 : decode cX11_setAsked 23 = .ok (.putfield 271, 3) := by decide +kernel
theorem dX11_setAsked_26 : decode cX11_setAsked 26 = .ok (.iload 4, 2) := by decide +kernel
theorem dX11_setAsked_28 : decode cX11_setAsked 28 = .ok (.ireturn, 1) := by decide +kernel
theorem dX11_sell_0 : decode cX11_sell 0 = .ok (.aload_n 0, 1) := by decide +kernel
theorem dX11_sell_1 : decode cX11_sell 1 = .ok (.iload_n 1, 1) := by decide +kernel
theorem dX11_sell_2 : decode cX11_sell 2 = .ok (.iconst 1, 1) := by decide +kernel
theorem dX11_sell_3 : decode cX11_sell 3 = .ok (.sipush 9999, 3) := by decide +kernel
theorem dX11_sell_6 : decode cX11_sell 6 = .ok (.invokevirtual 70, 3) := by decide +kernel
theorem dX11_sell_9 : decode cX11_sell 9 = .ok (.aload_n 0, 1) := by decide +kernel
theorem dX11_sell_10 : decode cX11_sell 10 = .ok (.iload_n 2, 1) := by decide +kernel
theorem dX11_sell_11 : decode cX11_sell 11 = .ok (.iconst 1, 1) := by decide +kernel
theorem dX11_sell_12 : decode cX11_sell 12 = .ok (.sipush 999, 3) := by decide +kernel
theorem dX11_sell_15 : decode cX11_sell 15 = .ok (.invokevirtual 70, 3) := by decide +kernel
theorem dX11_sell_18 : decode cX11_sell 18 = .ok (.aload_n 0, 1) := by decide +kernel
theorem dX11_sell_19 : decode cX11_sell 19 = .ok (.iload_n 3, 1) := by decide +kernel
theorem dX11_sell_20 : decode cX11_sell 20 = .ok (.iconst 1, 1) := by decide +kernel
theorem dX11_sell_21 : decode cX11_sell 21 = .ok (.bipush 8, 2) := by decide +kernel
theorem dX11_sell_23 : decode cX11_sell 23 = .ok (.invokevirtual 70, 3) := by decide +kernel
theorem dX11_sell_26 : decode cX11_sell 26 = .ok (.aload_n 0, 1) := by decide +kernel
theorem dX11_sell_27 : decode cX11_sell 27 = .ok (.getfield 10, 3) := by decide +kernel
theorem dX11_sell_30 : decode cX11_sell 30 = .ok (.invokevirtual 258, 3) := by decide +kernel
theorem dX11_sell_33 : decode cX11_sell 33 = .ok (.aload_n 0, 1) := by decide +kernel
theorem dX11_sell_34 : decode cX11_sell 34 = .ok (.getfield 19, 3) := by decide +kernel
theorem dX11_sell_37 : decode cX11_sell 37 = .ok (.invokevirtual 274, 3) := by decide +kernel
theorem dX11_sell_40 : decode cX11_sell 40 = .ok (.iand, 1) := by decide +kernel
theorem dX11_sell_41 : decode cX11_sell 41 = .ok (.istore 4, 2) := by decide +kernel
theorem dX11_sell_43 : decode cX11_sell 43 = .ok (.iload 4, 2) := by decide +kernel
theorem dX11_sell_45 : decode cX11_sell 45 = .ok (.ifCond .ne 14, 3) := by decide +kernel
theorem dX11_sell_48 : decode cX11_sell 48 = .ok (.new 221, 3) := by decide +kernel
theorem dX11_sell_51 : decode cX11_sell 51 = .ok (.dup, 1) := by decide +kernel
theorem dX11_sell_52 : decode cX11_sell 52 = .ok (.ldc_w 277, 3) := by decide +kernel
theorem dX11_sell_55 : decode cX11_sell 55 = .ok (.invokespecial 225, 3) := by decide +kernel
theorem dX11_sell_58 : decode cX11_sell 58 = .ok (.athrow, 1) := by decide +kernel
theorem dX11_sell_59 : decode cX11_sell 59 = .ok (.aload_n 0, 1) := by decide +kernel
theorem dX11_sell_60 : decode cX11_sell 60 = .ok (.getfield 33, 3) := by decide +kernel
theorem dX11_sell_63 : decode cX11_sell 63 = .ok (.aload_n 0, 1) := by decide +kernel
theorem dX11_sell_64 : decode cX11_sell 64 = .ok (.getfield 10, 3) := by decide +kernel
theorem dX11_sell_67 : decode cX11_sell 67 = .ok (.iload_n 3, 1) := by decide +kernel
theorem dX11_sell_68 : decode cX11_sell 68 = .ok (.invokevirtual 254, 3) := by decide +kernel
theorem dX11_sell_71 : decode cX11_sell 71 = .ok (.iload 4, 2) := by decide +kernel
theorem dX11_sell_73 : decode cX11_sell 73 = .ok (.aload_n 0, 1) := by decide +kernel
theorem dX11_sell_74 : decode cX11_sell 74 = .ok (.getfield 10, 3) := by decide +kernel
theorem dX11_sell_77 : decode cX11_sell 77 = .ok (.iload_n 1, 1) := by decide +kernel
theorem dX11_sell_78 : decode cX11_sell 78 = .ok (.invokevirtual 279, 3) := by decide +kernel
theorem dX11_sell_81 : decode cX11_sell 81 = .ok (.iand, 1) := by decide +kernel
theorem dX11_sell_82 : decode cX11_sell 82 = .ok (.istore 5, 2) := by decide +kernel
theorem dX11_sell_84 : decode cX11_sell 84 = .ok (.aload_n 0, 1) := by decide +kernel
theorem dX11_sell_85 : decode cX11_sell 85 = .ok (.getfield 33, 3) := by decide +kernel
theorem dX11_sell_88 : decode cX11_sell 88 = .ok (.iload 5, 2) := by decide +kernel
theorem dX11_sell_90 : decode cX11_sell 90 = .ok (.invokevirtual 282, 3) := by decide +kernel
theorem dX11_sell_93 : decode cX11_sell 93 = .ok (.ifCond .ne 14, 3) := by decide +kernel
theorem dX11_sell_96 : decode cX11_sell 96 = .ok (.new 221, 3) := by decide +kernel
theorem dX11_sell_99 : decode cX11_sell 99 = .ok (.dup, 1) := by decide +kernel
theorem dX11_sell_100 : decode cX11_sell 100 = .ok (.ldc_w 285, 3) := by decide +kernel
theorem dX11_sell_103 : decode cX11_sell 103 = .ok (.invokespecial 225, 3) := by decide +kernel
theorem dX11_sell_106 : decode cX11_sell 106 = .ok (.athrow, 1) := by decide +kernel
theorem dX11_sell_107 : decode cX11_sell 107 = .ok (.aload_n 0, 1) := by decide +kernel
theorem dX11_sell_108 : decode cX11_sell 108 = .ok (.getfield 40, 3) := by decide +kernel
theorem dX11_sell_111 : decode cX11_sell 111 = .ok (.iload_n 3, 1) := by decide +kernel
theorem dX11_sell_112 : decode cX11_sell 112 = .ok (.iload 5, 2) := by decide +kernel
theorem dX11_sell_114 : decode cX11_sell 114 = .ok (.invokevirtual 287, 3) := by decide +kernel
theorem dX11_sell_117 : decode cX11_sell 117 = .ok (.aload_n 0, 1) := by decide +kernel
theorem dX11_sell_118 : decode cX11_sell 118 = .ok (.getfield 40, 3) := by decide +kernel
theorem dX11_sell_121 : decode cX11_sell 121 = .ok (.aload_n 0, 1) := by decide +kernel
theorem dX11_sell_122 : decode cX11_sell 122 = .ok (.getfield 10, 3) := by decide +kernel
theorem dX11_sell_125 : decode cX11_sell 125 = .ok (.aload_n 0, 1) := by decide +kernel
theorem dX11_sell_126 : decode cX11_sell 126 = .ok (.getfield 33, 3) := by decide +kernel
theorem dX11_sell_129 : decode cX11_sell 129 = .ok (.iload 4, 2) := by decide +kernel
theorem dX11_sell_131 : decode cX11_sell 131 = .ok (.iload 5, 2) := by decide +kernel
theorem dX11_sell_133 : decode cX11_sell 133 = .ok (.iconst (-1), 1) := by decide +kernel
theorem dX11_sell_134 : decode cX11_sell 134 = .ok (.ixor, 1) := by decide +kernel
theorem dX11_sell_135 : decode cX11_sell 135 = .ok (.iand, 1) := by decide +kernel
theorem dX11_sell_136 : decode cX11_sell 136 = .ok (.iload_n 1, 1) := by decide +kernel
theorem dX11_sell_137 : decode cX11_sell 137 = .ok (.iload_n 2, 1) := by decide +kernel
theorem dX11_sell_138 : decode cX11_sell 138 = .ok (.invokevirtual 290, 3) := by decide +kernel
theorem dX11_sell_141 : decode cX11_sell 141 = .ok (.istore 6, 2) := by decide +kernel
theorem dX11_sell_143 : decode cX11_sell 143 = .ok (.iconst 0, 1) := by decide +kernel
theorem dX11_sell_144 : decode cX11_sell 144 = .ok (.istore 7, 2) := by decide +kernel
theorem dX11_sell_146 : decode cX11_sell 146 = .ok (.iload 7, 2) := by decide +kernel
theorem dX11_sell_148 : decode cX11_sell 148 = .ok (.aload_n 0, 1) := by decide +kernel
theorem dX11_sell_149 : decode cX11_sell 149 = .ok (.getfield 10, 3) := by decide +kernel
theorem dX11_sell_152 : decode cX11_sell 152 = .ok (.getfield 125, 3) := by decide +kernel
theorem dX11_sell_155 : decode cX11_sell 155 = .ok (.invokevirtual 91, 3) := by decide +kernel
theorem dX11_sell_158 : decode cX11_sell 158 = .ok (.if_icmp .ge 29, 3) := by decide +kernel
theorem dX11_sell_161 : decode cX11_sell 161 = .ok (.iload 7, 2) := by decide +kernel
theorem dX11_sell_163 : decode cX11_sell 163 = .ok (.iload 6, 2) := by decide +kernel
theorem dX11_sell_165 : decode cX11_sell 165 = .ok (.invokestatic 294, 3) := by decide +kernel
theorem dX11_sell_168 : decode cX11_sell 168 = .ok (.ifCond .eq 13, 3) := by decide +kernel
theorem dX11_sell_171 : decode cX11_sell 171 = .ok (.aload_n 0, 1) := by decide +kernel
theorem dX11_sell_172 : decode cX11_sell 172 = .ok (.getfield 19, 3) := by decide +kernel
theorem dX11_sell_175 : decode cX11_sell 175 = .ok (.iload 7, 2) := by decide +kernel
theorem dX11_sell_177 : decode cX11_sell 177 = .ok (.iconst (-1), 1) := by decide +kernel
theorem dX11_sell_178 : decode cX11_sell 178 = .ok (.invokevirtual 229, 3) := by decide +kernel
theorem dX11_sell_181 : decode cX11_sell 181 = .ok (.iinc 7 1, 3) := by decide +kernel
theorem dX11_sell_184 : decode cX11_sell 184 = .ok (.goto (-38), 3) := by decide +kernel
theorem dX11_sell_187 : decode cX11_sell 187 = .ok (.iload 6, 2) := by decide +kernel
theorem dX11_sell_189 : decode cX11_sell 189 = .ok (.invokestatic 297, 3) := by decide +kernel
theorem dX11_sell_192 : decode cX11_sell 192 = .ok (.ireturn, 1) := by decide +kernel
theorem dX11_priceOf_0 : decode cX11_priceOf 0 = .ok (.aload_n 0, 1) := by decide +kernel
theorem dX11_priceOf_1 : decode cX11_priceOf 1 = .ok (.iload_n 1, 1) := by decide +kernel
theorem dX11_priceOf_2 : decode cX11_priceOf 2 = .ok (.invokevirtual 143, 3) := by decide +kernel
theorem dX11_priceOf_5 : decode cX11_priceOf 5 = .ok (.astore_n 2, 1) := by decide +kernel
theorem dX11_priceOf_6 : decode cX11_priceOf 6 = .ok (.aload_n 0, 1) := by decide +kernel
theorem dX11_priceOf_7 : decode cX11_priceOf 7 = .ok (.getfield 40, 3) := by decide +kernel
theorem dX11_priceOf_10 : decode cX11_priceOf 10 = .ok (.getfield 302, 3) := by decide +kernel
theorem dX11_priceOf_13 : decode cX11_priceOf 13 = .ok (.aload_n 2, 1) := by decide +kernel
theorem dX11_priceOf_14 : decode cX11_priceOf 14 = .ok (.getfield 232, 3) := by decide +kernel
theorem dX11_priceOf_17 : decode cX11_priceOf 17 = .ok (.invokevirtual 226, 3) := by decide +kernel
theorem dX11_priceOf_20 : decode cX11_priceOf 20 = .ok (.istore_n 3, 1) := by decide +kernel
theorem dX11_priceOf_21 : decode cX11_priceOf 21 = .ok (.iload_n 3, 1) := by decide +kernel
theorem dX11_priceOf_22 : decode cX11_priceOf 22 = .ok (.iconst (-1), 1) := by decide +kernel
theorem dX11_priceOf_23 : decode cX11_priceOf 23 = .ok (.if_icmp .ne 14, 3) := by decide +kernel
theorem dX11_priceOf_26 : decode cX11_priceOf 26 = .ok (.new 162, 3) := by decide +kernel
theorem dX11_priceOf_29 : decode cX11_priceOf 29 = .ok (.dup, 1) := by decide +kernel
theorem dX11_priceOf_30 : decode cX11_priceOf 30 = .ok (.ldc_w 305, 3) := by decide +kernel
theorem dX11_priceOf_33 : decode cX11_priceOf 33 = .ok (.invokespecial 166, 3) := by decide +kernel
theorem dX11_priceOf_36 : decode cX11_priceOf 36 = .ok (.athrow, 1) := by decide +kernel
theorem dX11_priceOf_37 : decode cX11_priceOf 37 = .ok (.iload_n 3, 1) := by decide +kernel
theorem dX11_priceOf_38 : decode cX11_priceOf 38 = .ok (.ireturn, 1) := by decide +kernel
theorem dX11_rounds_0 : decode cX11_rounds 0 = .ok (.aload_n 0, 1) := by decide +kernel
theorem dX11_rounds_1 : decode cX11_rounds 1 = .ok (.getfield 40, 3) := by decide +kernel
theorem dX11_rounds_4 : decode cX11_rounds 4 = .ok (.getfield 307, 3) := by decide +kernel
theorem dX11_rounds_7 : decode cX11_rounds 7 = .ok (.ireturn, 1) := by decide +kernel
theorem dX11_addBidder_0 : decode cX11_addBidder 0 = .ok (.aload_n 0, 1) := by decide +kernel
theorem dX11_addBidder_1 : decode cX11_addBidder 1 = .ok (.iload_n 1, 1) := by decide +kernel
theorem dX11_addBidder_2 : decode cX11_addBidder 2 = .ok (.iconst 0, 1) := by decide +kernel
theorem dX11_addBidder_3 : decode cX11_addBidder 3 = .ok (.sipush 9999, 3) := by decide +kernel
theorem dX11_addBidder_6 : decode cX11_addBidder 6 = .ok (.invokevirtual 70, 3) := by decide +kernel
theorem dX11_addBidder_9 : decode cX11_addBidder 9 = .ok (.aload_n 0, 1) := by decide +kernel
theorem dX11_addBidder_10 : decode cX11_addBidder 10 = .ok (.iload_n 2, 1) := by decide +kernel
theorem dX11_addBidder_11 : decode cX11_addBidder 11 = .ok (.iconst 0, 1) := by decide +kernel
theorem dX11_addBidder_12 : decode cX11_addBidder 12 = .ok (.iload_n 1, 1) := by decide +kernel
theorem dX11_addBidder_13 : decode cX11_addBidder 13 = .ok (.invokevirtual 70, 3) := by decide +kernel
theorem dX11_addBidder_16 : decode cX11_addBidder 16 = .ok (.aload_n 0, 1) := by decide +kernel
theorem dX11_addBidder_17 : decode cX11_addBidder 17 = .ok (.iload_n 3, 1) := by decide +kernel
theorem dX11_addBidder_18 : decode cX11_addBidder 18 = .ok (.iconst 0, 1) := by decide +kernel
theorem dX11_addBidder_19 : decode cX11_addBidder 19 = .ok (.iload_n 2, 1) := by decide +kernel
theorem dX11_addBidder_20 : decode cX11_addBidder 20 = .ok (.invokevirtual 70, 3) := by decide +kernel
theorem dX11_addBidder_23 : decode cX11_addBidder 23 = .ok (.aload_n 0, 1) := by decide +kernel
theorem dX11_addBidder_24 : decode cX11_addBidder 24 = .ok (.getfield 47, 3) := by decide +kernel
theorem dX11_addBidder_27 : decode cX11_addBidder 27 = .ok (.getfield 310, 3) := by decide +kernel
theorem dX11_addBidder_30 : decode cX11_addBidder 30 = .ok (.iconst 4, 1) := by decide +kernel
theorem dX11_addBidder_31 : decode cX11_addBidder 31 = .ok (.if_icmp .lt 14, 3) := by decide +kernel
theorem dX11_addBidder_34 : decode cX11_addBidder 34 = .ok (.new 97, 3) := by decide +kernel
theorem dX11_addBidder_37 : decode cX11_addBidder 37 = .ok (.dup, 1) := by decide +kernel
theorem dX11_addBidder_38 : decode cX11_addBidder 38 = .ok (.ldc_w 313, 3) := by decide +kernel
theorem dX11_addBidder_41 : decode cX11_addBidder 41 = .ok (.invokespecial 101, 3) := by decide +kernel
theorem dX11_addBidder_44 : decode cX11_addBidder 44 = .ok (.athrow, 1) := by decide +kernel
theorem dX11_addBidder_45 : decode cX11_addBidder 45 = .ok (.aload_n 0, 1) := by decide +kernel
theorem dX11_addBidder_46 : decode cX11_addBidder 46 = .ok (.getfield 47, 3) := by decide +kernel
theorem dX11_addBidder_49 : decode cX11_addBidder 49 = .ok (.iload_n 1, 1) := by decide +kernel
theorem dX11_addBidder_50 : decode cX11_addBidder 50 = .ok (.iload_n 2, 1) := by decide +kernel
theorem dX11_addBidder_51 : decode cX11_addBidder 51 = .ok (.iload_n 3, 1) := by decide +kernel
theorem dX11_addBidder_52 : decode cX11_addBidder 52 = .ok (.invokevirtual 315, 3) := by decide +kernel
theorem dX11_addBidder_55 : decode cX11_addBidder 55 = .ok (.ireturn, 1) := by decide +kernel
theorem dX11_buy_0 : decode cX11_buy 0 = .ok (.aload_n 0, 1) := by decide +kernel
theorem dX11_buy_1 : decode cX11_buy 1 = .ok (.iload_n 1, 1) := by decide +kernel
theorem dX11_buy_2 : decode cX11_buy 2 = .ok (.iconst 0, 1) := by decide +kernel
theorem dX11_buy_3 : decode cX11_buy 3 = .ok (.bipush 8, 2) := by decide +kernel
theorem dX11_buy_5 : decode cX11_buy 5 = .ok (.invokevirtual 70, 3) := by decide +kernel
theorem dX11_buy_8 : decode cX11_buy 8 = .ok (.aload_n 0, 1) := by decide +kernel
theorem dX11_buy_9 : decode cX11_buy 9 = .ok (.getfield 47, 3) := by decide +kernel
theorem dX11_buy_12 : decode cX11_buy 12 = .ok (.iload_n 1, 1) := by decide +kernel
theorem dX11_buy_13 : decode cX11_buy 13 = .ok (.invokevirtual 318, 3) := by decide +kernel
theorem dX11_buy_16 : decode cX11_buy 16 = .ok (.ireturn, 1) := by decide +kernel
theorem dX11_bought_0 : decode cX11_bought 0 = .ok (.aload_n 0, 1) := by decide +kernel
theorem dX11_bought_1 : decode cX11_bought 1 = .ok (.iload_n 1, 1) := by decide +kernel
theorem dX11_bought_2 : decode cX11_bought 2 = .ok (.invokevirtual 320, 3) := by decide +kernel
theorem dX11_bought_5 : decode cX11_bought 5 = .ok (.aload_n 0, 1) := by decide +kernel
theorem dX11_bought_6 : decode cX11_bought 6 = .ok (.getfield 47, 3) := by decide +kernel
theorem dX11_bought_9 : decode cX11_bought 9 = .ok (.getfield 323, 3) := by decide +kernel
theorem dX11_bought_12 : decode cX11_bought 12 = .ok (.iload_n 1, 1) := by decide +kernel
theorem dX11_bought_13 : decode cX11_bought 13 = .ok (.invokevirtual 226, 3) := by decide +kernel
theorem dX11_bought_16 : decode cX11_bought 16 = .ok (.ireturn, 1) := by decide +kernel
theorem dX11_pays_0 : decode cX11_pays 0 = .ok (.aload_n 0, 1) := by decide +kernel
theorem dX11_pays_1 : decode cX11_pays 1 = .ok (.iload_n 1, 1) := by decide +kernel
theorem dX11_pays_2 : decode cX11_pays 2 = .ok (.invokevirtual 320, 3) := by decide +kernel
theorem dX11_pays_5 : decode cX11_pays 5 = .ok (.aload_n 0, 1) := by decide +kernel
theorem dX11_pays_6 : decode cX11_pays 6 = .ok (.getfield 47, 3) := by decide +kernel
theorem dX11_pays_9 : decode cX11_pays 9 = .ok (.getfield 326, 3) := by decide +kernel
theorem dX11_pays_12 : decode cX11_pays 12 = .ok (.iload_n 1, 1) := by decide +kernel
theorem dX11_pays_13 : decode cX11_pays 13 = .ok (.invokevirtual 226, 3) := by decide +kernel
theorem dX11_pays_16 : decode cX11_pays 16 = .ok (.i2l, 1) := by decide +kernel
theorem dX11_pays_17 : decode cX11_pays 17 = .ok (.lreturn, 1) := by decide +kernel
theorem dX11_move_0 : decode cX11_move 0 = .ok (.aload_n 0, 1) := by decide +kernel
theorem dX11_move_1 : decode cX11_move 1 = .ok (.iload_n 1, 1) := by decide +kernel
theorem dX11_move_2 : decode cX11_move 2 = .ok (.iconst 1, 1) := by decide +kernel
theorem dX11_move_3 : decode cX11_move 3 = .ok (.iconst 4, 1) := by decide +kernel
theorem dX11_move_4 : decode cX11_move 4 = .ok (.invokevirtual 70, 3) := by decide +kernel
theorem dX11_move_7 : decode cX11_move 7 = .ok (.aload_n 0, 1) := by decide +kernel
theorem dX11_move_8 : decode cX11_move 8 = .ok (.getfield 40, 3) := by decide +kernel
theorem dX11_move_11 : decode cX11_move 11 = .ok (.getfield 329, 3) := by decide +kernel
theorem dX11_move_14 : decode cX11_move 14 = .ok (.ifCond .ne 14, 3) := by decide +kernel
theorem dX11_move_17 : decode cX11_move 17 = .ok (.new 221, 3) := by decide +kernel
theorem dX11_move_20 : decode cX11_move 20 = .ok (.dup, 1) := by decide +kernel
theorem dX11_move_21 : decode cX11_move 21 = .ok (.ldc_w 332, 3) := by decide +kernel
theorem dX11_move_24 : decode cX11_move 24 = .ok (.invokespecial 225, 3) := by decide +kernel
theorem dX11_move_27 : decode cX11_move 27 = .ok (.athrow, 1) := by decide +kernel
theorem dX11_move_28 : decode cX11_move 28 = .ok (.aload_n 0, 1) := by decide +kernel
theorem dX11_move_29 : decode cX11_move 29 = .ok (.getfield 40, 3) := by decide +kernel
theorem dX11_move_32 : decode cX11_move 32 = .ok (.getfield 334, 3) := by decide +kernel
theorem dX11_move_35 : decode cX11_move 35 = .ok (.aload_n 0, 1) := by decide +kernel
theorem dX11_move_36 : decode cX11_move 36 = .ok (.getfield 19, 3) := by decide +kernel
theorem dX11_move_39 : decode cX11_move 39 = .ok (.invokevirtual 274, 3) := by decide +kernel
theorem dX11_move_42 : decode cX11_move 42 = .ok (.iand, 1) := by decide +kernel
theorem dX11_move_43 : decode cX11_move 43 = .ok (.istore_n 2, 1) := by decide +kernel
theorem dX11_move_44 : decode cX11_move 44 = .ok (.aload_n 0, 1) := by decide +kernel
theorem dX11_move_45 : decode cX11_move 45 = .ok (.getfield 33, 3) := by decide +kernel
theorem dX11_move_48 : decode cX11_move 48 = .ok (.aload_n 0, 1) := by decide +kernel
theorem dX11_move_49 : decode cX11_move 49 = .ok (.getfield 10, 3) := by decide +kernel
theorem dX11_move_52 : decode cX11_move 52 = .ok (.aload_n 0, 1) := by decide +kernel
theorem dX11_move_53 : decode cX11_move 53 = .ok (.getfield 40, 3) := by decide +kernel
theorem dX11_move_56 : decode cX11_move 56 = .ok (.getfield 337, 3) := by decide +kernel
theorem dX11_move_59 : decode cX11_move 59 = .ok (.invokevirtual 254, 3) := by decide +kernel
theorem dX11_move_62 : decode cX11_move 62 = .ok (.aload_n 0, 1) := by decide +kernel
theorem dX11_move_63 : decode cX11_move 63 = .ok (.getfield 33, 3) := by decide +kernel
theorem dX11_move_66 : decode cX11_move 66 = .ok (.iload_n 2, 1) := by decide +kernel
theorem dX11_move_67 : decode cX11_move 67 = .ok (.invokevirtual 261, 3) := by decide +kernel
theorem dX11_move_70 : decode cX11_move 70 = .ok (.ifCond .ne 14, 3) := by decide +kernel
theorem dX11_move_73 : decode cX11_move 73 = .ok (.new 221, 3) := by decide +kernel
theorem dX11_move_76 : decode cX11_move 76 = .ok (.dup, 1) := by decide +kernel
theorem dX11_move_77 : decode cX11_move 77 = .ok (.ldc_w 266, 3) := by decide +kernel
theorem dX11_move_80 : decode cX11_move 80 = .ok (.invokespecial 225, 3) := by decide +kernel
theorem dX11_move_83 : decode cX11_move 83 = .ok (.athrow, 1) := by decide +kernel
theorem dX11_move_84 : decode cX11_move 84 = .ok (.aload_n 0, 1) := by decide +kernel
theorem dX11_move_85 : decode cX11_move 85 = .ok (.getfield 54, 3) := by decide +kernel
theorem dX11_move_88 : decode cX11_move 88 = .ok (.iload_n 2, 1) := by decide +kernel
theorem dX11_move_89 : decode cX11_move 89 = .ok (.aload_n 0, 1) := by decide +kernel
theorem dX11_move_90 : decode cX11_move 90 = .ok (.getfield 33, 3) := by decide +kernel
theorem dX11_move_93 : decode cX11_move 93 = .ok (.aload_n 0, 1) := by decide +kernel
theorem dX11_move_94 : decode cX11_move 94 = .ok (.getfield 19, 3) := by decide +kernel
theorem dX11_move_97 : decode cX11_move 97 = .ok (.invokevirtual 340, 3) := by decide +kernel
theorem dX11_move_100 : decode cX11_move 100 = .ok (.aload_n 0, 1) := by decide +kernel
theorem dX11_move_101 : decode cX11_move 101 = .ok (.getfield 54, 3) := by decide +kernel
theorem dX11_move_104 : decode cX11_move 104 = .ok (.aload_n 0, 1) := by decide +kernel
theorem dX11_move_105 : decode cX11_move 105 = .ok (.getfield 10, 3) := by decide +kernel
theorem dX11_move_108 : decode cX11_move 108 = .ok (.aload_n 0, 1) := by decide +kernel
theorem dX11_move_109 : decode cX11_move 109 = .ok (.getfield 33, 3) := by decide +kernel
theorem dX11_move_112 : decode cX11_move 112 = .ok (.aload_n 0, 1) := by decide +kernel
theorem dX11_move_113 : decode cX11_move 113 = .ok (.getfield 19, 3) := by decide +kernel
theorem dX11_move_116 : decode cX11_move 116 = .ok (.iload_n 1, 1) := by decide +kernel
theorem dX11_move_117 : decode cX11_move 117 = .ok (.invokevirtual 343, 3) := by decide +kernel
theorem dX11_move_120 : decode cX11_move 120 = .ok (.ireturn, 1) := by decide +kernel
theorem dX11_phaseOf_0 : decode cX11_phaseOf 0 = .ok (.aload_n 0, 1) := by decide +kernel
theorem dX11_phaseOf_1 : decode cX11_phaseOf 1 = .ok (.iload_n 1, 1) := by decide +kernel
theorem dX11_phaseOf_2 : decode cX11_phaseOf 2 = .ok (.invokevirtual 143, 3) := by decide +kernel
theorem dX11_phaseOf_5 : decode cX11_phaseOf 5 = .ok (.astore_n 2, 1) := by decide +kernel
theorem dX11_phaseOf_6 : decode cX11_phaseOf 6 = .ok (.aload_n 0, 1) := by decide +kernel
theorem dX11_phaseOf_7 : decode cX11_phaseOf 7 = .ok (.getfield 54, 3) := by decide +kernel
theorem dX11_phaseOf_10 : decode cX11_phaseOf 10 = .ok (.getfield 346, 3) := by decide +kernel
theorem dX11_phaseOf_13 : decode cX11_phaseOf 13 = .ok (.aload_n 2, 1) := by decide +kernel
theorem dX11_phaseOf_14 : decode cX11_phaseOf 14 = .ok (.getfield 232, 3) := by decide +kernel
theorem dX11_phaseOf_17 : decode cX11_phaseOf 17 = .ok (.invokevirtual 226, 3) := by decide +kernel
theorem dX11_phaseOf_20 : decode cX11_phaseOf 20 = .ok (.istore_n 3, 1) := by decide +kernel
theorem dX11_phaseOf_21 : decode cX11_phaseOf 21 = .ok (.iload_n 3, 1) := by decide +kernel
theorem dX11_phaseOf_22 : decode cX11_phaseOf 22 = .ok (.iconst (-1), 1) := by decide +kernel
theorem dX11_phaseOf_23 : decode cX11_phaseOf 23 = .ok (.if_icmp .ne 14, 3) := by decide +kernel
theorem dX11_phaseOf_26 : decode cX11_phaseOf 26 = .ok (.new 162, 3) := by decide +kernel
theorem dX11_phaseOf_29 : decode cX11_phaseOf 29 = .ok (.dup, 1) := by decide +kernel
theorem dX11_phaseOf_30 : decode cX11_phaseOf 30 = .ok (.ldc_w 349, 3) := by decide +kernel
theorem dX11_phaseOf_33 : decode cX11_phaseOf 33 = .ok (.invokespecial 166, 3) := by decide +kernel
theorem dX11_phaseOf_36 : decode cX11_phaseOf 36 = .ok (.athrow, 1) := by decide +kernel
theorem dX11_phaseOf_37 : decode cX11_phaseOf 37 = .ok (.iload_n 3, 1) := by decide +kernel
theorem dX11_phaseOf_38 : decode cX11_phaseOf 38 = .ok (.ireturn, 1) := by decide +kernel
theorem dX11_dark_0 : decode cX11_dark 0 = .ok (.aload_n 0, 1) := by decide +kernel
theorem dX11_dark_1 : decode cX11_dark 1 = .ok (.getfield 54, 3) := by decide +kernel
theorem dX11_dark_4 : decode cX11_dark 4 = .ok (.getfield 351, 3) := by decide +kernel
theorem dX11_dark_7 : decode cX11_dark 7 = .ok (.ireturn, 1) := by decide +kernel
theorem dX11_onShare_0 : decode cX11_onShare 0 = .ok (.aload_n 0, 1) := by decide +kernel
theorem dX11_onShare_1 : decode cX11_onShare 1 = .ok (.getfield 10, 3) := by decide +kernel
theorem dX11_onShare_4 : decode cX11_onShare 4 = .ok (.getfield 125, 3) := by decide +kernel
theorem dX11_onShare_7 : decode cX11_onShare 7 = .ok (.invokevirtual 91, 3) := by decide +kernel
theorem dX11_onShare_10 : decode cX11_onShare 10 = .ok (.istore_n 1, 1) := by decide +kernel
theorem dX11_onShare_11 : decode cX11_onShare 11 = .ok (.iload_n 1, 1) := by decide +kernel
theorem dX11_onShare_12 : decode cX11_onShare 12 = .ok (.ifCond .ne 14, 3) := by decide +kernel
theorem dX11_onShare_15 : decode cX11_onShare 15 = .ok (.new 354, 3) := by decide +kernel
theorem dX11_onShare_18 : decode cX11_onShare 18 = .ok (.dup, 1) := by decide +kernel
theorem dX11_onShare_19 : decode cX11_onShare 19 = .ok (.ldc_w 356, 3) := by decide +kernel
theorem dX11_onShare_22 : decode cX11_onShare 22 = .ok (.invokespecial 358, 3) := by decide +kernel
theorem dX11_onShare_25 : decode cX11_onShare 25 = .ok (.athrow, 1) := by decide +kernel
theorem dX11_onShare_26 : decode cX11_onShare 26 = .ok (.aload_n 0, 1) := by decide +kernel
theorem dX11_onShare_27 : decode cX11_onShare 27 = .ok (.getfield 19, 3) := by decide +kernel
theorem dX11_onShare_30 : decode cX11_onShare 30 = .ok (.invokevirtual 274, 3) := by decide +kernel
theorem dX11_onShare_33 : decode cX11_onShare 33 = .ok (.invokestatic 297, 3) := by decide +kernel
theorem dX11_onShare_36 : decode cX11_onShare 36 = .ok (.i2f, 1) := by decide +kernel
theorem dX11_onShare_37 : decode cX11_onShare 37 = .ok (.iload_n 1, 1) := by decide +kernel
theorem dX11_onShare_38 : decode cX11_onShare 38 = .ok (.i2f, 1) := by decide +kernel
theorem dX11_onShare_39 : decode cX11_onShare 39 = .ok (.fdiv, 1) := by decide +kernel
theorem dX11_onShare_40 : decode cX11_onShare 40 = .ok (.freturn, 1) := by decide +kernel
theorem dX11_isSound_0 : decode cX11_isSound 0 = .ok (.aload_n 0, 1) := by decide +kernel
theorem dX11_isSound_1 : decode cX11_isSound 1 = .ok (.getfield 54, 3) := by decide +kernel
theorem dX11_isSound_4 : decode cX11_isSound 4 = .ok (.getfield 365, 3) := by decide +kernel
theorem dX11_isSound_7 : decode cX11_isSound 7 = .ok (.ifCond .ne 20, 3) := by decide +kernel
theorem dX11_isSound_10 : decode cX11_isSound 10 = .ok (.aload_n 0, 1) := by decide +kernel
theorem dX11_isSound_11 : decode cX11_isSound 11 = .ok (.getfield 10, 3) := by decide +kernel
theorem dX11_isSound_14 : decode cX11_isSound 14 = .ok (.aload_n 0, 1) := by decide +kernel
theorem dX11_isSound_15 : decode cX11_isSound 15 = .ok (.getfield 19, 3) := by decide +kernel
theorem dX11_isSound_18 : decode cX11_isSound 18 = .ok (.getfield 154, 3) := by decide +kernel
theorem dX11_isSound_21 : decode cX11_isSound 21 = .ok (.invokevirtual 217, 3) := by decide +kernel
theorem dX11_isSound_24 : decode cX11_isSound 24 = .ok (.ifCond .eq 7, 3) := by decide +kernel
theorem dX11_isSound_27 : decode cX11_isSound 27 = .ok (.iconst 1, 1) := by decide +kernel
theorem dX11_isSound_28 : decode cX11_isSound 28 = .ok (.goto 4, 3) := by decide +kernel
theorem dX11_isSound_31 : decode cX11_isSound 31 = .ok (.iconst 0, 1) := by decide +kernel
theorem dX11_isSound_32 : decode cX11_isSound 32 = .ok (.istore_n 1, 1) := by decide +kernel
theorem dX11_isSound_33 : decode cX11_isSound 33 = .ok (.iload_n 1, 1) := by decide +kernel
theorem dX11_isSound_34 : decode cX11_isSound 34 = .ok (.ifCond .eq 37, 3) := by decide +kernel
theorem dX11_isSound_37 : decode cX11_isSound 37 = .ok (.aload_n 0, 1) := by decide +kernel
theorem dX11_isSound_38 : decode cX11_isSound 38 = .ok (.getfield 19, 3) := by decide +kernel
theorem dX11_isSound_41 : decode cX11_isSound 41 = .ok (.invokevirtual 368, 3) := by decide +kernel
theorem dX11_isSound_44 : decode cX11_isSound 44 = .ok (.ifCond .eq 27, 3) := by decide +kernel
theorem dX11_isSound_47 : decode cX11_isSound 47 = .ok (.aload_n 0, 1) := by decide +kernel
theorem dX11_isSound_48 : decode cX11_isSound 48 = .ok (.getfield 47, 3) := by decide +kernel
theorem dX11_isSound_51 : decode cX11_isSound 51 = .ok (.invokevirtual 372, 3) := by decide +kernel
theorem dX11_isSound_54 : decode cX11_isSound 54 = .ok (.ifCond .eq 17, 3) := by decide +kernel
theorem dX11_isSound_57 : decode cX11_isSound 57 = .ok (.aload_n 0, 1) := by decide +kernel
theorem dX11_isSound_58 : decode cX11_isSound 58 = .ok (.getfield 40, 3) := by decide +kernel
theorem dX11_isSound_61 : decode cX11_isSound 61 = .ok (.invokevirtual 375, 3) := by decide +kernel
theorem dX11_isSound_64 : decode cX11_isSound 64 = .ok (.ifCond .eq 7, 3) := by decide +kernel
theorem dX11_isSound_67 : decode cX11_isSound 67 = .ok (.iconst 1, 1) := by decide +kernel
theorem dX11_isSound_68 : decode cX11_isSound 68 = .ok (.goto 4, 3) := by decide +kernel
theorem dX11_isSound_71 : decode cX11_isSound 71 = .ok (.iconst 0, 1) := by decide +kernel
theorem dX11_isSound_72 : decode cX11_isSound 72 = .ok (.ireturn, 1) := by decide +kernel
theorem dX11_needCell_0 : decode cX11_needCell 0 = .ok (.iload_n 1, 1) := by decide +kernel
theorem dX11_needCell_1 : decode cX11_needCell 1 = .ok (.ifCond .lt 19, 3) := by decide +kernel
theorem dX11_needCell_4 : decode cX11_needCell 4 = .ok (.iload_n 1, 1) := by decide +kernel
theorem dX11_needCell_5 : decode cX11_needCell 5 = .ok (.bipush 20, 2) := by decide +kernel
theorem dX11_needCell_7 : decode cX11_needCell 7 = .ok (.if_icmp .ge 13, 3) := by decide +kernel
theorem dX11_needCell_10 : decode cX11_needCell 10 = .ok (.iload_n 2, 1) := by decide +kernel
theorem dX11_needCell_11 : decode cX11_needCell 11 = .ok (.ifCond .lt 9, 3) := by decide +kernel
theorem dX11_needCell_14 : decode cX11_needCell 14 = .ok (.iload_n 2, 1) := by decide +kernel
theorem dX11_needCell_15 : decode cX11_needCell 15 = .ok (.bipush 20, 2) := by decide +kernel
theorem dX11_needCell_17 : decode cX11_needCell 17 = .ok (.if_icmp .lt 14, 3) := by decide +kernel
theorem dX11_needCell_20 : decode cX11_needCell 20 = .ok (.new 376, 3) := by decide +kernel
theorem dX11_needCell_23 : decode cX11_needCell 23 = .ok (.dup, 1) := by decide +kernel
theorem dX11_needCell_24 : decode cX11_needCell 24 = .ok (.ldc_w 378, 3) := by decide +kernel
theorem dX11_needCell_27 : decode cX11_needCell 27 = .ok (.invokespecial 380, 3) := by decide +kernel
theorem dX11_needCell_30 : decode cX11_needCell 30 = .ok (.athrow, 1) := by decide +kernel
theorem dX11_needCell_31 : decode cX11_needCell 31 = .ok (.return_, 1) := by decide +kernel
theorem dX11_needSite_0 : decode cX11_needSite 0 = .ok (.iload_n 1, 1) := by decide +kernel
theorem dX11_needSite_1 : decode cX11_needSite 1 = .ok (.ifCond .lt 20, 3) := by decide +kernel
theorem dX11_needSite_4 : decode cX11_needSite 4 = .ok (.iload_n 1, 1) := by decide +kernel
theorem dX11_needSite_5 : decode cX11_needSite 5 = .ok (.aload_n 0, 1) := by decide +kernel
theorem dX11_needSite_6 : decode cX11_needSite 6 = .ok (.getfield 10, 3) := by decide +kernel
theorem dX11_needSite_9 : decode cX11_needSite 9 = .ok (.getfield 77, 3) := by decide +kernel
theorem dX11_needSite_12 : decode cX11_needSite 12 = .ok (.getfield 87, 3) := by decide +kernel
theorem dX11_needSite_15 : decode cX11_needSite 15 = .ok (.invokevirtual 91, 3) := by decide +kernel
theorem dX11_needSite_18 : decode cX11_needSite 18 = .ok (.if_icmp .lt 14, 3) := by decide +kernel
theorem dX11_needSite_21 : decode cX11_needSite 21 = .ok (.new 376, 3) := by decide +kernel
theorem dX11_needSite_24 : decode cX11_needSite 24 = .ok (.dup, 1) := by decide +kernel
theorem dX11_needSite_25 : decode cX11_needSite 25 = .ok (.ldc_w 381, 3) := by decide +kernel
theorem dX11_needSite_28 : decode cX11_needSite 28 = .ok (.invokespecial 380, 3) := by decide +kernel
theorem dX11_needSite_31 : decode cX11_needSite 31 = .ok (.athrow, 1) := by decide +kernel
theorem dX11_needSite_32 : decode cX11_needSite 32 = .ok (.return_, 1) := by decide +kernel
theorem dX11_needBidder_0 : decode cX11_needBidder 0 = .ok (.iload_n 1, 1) := by decide +kernel
theorem dX11_needBidder_1 : decode cX11_needBidder 1 = .ok (.ifCond .lt 14, 3) := by decide +kernel
theorem dX11_needBidder_4 : decode cX11_needBidder 4 = .ok (.iload_n 1, 1) := by decide +kernel
theorem dX11_needBidder_5 : decode cX11_needBidder 5 = .ok (.aload_n 0, 1) := by decide +kernel
theorem dX11_needBidder_6 : decode cX11_needBidder 6 = .ok (.getfield 47, 3) := by decide +kernel
theorem dX11_needBidder_9 : decode cX11_needBidder 9 = .ok (.getfield 310, 3) := by decide +kernel
theorem dX11_needBidder_12 : decode cX11_needBidder 12 = .ok (.if_icmp .lt 14, 3) := by decide +kernel
theorem dX11_needBidder_15 : decode cX11_needBidder 15 = .ok (.new 376, 3) := by decide +kernel
theorem dX11_needBidder_18 : decode cX11_needBidder 18 = .ok (.dup, 1) := by decide +kernel
theorem dX11_needBidder_19 : decode cX11_needBidder 19 = .ok (.ldc_w 383, 3) := by decide +kernel
theorem dX11_needBidder_22 : decode cX11_needBidder 22 = .ok (.invokespecial 380, 3) := by decide +kernel
theorem dX11_needBidder_25 : decode cX11_needBidder 25 = .ok (.athrow, 1) := by decide +kernel
theorem dX11_needBidder_26 : decode cX11_needBidder 26 = .ok (.return_, 1) := by decide +kernel
theorem dX11_needChannel_0 : decode cX11_needChannel 0 = .ok (.aload_n 0, 1) := by decide +kernel
theorem dX11_needChannel_1 : decode cX11_needChannel 1 = .ok (.iload_n 1, 1) := by decide +kernel
theorem dX11_needChannel_2 : decode cX11_needChannel 2 = .ok (.iconst 0, 1) := by decide +kernel
theorem dX11_needChannel_3 : decode cX11_needChannel 3 = .ok (.bipush 7, 2) := by decide +kernel
theorem dX11_needChannel_5 : decode cX11_needChannel 5 = .ok (.invokevirtual 70, 3) := by decide +kernel
theorem dX11_needChannel_8 : decode cX11_needChannel 8 = .ok (.return_, 1) := by decide +kernel
theorem dX11_needRange_0 : decode cX11_needRange 0 = .ok (.iload_n 1, 1) := by decide +kernel
theorem dX11_needRange_1 : decode cX11_needRange 1 = .ok (.iload_n 2, 1) := by decide +kernel
theorem dX11_needRange_2 : decode cX11_needRange 2 = .ok (.if_icmp .lt 8, 3) := by decide +kernel
theorem dX11_needRange_5 : decode cX11_needRange 5 = .ok (.iload_n 1, 1) := by decide +kernel
theorem dX11_needRange_6 : decode cX11_needRange 6 = .ok (.iload_n 3, 1) := by decide +kernel
theorem dX11_needRange_7 : decode cX11_needRange 7 = .ok (.if_icmp .le 14, 3) := by decide +kernel
theorem dX11_needRange_10 : decode cX11_needRange 10 = .ok (.new 120, 3) := by decide +kernel
theorem dX11_needRange_13 : decode cX11_needRange 13 = .ok (.dup, 1) := by decide +kernel
theorem dX11_needRange_14 : decode cX11_needRange 14 = .ok (.ldc_w 385, 3) := by decide +kernel
theorem dX11_needRange_17 : decode cX11_needRange 17 = .ok (.invokespecial 124, 3) := by decide +kernel
theorem dX11_needRange_20 : decode cX11_needRange 20 = .ok (.athrow, 1) := by decide +kernel
theorem dX11_needRange_21 : decode cX11_needRange 21 = .ok (.return_, 1) := by decide +kernel
theorem dX11_needSilence_0 : decode cX11_needSilence 0 = .ok (.aload_n 0, 1) := by decide +kernel
theorem dX11_needSilence_1 : decode cX11_needSilence 1 = .ok (.getfield 19, 3) := by decide +kernel
theorem dX11_needSilence_4 : decode cX11_needSilence 4 = .ok (.invokevirtual 274, 3) := by decide +kernel
theorem dX11_needSilence_7 : decode cX11_needSilence 7 = .ok (.ifCond .eq 14, 3) := by decide +kernel
theorem dX11_needSilence_10 : decode cX11_needSilence 10 = .ok (.new 97, 3) := by decide +kernel
theorem dX11_needSilence_13 : decode cX11_needSilence 13 = .ok (.dup, 1) := by decide +kernel
theorem dX11_needSilence_14 : decode cX11_needSilence 14 = .ok (.ldc_w 387, 3) := by decide +kernel
theorem dX11_needSilence_17 : decode cX11_needSilence 17 = .ok (.invokespecial 101, 3) := by decide +kernel
theorem dX11_needSilence_20 : decode cX11_needSilence 20 = .ok (.athrow, 1) := by decide +kernel
theorem dX11_needSilence_21 : decode cX11_needSilence 21 = .ok (.return_, 1) := by decide +kernel
theorem dX11_stationAt_0 : decode cX11_stationAt 0 = .ok (.iload_n 1, 1) := by decide +kernel
theorem dX11_stationAt_1 : decode cX11_stationAt 1 = .ok (.ifCond .lt 17, 3) := by decide +kernel
theorem dX11_stationAt_4 : decode cX11_stationAt 4 = .ok (.iload_n 1, 1) := by decide +kernel
theorem dX11_stationAt_5 : decode cX11_stationAt 5 = .ok (.aload_n 0, 1) := by decide +kernel
theorem dX11_stationAt_6 : decode cX11_stationAt 6 = .ok (.getfield 10, 3) := by decide +kernel
theorem dX11_stationAt_9 : decode cX11_stationAt 9 = .ok (.getfield 125, 3) := by decide +kernel
theorem dX11_stationAt_12 : decode cX11_stationAt 12 = .ok (.invokevirtual 91, 3) := by decide +kernel
theorem dX11_stationAt_15 : decode cX11_stationAt 15 = .ok (.if_icmp .lt 14, 3) := by decide +kernel
theorem dX11_stationAt_18 : decode cX11_stationAt 18 = .ok (.new 376, 3) := by decide +kernel
theorem dX11_stationAt_21 : decode cX11_stationAt 21 = .ok (.dup, 1) := by decide +kernel
theorem dX11_stationAt_22 : decode cX11_stationAt 22 = .ok (.ldc_w 389, 3) := by decide +kernel
theorem dX11_stationAt_25 : decode cX11_stationAt 25 = .ok (.invokespecial 380, 3) := by decide +kernel
theorem dX11_stationAt_28 : decode cX11_stationAt 28 = .ok (.athrow, 1) := by decide +kernel
theorem dX11_stationAt_29 : decode cX11_stationAt 29 = .ok (.aload_n 0, 1) := by decide +kernel
theorem dX11_stationAt_30 : decode cX11_stationAt 30 = .ok (.getfield 10, 3) := by decide +kernel
theorem dX11_stationAt_33 : decode cX11_stationAt 33 = .ok (.getfield 125, 3) := by decide +kernel
theorem dX11_stationAt_36 : decode cX11_stationAt 36 = .ok (.iload_n 1, 1) := by decide +kernel
theorem dX11_stationAt_37 : decode cX11_stationAt 37 = .ok (.invokevirtual 361, 3) := by decide +kernel
theorem dX11_stationAt_40 : decode cX11_stationAt 40 = .ok (.checkcast 130, 3) := by decide +kernel
theorem dX11_stationAt_43 : decode cX11_stationAt 43 = .ok (.areturn, 1) := by decide +kernel
theorem dX11_stationOnAir_0 : decode cX11_stationOnAir 0 = .ok (.aload_n 0, 1) := by decide +kernel
theorem dX11_stationOnAir_1 : decode cX11_stationOnAir 1 = .ok (.iload_n 1, 1) := by decide +kernel
theorem dX11_stationOnAir_2 : decode cX11_stationOnAir 2 = .ok (.invokevirtual 143, 3) := by decide +kernel
theorem dX11_stationOnAir_5 : decode cX11_stationOnAir 5 = .ok (.astore_n 2, 1) := by decide +kernel
theorem dX11_stationOnAir_6 : decode cX11_stationOnAir 6 = .ok (.aload_n 0, 1) := by decide +kernel
theorem dX11_stationOnAir_7 : decode cX11_stationOnAir 7 = .ok (.getfield 19, 3) := by decide +kernel
theorem dX11_stationOnAir_10 : decode cX11_stationOnAir 10 = .ok (.getfield 154, 3) := by decide +kernel
theorem dX11_stationOnAir_13 : decode cX11_stationOnAir 13 = .ok (.iload_n 1, 1) := by decide +kernel
theorem dX11_stationOnAir_14 : decode cX11_stationOnAir 14 = .ok (.invokevirtual 226, 3) := by decide +kernel
theorem dX11_stationOnAir_17 : decode cX11_stationOnAir 17 = .ok (.iconst (-1), 1) := by decide +kernel
theorem dX11_stationOnAir_18 : decode cX11_stationOnAir 18 = .ok (.if_icmp .ne 14, 3) := by decide +kernel
theorem dX11_stationOnAir_21 : decode cX11_stationOnAir 21 = .ok (.new 221, 3) := by decide +kernel
theorem dX11_stationOnAir_24 : decode cX11_stationOnAir 24 = .ok (.dup, 1) := by decide +kernel
theorem dX11_stationOnAir_25 : decode cX11_stationOnAir 25 = .ok (.ldc_w 391, 3) := by decide +kernel
theorem dX11_stationOnAir_28 : decode cX11_stationOnAir 28 = .ok (.invokespecial 225, 3) := by decide +kernel
theorem dX11_stationOnAir_31 : decode cX11_stationOnAir 31 = .ok (.athrow, 1) := by decide +kernel
theorem dX11_stationOnAir_32 : decode cX11_stationOnAir 32 = .ok (.aload_n 2, 1) := by decide +kernel
theorem dX11_stationOnAir_33 : decode cX11_stationOnAir 33 = .ok (.areturn, 1) := by decide +kernel
theorem dX11_silenceSecondaries_0 : decode cX11_silenceSecondaries 0 = .ok (.iconst 0, 1) := by decide +kernel
theorem dX11_silenceSecondaries_1 : decode cX11_silenceSecondaries 1 = .ok (.istore_n 2, 1) := by decide +kernel
theorem dX11_silenceSecondaries_2 : decode cX11_silenceSecondaries 2 = .ok (.aload_n 0, 1) := by decide +kernel
theorem dX11_silenceSecondaries_3 : decode cX11_silenceSecondaries 3 = .ok (.getfield 10, 3) := by decide +kernel
theorem dX11_silenceSecondaries_6 : decode cX11_silenceSecondaries 6 = .ok (.getfield 125, 3) := by decide +kernel
theorem dX11_silenceSecondaries_9 : decode cX11_silenceSecondaries 9 = .ok (.invokevirtual 91, 3) := by decide +kernel
theorem dX11_silenceSecondaries_12 : decode cX11_silenceSecondaries 12 = .ok (.iconst 1, 1) := by decide +kernel
theorem dX11_silenceSecondaries_13 : decode cX11_silenceSecondaries 13 = .ok (.isub, 1) := by decide +kernel
theorem dX11_silenceSecondaries_14 : decode cX11_silenceSecondaries 14 = .ok (.istore_n 3, 1) := by decide +kernel
theorem dX11_silenceSecondaries_15 : decode cX11_silenceSecondaries 15 = .ok (.iload_n 3, 1) := by decide +kernel
theorem dX11_silenceSecondaries_16 : decode cX11_silenceSecondaries 16 = .ok (.ifCond .lt 97, 3) := by decide +kernel
theorem dX11_silenceSecondaries_19 : decode cX11_silenceSecondaries 19 = .ok (.aload_n 0, 1) := by decide +kernel
theorem dX11_silenceSecondaries_20 : decode cX11_silenceSecondaries 20 = .ok (.getfield 10, 3) := by decide +kernel
theorem dX11_silenceSecondaries_23 : decode cX11_silenceSecondaries 23 = .ok (.getfield 125, 3) := by decide +kernel
theorem dX11_silenceSecondaries_26 : decode cX11_silenceSecondaries 26 = .ok (.iload_n 3, 1) := by decide +kernel
theorem dX11_silenceSecondaries_27 : decode cX11_silenceSecondaries 27 = .ok (.invokevirtual 361, 3) := by decide +kernel
theorem dX11_silenceSecondaries_30 : decode cX11_silenceSecondaries 30 = .ok (.checkcast 130, 3) := by decide +kernel
theorem dX11_silenceSecondaries_33 : decode cX11_silenceSecondaries 33 = .ok (.astore 4, 2) := by decide +kernel
theorem dX11_silenceSecondaries_35 : decode cX11_silenceSecondaries 35 = .ok (.aload_n 0, 1) := by decide +kernel
theorem dX11_silenceSecondaries_36 : decode cX11_silenceSecondaries 36 = .ok (.getfield 63, 3) := by decide +kernel
theorem dX11_silenceSecondaries_39 : decode cX11_silenceSecondaries 39 = .ok (.iload_n 3, 1) := by decide +kernel
theorem dX11_silenceSecondaries_40 : decode cX11_silenceSecondaries 40 = .ok (.invokevirtual 226, 3) := by decide +kernel
theorem dX11_silenceSecondaries_43 : decode cX11_silenceSecondaries 43 = .ok (.aload_n 0, 1) := by decide +kernel
theorem dX11_silenceSecondaries_44 : decode cX11_silenceSecondaries 44 = .ok (.getfield 63, 3) := by decide +kernel
theorem dX11_silenceSecondaries_47 : decode cX11_silenceSecondaries 47 = .ok (.aload_n 1, 1) := by decide +kernel
theorem dX11_silenceSecondaries_48 : decode cX11_silenceSecondaries 48 = .ok (.getfield 232, 3) := by decide +kernel
theorem dX11_silenceSecondaries_51 : decode cX11_silenceSecondaries 51 = .ok (.invokevirtual 226, 3) := by decide +kernel
theorem dX11_silenceSecondaries_54 : decode cX11_silenceSecondaries 54 = .ok (.isub, 1) := by decide +kernel
theorem dX11_silenceSecondaries_55 : decode cX11_silenceSecondaries 55 = .ok (.invokestatic 176, 3) := by decide +kernel
theorem dX11_silenceSecondaries_58 : decode cX11_silenceSecondaries 58 = .ok (.istore 5, 2) := by decide +kernel
theorem dX11_silenceSecondaries_60 : decode cX11_silenceSecondaries 60 = .ok (.aload 4, 2) := by decide +kernel
theorem dX11_silenceSecondaries_62 : decode cX11_silenceSecondaries 62 = .ok (.getfield 210, 3) := by decide +kernel
theorem dX11_silenceSecondaries_65 : decode cX11_silenceSecondaries 65 = .ok (.ifCond .ne 42, 3) := by decide +kernel
theorem dX11_silenceSecondaries_68 : decode cX11_silenceSecondaries 68 = .ok (.aload_n 0, 1) := by decide +kernel
theorem dX11_silenceSecondaries_69 : decode cX11_silenceSecondaries 69 = .ok (.getfield 63, 3) := by decide +kernel
theorem dX11_silenceSecondaries_72 : decode cX11_silenceSecondaries 72 = .ok (.iload_n 3, 1) := by decide +kernel
theorem dX11_silenceSecondaries_73 : decode cX11_silenceSecondaries 73 = .ok (.invokevirtual 226, 3) := by decide +kernel
theorem dX11_silenceSecondaries_76 : decode cX11_silenceSecondaries 76 = .ok (.iconst (-1), 1) := by decide +kernel
theorem dX11_silenceSecondaries_77 : decode cX11_silenceSecondaries 77 = .ok (.if_icmp .eq 30, 3) := by decide +kernel
theorem dX11_silenceSecondaries_80 : decode cX11_silenceSecondaries 80 = .ok (.aload_n 0, 1) := by decide +kernel
theorem dX11_silenceSecondaries_81 : decode cX11_silenceSecondaries 81 = .ok (.getfield 10, 3) := by decide +kernel
theorem dX11_silenceSecondaries_84 : decode cX11_silenceSecondaries 84 = .ok (.aload_n 1, 1) := by decide +kernel
theorem dX11_silenceSecondaries_85 : decode cX11_silenceSecondaries 85 = .ok (.aload 4, 2) := by decide +kernel
theorem dX11_silenceSecondaries_87 : decode cX11_silenceSecondaries 87 = .ok (.iload 5, 2) := by decide +kernel
theorem dX11_silenceSecondaries_89 : decode cX11_silenceSecondaries 89 = .ok (.invokevirtual 182, 3) := by decide +kernel
theorem dX11_silenceSecondaries_92 : decode cX11_silenceSecondaries 92 = .ok (.ifCond .eq 15, 3) := by decide +kernel
theorem dX11_silenceSecondaries_95 : decode cX11_silenceSecondaries 95 = .ok (.aload_n 0, 1) := by decide +kernel
theorem dX11_silenceSecondaries_96 : decode cX11_silenceSecondaries 96 = .ok (.getfield 63, 3) := by decide +kernel
theorem dX11_silenceSecondaries_99 : decode cX11_silenceSecondaries 99 = .ok (.iload_n 3, 1) := by decide +kernel
theorem dX11_silenceSecondaries_100 : decode cX11_silenceSecondaries 100 = .ok (.iconst (-1), 1) := by decide +kernel
theorem dX11_silenceSecondaries_101 : decode cX11_silenceSecondaries 101 = .ok (.invokevirtual 207, 3) := by decide +kernel
theorem dX11_silenceSecondaries_104 : decode cX11_silenceSecondaries 104 = .ok (.iinc 2 1, 3) := by decide +kernel
theorem dX11_silenceSecondaries_107 : decode cX11_silenceSecondaries 107 = .ok (.iinc 3 (-1), 3) := by decide +kernel
theorem dX11_silenceSecondaries_110 : decode cX11_silenceSecondaries 110 = .ok (.goto (-95), 3) := by decide +kernel
theorem dX11_silenceSecondaries_113 : decode cX11_silenceSecondaries 113 = .ok (.iload_n 2, 1) := by decide +kernel
theorem dX11_silenceSecondaries_114 : decode cX11_silenceSecondaries 114 = .ok (.ireturn, 1) := by decide +kernel
theorem dX11_isIn_0 : decode cX11_isIn 0 = .ok (.iload_n 1, 1) := by decide +kernel
theorem dX11_isIn_1 : decode cX11_isIn 1 = .ok (.iload_n 0, 1) := by decide +kernel
theorem dX11_isIn_2 : decode cX11_isIn 2 = .ok (.ishr, 1) := by decide +kernel
theorem dX11_isIn_3 : decode cX11_isIn 3 = .ok (.iconst 1, 1) := by decide +kernel
theorem dX11_isIn_4 : decode cX11_isIn 4 = .ok (.iand, 1) := by decide +kernel
theorem dX11_isIn_5 : decode cX11_isIn 5 = .ok (.iconst 1, 1) := by decide +kernel
theorem dX11_isIn_6 : decode cX11_isIn 6 = .ok (.if_icmp .ne 7, 3) := by decide +kernel
theorem dX11_isIn_9 : decode cX11_isIn 9 = .ok (.iconst 1, 1) := by decide +kernel
theorem dX11_isIn_10 : decode cX11_isIn 10 = .ok (.goto 4, 3) := by decide +kernel
theorem dX11_isIn_13 : decode cX11_isIn 13 = .ok (.iconst 0, 1) := by decide +kernel
theorem dX11_isIn_14 : decode cX11_isIn 14 = .ok (.ireturn, 1) := by decide +kernel
theorem dJx00060_init_a7421_0 : decode cJx00060_init_a7421 0 = .ok (.aload_n 0, 1) := by decide +kernel
theorem dJx00060_init_a7421_1 : decode cJx00060_init_a7421 1 = .ok (.aload_n 1, 1) := by decide +kernel
theorem dJx00060_init_a7421_2 : decode cJx00060_init_a7421 2 = .ok (.invokespecial 7, 3) := by decide +kernel
theorem dJx00060_init_a7421_5 : decode cJx00060_init_a7421 5 = .ok (.return_, 1) := by decide +kernel
theorem dJ6_bitCount_0f7a4_0 : decode cJ6_bitCount_0f7a4 0 = .ok (.iload_n 0, 1) := by decide +kernel
theorem dJ6_bitCount_0f7a4_1 : decode cJ6_bitCount_0f7a4 1 = .ok (.iload_n 0, 1) := by decide +kernel
theorem dJ6_bitCount_0f7a4_2 : decode cJ6_bitCount_0f7a4 2 = .ok (.iconst 1, 1) := by decide +kernel
theorem dJ6_bitCount_0f7a4_3 : decode cJ6_bitCount_0f7a4 3 = .ok (.iushr, 1) := by decide +kernel
theorem dJ6_bitCount_0f7a4_4 : decode cJ6_bitCount_0f7a4 4 = .ok (.ldc_w 265, 3) := by decide +kernel
theorem dJ6_bitCount_0f7a4_7 : decode cJ6_bitCount_0f7a4 7 = .ok (.iand, 1) := by decide +kernel
theorem dJ6_bitCount_0f7a4_8 : decode cJ6_bitCount_0f7a4 8 = .ok (.isub, 1) := by decide +kernel
theorem dJ6_bitCount_0f7a4_9 : decode cJ6_bitCount_0f7a4 9 = .ok (.istore_n 0, 1) := by decide +kernel
theorem dJ6_bitCount_0f7a4_10 : decode cJ6_bitCount_0f7a4 10 = .ok (.iload_n 0, 1) := by decide +kernel
theorem dJ6_bitCount_0f7a4_11 : decode cJ6_bitCount_0f7a4 11 = .ok (.ldc_w 266, 3) := by decide +kernel
theorem dJ6_bitCount_0f7a4_14 : decode cJ6_bitCount_0f7a4 14 = .ok (.iand, 1) := by decide +kernel
theorem dJ6_bitCount_0f7a4_15 : decode cJ6_bitCount_0f7a4 15 = .ok (.iload_n 0, 1) := by decide +kernel
theorem dJ6_bitCount_0f7a4_16 : decode cJ6_bitCount_0f7a4 16 = .ok (.iconst 2, 1) := by decide +kernel
theorem dJ6_bitCount_0f7a4_17 : decode cJ6_bitCount_0f7a4 17 = .ok (.iushr, 1) := by decide +kernel
theorem dJ6_bitCount_0f7a4_18 : decode cJ6_bitCount_0f7a4 18 = .ok (.ldc_w 266, 3) := by decide +kernel
theorem dJ6_bitCount_0f7a4_21 : decode cJ6_bitCount_0f7a4 21 = .ok (.iand, 1) := by decide +kernel
theorem dJ6_bitCount_0f7a4_22 : decode cJ6_bitCount_0f7a4 22 = .ok (.iadd, 1) := by decide +kernel
theorem dJ6_bitCount_0f7a4_23 : decode cJ6_bitCount_0f7a4 23 = .ok (.istore_n 0, 1) := by decide +kernel
theorem dJ6_bitCount_0f7a4_24 : decode cJ6_bitCount_0f7a4 24 = .ok (.iload_n 0, 1) := by decide +kernel
theorem dJ6_bitCount_0f7a4_25 : decode cJ6_bitCount_0f7a4 25 = .ok (.iload_n 0, 1) := by decide +kernel
theorem dJ6_bitCount_0f7a4_26 : decode cJ6_bitCount_0f7a4 26 = .ok (.iconst 4, 1) := by decide +kernel
theorem dJ6_bitCount_0f7a4_27 : decode cJ6_bitCount_0f7a4 27 = .ok (.iushr, 1) := by decide +kernel
theorem dJ6_bitCount_0f7a4_28 : decode cJ6_bitCount_0f7a4 28 = .ok (.iadd, 1) := by decide +kernel
theorem dJ6_bitCount_0f7a4_29 : decode cJ6_bitCount_0f7a4 29 = .ok (.ldc_w 267, 3) := by decide +kernel
theorem dJ6_bitCount_0f7a4_32 : decode cJ6_bitCount_0f7a4 32 = .ok (.iand, 1) := by decide +kernel
theorem dJ6_bitCount_0f7a4_33 : decode cJ6_bitCount_0f7a4 33 = .ok (.istore_n 0, 1) := by decide +kernel
theorem dJ6_bitCount_0f7a4_34 : decode cJ6_bitCount_0f7a4 34 = .ok (.iload_n 0, 1) := by decide +kernel
theorem dJ6_bitCount_0f7a4_35 : decode cJ6_bitCount_0f7a4 35 = .ok (.iload_n 0, 1) := by decide +kernel
theorem dJ6_bitCount_0f7a4_36 : decode cJ6_bitCount_0f7a4 36 = .ok (.bipush 8, 2) := by decide +kernel
theorem dJ6_bitCount_0f7a4_38 : decode cJ6_bitCount_0f7a4 38 = .ok (.iushr, 1) := by decide +kernel
theorem dJ6_bitCount_0f7a4_39 : decode cJ6_bitCount_0f7a4 39 = .ok (.iadd, 1) := by decide +kernel
theorem dJ6_bitCount_0f7a4_40 : decode cJ6_bitCount_0f7a4 40 = .ok (.istore_n 0, 1) := by decide +kernel
theorem dJ6_bitCount_0f7a4_41 : decode cJ6_bitCount_0f7a4 41 = .ok (.iload_n 0, 1) := by decide +kernel
theorem dJ6_bitCount_0f7a4_42 : decode cJ6_bitCount_0f7a4 42 = .ok (.iload_n 0, 1) := by decide +kernel
theorem dJ6_bitCount_0f7a4_43 : decode cJ6_bitCount_0f7a4 43 = .ok (.bipush 16, 2) := by decide +kernel
theorem dJ6_bitCount_0f7a4_45 : decode cJ6_bitCount_0f7a4 45 = .ok (.iushr, 1) := by decide +kernel
theorem dJ6_bitCount_0f7a4_46 : decode cJ6_bitCount_0f7a4 46 = .ok (.iadd, 1) := by decide +kernel
theorem dJ6_bitCount_0f7a4_47 : decode cJ6_bitCount_0f7a4 47 = .ok (.istore_n 0, 1) := by decide +kernel
theorem dJ6_bitCount_0f7a4_48 : decode cJ6_bitCount_0f7a4 48 = .ok (.iload_n 0, 1) := by decide +kernel
theorem dJ6_bitCount_0f7a4_49 : decode cJ6_bitCount_0f7a4 49 = .ok (.bipush 63, 2) := by decide +kernel
theorem dJ6_bitCount_0f7a4_51 : decode cJ6_bitCount_0f7a4 51 = .ok (.iand, 1) := by decide +kernel
theorem dJ6_bitCount_0f7a4_52 : decode cJ6_bitCount_0f7a4 52 = .ok (.ireturn, 1) := by decide +kernel
theorem dJ9_floorDiv_7cf53_0 : decode cJ9_floorDiv_7cf53 0 = .ok (.iload_n 0, 1) := by decide +kernel
theorem dJ9_floorDiv_7cf53_1 : decode cJ9_floorDiv_7cf53 1 = .ok (.iload_n 1, 1) := by decide +kernel
theorem dJ9_floorDiv_7cf53_2 : decode cJ9_floorDiv_7cf53 2 = .ok (.idiv, 1) := by decide +kernel
theorem dJ9_floorDiv_7cf53_3 : decode cJ9_floorDiv_7cf53 3 = .ok (.istore_n 2, 1) := by decide +kernel
theorem dJ9_floorDiv_7cf53_4 : decode cJ9_floorDiv_7cf53 4 = .ok (.iload_n 0, 1) := by decide +kernel
theorem dJ9_floorDiv_7cf53_5 : decode cJ9_floorDiv_7cf53 5 = .ok (.iload_n 1, 1) := by decide +kernel
theorem dJ9_floorDiv_7cf53_6 : decode cJ9_floorDiv_7cf53 6 = .ok (.ixor, 1) := by decide +kernel
theorem dJ9_floorDiv_7cf53_7 : decode cJ9_floorDiv_7cf53 7 = .ok (.ifCond .ge 14, 3) := by decide +kernel
theorem dJ9_floorDiv_7cf53_10 : decode cJ9_floorDiv_7cf53 10 = .ok (.iload_n 2, 1) := by decide +kernel
theorem dJ9_floorDiv_7cf53_11 : decode cJ9_floorDiv_7cf53 11 = .ok (.iload_n 1, 1) := by decide +kernel
theorem dJ9_floorDiv_7cf53_12 : decode cJ9_floorDiv_7cf53 12 = .ok (.imul, 1) := by decide +kernel
theorem dJ9_floorDiv_7cf53_13 : decode cJ9_floorDiv_7cf53 13 = .ok (.iload_n 0, 1) := by decide +kernel
theorem dJ9_floorDiv_7cf53_14 : decode cJ9_floorDiv_7cf53 14 = .ok (.if_icmp .eq 7, 3) := by decide +kernel
theorem dJ9_floorDiv_7cf53_17 : decode cJ9_floorDiv_7cf53 17 = .ok (.iload_n 2, 1) := by decide +kernel
theorem dJ9_floorDiv_7cf53_18 : decode cJ9_floorDiv_7cf53 18 = .ok (.iconst 1, 1) := by decide +kernel
theorem dJ9_floorDiv_7cf53_19 : decode cJ9_floorDiv_7cf53 19 = .ok (.isub, 1) := by decide +kernel
theorem dJ9_floorDiv_7cf53_20 : decode cJ9_floorDiv_7cf53 20 = .ok (.ireturn, 1) := by decide +kernel
theorem dJ9_floorDiv_7cf53_21 : decode cJ9_floorDiv_7cf53 21 = .ok (.iload_n 2, 1) := by decide +kernel
theorem dJ9_floorDiv_7cf53_22 : decode cJ9_floorDiv_7cf53 22 = .ok (.ireturn, 1) := by decide +kernel
theorem dJ9_abs_0f7a4_0 : decode cJ9_abs_0f7a4 0 = .ok (.iload_n 0, 1) := by decide +kernel
theorem dJ9_abs_0f7a4_1 : decode cJ9_abs_0f7a4 1 = .ok (.ifCond .ge 8, 3) := by decide +kernel
theorem dJ9_abs_0f7a4_4 : decode cJ9_abs_0f7a4 4 = .ok (.iload_n 0, 1) := by decide +kernel
theorem dJ9_abs_0f7a4_5 : decode cJ9_abs_0f7a4 5 = .ok (.ineg, 1) := by decide +kernel
theorem dJ9_abs_0f7a4_6 : decode cJ9_abs_0f7a4 6 = .ok (.goto 4, 3) := by decide +kernel
theorem dJ9_abs_0f7a4_9 : decode cJ9_abs_0f7a4 9 = .ok (.iload_n 0, 1) := by decide +kernel
theorem dJ9_abs_0f7a4_10 : decode cJ9_abs_0f7a4 10 = .ok (.ireturn, 1) := by decide +kernel
theorem dJ9_max_7cf53_0 : decode cJ9_max_7cf53 0 = .ok (.iload_n 0, 1) := by decide +kernel
theorem dJ9_max_7cf53_1 : decode cJ9_max_7cf53 1 = .ok (.iload_n 1, 1) := by decide +kernel
theorem dJ9_max_7cf53_2 : decode cJ9_max_7cf53 2 = .ok (.if_icmp .lt 7, 3) := by decide +kernel
theorem dJ9_max_7cf53_5 : decode cJ9_max_7cf53 5 = .ok (.iload_n 0, 1) := by decide +kernel
theorem dJ9_max_7cf53_6 : decode cJ9_max_7cf53 6 = .ok (.goto 4, 3) := by decide +kernel
theorem dJ9_max_7cf53_9 : decode cJ9_max_7cf53 9 = .ok (.iload_n 1, 1) := by decide +kernel
theorem dJ9_max_7cf53_10 : decode cJ9_max_7cf53 10 = .ok (.ireturn, 1) := by decide +kernel
theorem dJ9_min_7cf53_0 : decode cJ9_min_7cf53 0 = .ok (.iload_n 0, 1) := by decide +kernel
theorem dJ9_min_7cf53_1 : decode cJ9_min_7cf53 1 = .ok (.iload_n 1, 1) := by decide +kernel
theorem dJ9_min_7cf53_2 : decode cJ9_min_7cf53 2 = .ok (.if_icmp .gt 7, 3) := by decide +kernel
theorem dJ9_min_7cf53_5 : decode cJ9_min_7cf53 5 = .ok (.iload_n 0, 1) := by decide +kernel
theorem dJ9_min_7cf53_6 : decode cJ9_min_7cf53 6 = .ok (.goto 4, 3) := by decide +kernel
theorem dJ9_min_7cf53_9 : decode cJ9_min_7cf53 9 = .ok (.iload_n 1, 1) := by decide +kernel
theorem dJ9_min_7cf53_10 : decode cJ9_min_7cf53 10 = .ok (.ireturn, 1) := by decide +kernel
theorem dJxa1e45_init_da8c8_0 : decode cJxa1e45_init_da8c8 0 = .ok (.aload_n 0, 1) := by decide +kernel
theorem dJxa1e45_init_da8c8_1 : decode cJxa1e45_init_da8c8 1 = .ok (.invokespecial 1, 3) := by decide +kernel
theorem dJxa1e45_init_da8c8_4 : decode cJxa1e45_init_da8c8 4 = .ok (.return_, 1) := by decide +kernel
theorem dJxc12de_init_da8c8_0 : decode cJxc12de_init_da8c8 0 = .ok (.aload_n 0, 1) := by decide +kernel
theorem dJxc12de_init_da8c8_1 : decode cJxc12de_init_da8c8 1 = .ok (.invokespecial 1, 3) := by decide +kernel
theorem dJxc12de_init_da8c8_4 : decode cJxc12de_init_da8c8 4 = .ok (.aload_n 0, 1) := by decide +kernel
theorem dJxc12de_init_da8c8_5 : decode cJxc12de_init_da8c8 5 = .ok (.iconst 0, 1) := by decide +kernel
theorem dJxc12de_init_da8c8_6 : decode cJxc12de_init_da8c8 6 = .ok (.putfield 7, 3) := by decide +kernel
theorem dJxc12de_init_da8c8_9 : decode cJxc12de_init_da8c8 9 = .ok (.return_, 1) := by decide +kernel
theorem dJx4a65c_init_da8c8_0 : decode cJx4a65c_init_da8c8 0 = .ok (.aload_n 0, 1) := by decide +kernel
theorem dJx4a65c_init_da8c8_1 : decode cJx4a65c_init_da8c8 1 = .ok (.invokespecial 1, 3) := by decide +kernel
theorem dJx4a65c_init_da8c8_4 : decode cJx4a65c_init_da8c8 4 = .ok (.aload_n 0, 1) := by decide +kernel
theorem dJx4a65c_init_da8c8_5 : decode cJx4a65c_init_da8c8 5 = .ok (.getstatic 39, 3) := by decide +kernel
theorem dJx4a65c_init_da8c8_8 : decode cJx4a65c_init_da8c8 8 = .ok (.putfield 9, 3) := by decide +kernel
theorem dJx4a65c_init_da8c8_11 : decode cJx4a65c_init_da8c8 11 = .ok (.return_, 1) := by decide +kernel
theorem dJx4a65c_grow_92f84_0 : decode cJx4a65c_grow_92f84 0 = .ok (.aload_n 0, 1) := by decide +kernel
theorem dJx4a65c_grow_92f84_1 : decode cJx4a65c_grow_92f84 1 = .ok (.getfield 9, 3) := by decide +kernel
theorem dJx4a65c_grow_92f84_4 : decode cJx4a65c_grow_92f84 4 = .ok (.arraylength, 1) := by decide +kernel
theorem dJx4a65c_grow_92f84_5 : decode cJx4a65c_grow_92f84 5 = .ok (.istore_n 2, 1) := by decide +kernel
theorem dJx4a65c_grow_92f84_6 : decode cJx4a65c_grow_92f84 6 = .ok (.iload_n 2, 1) := by decide +kernel
theorem dJx4a65c_grow_92f84_7 : decode cJx4a65c_grow_92f84 7 = .ok (.ifCond .gt 13, 3) := by decide +kernel
theorem dJx4a65c_grow_92f84_10 : decode cJx4a65c_grow_92f84 10 = .ok (.aload_n 0, 1) := by decide +kernel
theorem dJx4a65c_grow_92f84_11 : decode cJx4a65c_grow_92f84 11 = .ok (.getfield 9, 3) := by decide +kernel
theorem dJx4a65c_grow_92f84_14 : decode cJx4a65c_grow_92f84 14 = .ok (.getstatic 39, 3) := by decide +kernel
theorem dJx4a65c_grow_92f84_17 : decode cJx4a65c_grow_92f84 17 = .ok (.if_acmp .eq 28, 3) := by decide +kernel
theorem dJx4a65c_grow_92f84_20 : decode cJx4a65c_grow_92f84 20 = .ok (.iload_n 2, 1) := by decide +kernel
theorem dJx4a65c_grow_92f84_21 : decode cJx4a65c_grow_92f84 21 = .ok (.iload_n 1, 1) := by decide +kernel
theorem dJx4a65c_grow_92f84_22 : decode cJx4a65c_grow_92f84 22 = .ok (.iload_n 2, 1) := by decide +kernel
theorem dJx4a65c_grow_92f84_23 : decode cJx4a65c_grow_92f84 23 = .ok (.isub, 1) := by decide +kernel
theorem dJx4a65c_grow_92f84_24 : decode cJx4a65c_grow_92f84 24 = .ok (.iload_n 2, 1) := by decide +kernel
theorem dJx4a65c_grow_92f84_25 : decode cJx4a65c_grow_92f84 25 = .ok (.iconst 1, 1) := by decide +kernel
theorem dJx4a65c_grow_92f84_26 : decode cJx4a65c_grow_92f84 26 = .ok (.ishr, 1) := by decide +kernel
theorem dJx4a65c_grow_92f84_27 : decode cJx4a65c_grow_92f84 27 = .ok (.invokestatic 73, 3) := by decide +kernel
theorem dJx4a65c_grow_92f84_30 : decode cJx4a65c_grow_92f84 30 = .ok (.istore_n 3, 1) := by decide +kernel
theorem dJx4a65c_grow_92f84_31 : decode cJx4a65c_grow_92f84 31 = .ok (.aload_n 0, 1) := by decide +kernel
theorem dJx4a65c_grow_92f84_32 : decode cJx4a65c_grow_92f84 32 = .ok (.aload_n 0, 1) := by decide +kernel
theorem dJx4a65c_grow_92f84_33 : decode cJx4a65c_grow_92f84 33 = .ok (.getfield 9, 3) := by decide +kernel
theorem dJx4a65c_grow_92f84_36 : decode cJx4a65c_grow_92f84 36 = .ok (.iload_n 3, 1) := by decide +kernel
theorem dJx4a65c_grow_92f84_37 : decode cJx4a65c_grow_92f84 37 = .ok (.invokestatic 66, 3) := by decide +kernel
theorem dJx4a65c_grow_92f84_40 : decode cJx4a65c_grow_92f84 40 = .ok (.dup_x1, 1) := by decide +kernel
theorem dJx4a65c_grow_92f84_41 : decode cJx4a65c_grow_92f84 41 = .ok (.putfield 9, 3) := by decide +kernel
theorem dJx4a65c_grow_92f84_44 : decode cJx4a65c_grow_92f84 44 = .ok (.areturn, 1) := by decide +kernel
theorem dJx4a65c_grow_92f84_45 : decode cJx4a65c_grow_92f84 45 = .ok (.aload_n 0, 1) := by decide +kernel
theorem dJx4a65c_grow_92f84_46 : decode cJx4a65c_grow_92f84 46 = .ok (.bipush 10, 2) := by decide +kernel
theorem dJx4a65c_grow_92f84_48 : decode cJx4a65c_grow_92f84 48 = .ok (.iload_n 1, 1) := by decide +kernel
theorem dJx4a65c_grow_92f84_49 : decode cJx4a65c_grow_92f84 49 = .ok (.invokestatic 79, 3) := by decide +kernel
theorem dJx4a65c_grow_92f84_52 : decode cJx4a65c_grow_92f84 52 = .ok (.anewarray 7, 3) := by decide +kernel
theorem dJx4a65c_grow_92f84_55 : decode cJx4a65c_grow_92f84 55 = .ok (.dup_x1, 1) := by decide +kernel
theorem dJx4a65c_grow_92f84_56 : decode cJx4a65c_grow_92f84 56 = .ok (.putfield 9, 3) := by decide +kernel
theorem dJx4a65c_grow_92f84_59 : decode cJx4a65c_grow_92f84 59 = .ok (.areturn, 1) := by decide +kernel
theorem dJx4a65c_grow_d5877_0 : decode cJx4a65c_grow_d5877 0 = .ok (.aload_n 0, 1) := by decide +kernel
theorem dJx4a65c_grow_d5877_1 : decode cJx4a65c_grow_d5877 1 = .ok (.aload_n 0, 1) := by decide +kernel
theorem dJx4a65c_grow_d5877_2 : decode cJx4a65c_grow_d5877 2 = .ok (.getfield 48, 3) := by decide +kernel
theorem dJx4a65c_grow_d5877_5 : decode cJx4a65c_grow_d5877 5 = .ok (.iconst 1, 1) := by decide +kernel
theorem dJx4a65c_grow_d5877_6 : decode cJx4a65c_grow_d5877 6 = .ok (.iadd, 1) := by decide +kernel
theorem dJx4a65c_grow_d5877_7 : decode cJx4a65c_grow_d5877 7 = .ok (.invokevirtual 69, 3) := by decide +kernel
theorem dJx4a65c_grow_d5877_10 : decode cJx4a65c_grow_d5877 10 = .ok (.areturn, 1) := by decide +kernel
theorem dJx4a65c_size_8abf5_0 : decode cJx4a65c_size_8abf5 0 = .ok (.aload_n 0, 1) := by decide +kernel
theorem dJx4a65c_size_8abf5_1 : decode cJx4a65c_size_8abf5 1 = .ok (.getfield 48, 3) := by decide +kernel
theorem dJx4a65c_size_8abf5_4 : decode cJx4a65c_size_8abf5 4 = .ok (.ireturn, 1) := by decide +kernel
theorem dJx4a65c_elementData_915e3_0 : decode cJx4a65c_elementData_915e3 0 = .ok (.aload_n 0, 1) := by decide +kernel
theorem dJx4a65c_elementData_915e3_1 : decode cJx4a65c_elementData_915e3 1 = .ok (.getfield 9, 3) := by decide +kernel
theorem dJx4a65c_elementData_915e3_4 : decode cJx4a65c_elementData_915e3 4 = .ok (.iload_n 1, 1) := by decide +kernel
theorem dJx4a65c_elementData_915e3_5 : decode cJx4a65c_elementData_915e3 5 = .ok (.aaload, 1) := by decide +kernel
theorem dJx4a65c_elementData_915e3_6 : decode cJx4a65c_elementData_915e3 6 = .ok (.areturn, 1) := by decide +kernel
theorem dJx4a65c_get_915e3_0 : decode cJx4a65c_get_915e3 0 = .ok (.iload_n 1, 1) := by decide +kernel
theorem dJx4a65c_get_915e3_1 : decode cJx4a65c_get_915e3 1 = .ok (.aload_n 0, 1) := by decide +kernel
theorem dJx4a65c_get_915e3_2 : decode cJx4a65c_get_915e3 2 = .ok (.getfield 48, 3) := by decide +kernel
theorem dJx4a65c_get_915e3_5 : decode cJx4a65c_get_915e3 5 = .ok (.invokestatic 118, 3) := by decide +kernel
theorem dJx4a65c_get_915e3_8 : decode cJx4a65c_get_915e3 8 = .ok (.pop, 1) := by decide +kernel
theorem dJx4a65c_get_915e3_9 : decode cJx4a65c_get_915e3 9 = .ok (.aload_n 0, 1) := by decide +kernel
theorem dJx4a65c_get_915e3_10 : decode cJx4a65c_get_915e3 10 = .ok (.iload_n 1, 1) := by decide +kernel
theorem dJx4a65c_get_915e3_11 : decode cJx4a65c_get_915e3 11 = .ok (.invokevirtual 123, 3) := by decide +kernel
theorem dJx4a65c_get_915e3_14 : decode cJx4a65c_get_915e3 14 = .ok (.areturn, 1) := by decide +kernel
theorem dJx4a65c_add_72be8_0 : decode cJx4a65c_add_72be8 0 = .ok (.iload_n 3, 1) := by decide +kernel
theorem dJx4a65c_add_72be8_1 : decode cJx4a65c_add_72be8 1 = .ok (.aload_n 2, 1) := by decide +kernel
theorem dJx4a65c_add_72be8_2 : decode cJx4a65c_add_72be8 2 = .ok (.arraylength, 1) := by decide +kernel
theorem dJx4a65c_add_72be8_3 : decode cJx4a65c_add_72be8 3 = .ok (.if_icmp .ne 8, 3) := by decide +kernel
theorem dJx4a65c_add_72be8_6 : decode cJx4a65c_add_72be8 6 = .ok (.aload_n 0, 1) := by decide +kernel
theorem dJx4a65c_add_72be8_7 : decode cJx4a65c_add_72be8 7 = .ok (.invokevirtual 129, 3) := by decide +kernel
theorem dJx4a65c_add_72be8_10 : decode cJx4a65c_add_72be8 10 = .ok (.astore_n 2, 1) := by decide +kernel
theorem dJx4a65c_add_72be8_11 : decode cJx4a65c_add_72be8 11 = .ok (.aload_n 2, 1) := by decide +kernel
theorem dJx4a65c_add_72be8_12 : decode cJx4a65c_add_72be8 12 = .ok (.iload_n 3, 1) := by decide +kernel
theorem dJx4a65c_add_72be8_13 : decode cJx4a65c_add_72be8 13 = .ok (.aload_n 1, 1) := by decide +kernel
theorem dJx4a65c_add_72be8_14 : decode cJx4a65c_add_72be8 14 = .ok (.aastore, 1) := by decide +kernel
theorem dJx4a65c_add_72be8_15 : decode cJx4a65c_add_72be8 15 = .ok (.aload_n 0, 1) := by decide +kernel
theorem dJx4a65c_add_72be8_16 : decode cJx4a65c_add_72be8 16 = .ok (.iload_n 3, 1) := by decide +kernel
theorem dJx4a65c_add_72be8_17 : decode cJx4a65c_add_72be8 17 = .ok (.iconst 1, 1) := by decide +kernel
theorem dJx4a65c_add_72be8_18 : decode cJx4a65c_add_72be8 18 = .ok (.iadd, 1) := by decide +kernel
theorem dJx4a65c_add_72be8_19 : decode cJx4a65c_add_72be8 19 = .ok (.putfield 48, 3) := by decide +kernel
theorem dJx4a65c_add_72be8_22 : decode cJx4a65c_add_72be8 22 = .ok (.return_, 1) := by decide +kernel
theorem dJx4a65c_add_9ea2d_0 : decode cJx4a65c_add_9ea2d 0 = .ok (.aload_n 0, 1) := by decide +kernel
theorem dJx4a65c_add_9ea2d_1 : decode cJx4a65c_add_9ea2d 1 = .ok (.dup, 1) := by decide +kernel
theorem dJx4a65c_add_9ea2d_2 : decode cJx4a65c_add_9ea2d 2 = .ok (.getfield 63, 3) := by decide +kernel
theorem dJx4a65c_add_9ea2d_5 : decode cJx4a65c_add_9ea2d 5 = .ok (.iconst 1, 1) := by decide +kernel
theorem dJx4a65c_add_9ea2d_6 : decode cJx4a65c_add_9ea2d 6 = .ok (.iadd, 1) := by decide +kernel
theorem dJx4a65c_add_9ea2d_7 : decode cJx4a65c_add_9ea2d 7 = .ok (.putfield 63, 3) := by decide +kernel
theorem dJx4a65c_add_9ea2d_10 : decode cJx4a65c_add_9ea2d 10 = .ok (.aload_n 0, 1) := by decide +kernel
theorem dJx4a65c_add_9ea2d_11 : decode cJx4a65c_add_9ea2d 11 = .ok (.aload_n 1, 1) := by decide +kernel
theorem dJx4a65c_add_9ea2d_12 : decode cJx4a65c_add_9ea2d 12 = .ok (.aload_n 0, 1) := by decide +kernel
theorem dJx4a65c_add_9ea2d_13 : decode cJx4a65c_add_9ea2d 13 = .ok (.getfield 9, 3) := by decide +kernel
theorem dJx4a65c_add_9ea2d_16 : decode cJx4a65c_add_9ea2d 16 = .ok (.aload_n 0, 1) := by decide +kernel
theorem dJx4a65c_add_9ea2d_17 : decode cJx4a65c_add_9ea2d 17 = .ok (.getfield 48, 3) := by decide +kernel
theorem dJx4a65c_add_9ea2d_20 : decode cJx4a65c_add_9ea2d 20 = .ok (.invokevirtual 131, 3) := by decide +kernel
theorem dJx4a65c_add_9ea2d_23 : decode cJx4a65c_add_9ea2d 23 = .ok (.iconst 1, 1) := by decide +kernel
theorem dJx4a65c_add_9ea2d_24 : decode cJx4a65c_add_9ea2d 24 = .ok (.ireturn, 1) := by decide +kernel
theorem dJ7_copyOf_1904c_0 : decode cJ7_copyOf_1904c 0 = .ok (.aload_n 0, 1) := by decide +kernel
theorem dJ7_copyOf_1904c_1 : decode cJ7_copyOf_1904c 1 = .ok (.iload_n 1, 1) := by decide +kernel
theorem dJ7_copyOf_1904c_2 : decode cJ7_copyOf_1904c 2 = .ok (.aload_n 0, 1) := by decide +kernel
theorem dJ7_copyOf_1904c_3 : decode cJ7_copyOf_1904c 3 = .ok (.invokevirtual 86, 3) := by decide +kernel
theorem dJ7_copyOf_1904c_6 : decode cJ7_copyOf_1904c 6 = .ok (.invokestatic 300, 3) := by decide +kernel
theorem dJ7_copyOf_1904c_9 : decode cJ7_copyOf_1904c 9 = .ok (.areturn, 1) := by decide +kernel
theorem dJ7_copyOf_6403c_0 : decode cJ7_copyOf_6403c 0 = .ok (.aload_n 2, 1) := by decide +kernel
theorem dJ7_copyOf_6403c_1 : decode cJ7_copyOf_6403c 1 = .ok (.ldc 110, 2) := by decide +kernel
theorem dJ7_copyOf_6403c_3 : decode cJ7_copyOf_6403c 3 = .ok (.if_acmp .ne 10, 3) := by decide +kernel
theorem dJ7_copyOf_6403c_6 : decode cJ7_copyOf_6403c 6 = .ok (.iload_n 1, 1) := by decide +kernel
theorem dJ7_copyOf_6403c_7 : decode cJ7_copyOf_6403c 7 = .ok (.anewarray 2, 3) := by decide +kernel
theorem dJ7_copyOf_6403c_10 : decode cJ7_copyOf_6403c 10 = .ok (.goto 14, 3) := by decide +kernel
theorem dJ7_copyOf_6403c_13 : decode cJ7_copyOf_6403c 13 = .ok (.aload_n 2, 1) := by decide +kernel
theorem dJ7_copyOf_6403c_14 : decode cJ7_copyOf_6403c 14 = .ok (.invokevirtual 90, 3) := by decide +kernel
theorem dJ7_copyOf_6403c_17 : decode cJ7_copyOf_6403c 17 = .ok (.iload_n 1, 1) := by decide +kernel
theorem dJ7_copyOf_6403c_18 : decode cJ7_copyOf_6403c 18 = .ok (.invokestatic 95, 3) := by decide +kernel
theorem dJ7_copyOf_6403c_21 : decode cJ7_copyOf_6403c 21 = .ok (.checkcast 110, 3) := by decide +kernel
theorem dJ7_copyOf_6403c_24 : decode cJ7_copyOf_6403c 24 = .ok (.astore_n 3, 1) := by decide +kernel
theorem dJ7_copyOf_6403c_25 : decode cJ7_copyOf_6403c 25 = .ok (.aload_n 0, 1) := by decide +kernel
theorem dJ7_copyOf_6403c_26 : decode cJ7_copyOf_6403c 26 = .ok (.iconst 0, 1) := by decide +kernel
theorem dJ7_copyOf_6403c_27 : decode cJ7_copyOf_6403c 27 = .ok (.aload_n 3, 1) := by decide +kernel
theorem dJ7_copyOf_6403c_28 : decode cJ7_copyOf_6403c 28 = .ok (.iconst 0, 1) := by decide +kernel
theorem dJ7_copyOf_6403c_29 : decode cJ7_copyOf_6403c 29 = .ok (.aload_n 0, 1) := by decide +kernel
theorem dJ7_copyOf_6403c_30 : decode cJ7_copyOf_6403c 30 = .ok (.arraylength, 1) := by decide +kernel
theorem dJ7_copyOf_6403c_31 : decode cJ7_copyOf_6403c 31 = .ok (.iload_n 1, 1) := by decide +kernel
theorem dJ7_copyOf_6403c_32 : decode cJ7_copyOf_6403c 32 = .ok (.invokestatic 304, 3) := by decide +kernel
theorem dJ7_copyOf_6403c_35 : decode cJ7_copyOf_6403c 35 = .ok (.invokestatic 150, 3) := by decide +kernel
theorem dJ7_copyOf_6403c_38 : decode cJ7_copyOf_6403c 38 = .ok (.aload_n 3, 1) := by decide +kernel
theorem dJ7_copyOf_6403c_39 : decode cJ7_copyOf_6403c 39 = .ok (.areturn, 1) := by decide +kernel
theorem dJ15_checkIndex_7cf53_0 : decode cJ15_checkIndex_7cf53 0 = .ok (.iload_n 0, 1) := by decide +kernel
theorem dJ15_checkIndex_7cf53_1 : decode cJ15_checkIndex_7cf53 1 = .ok (.iload_n 1, 1) := by decide +kernel
theorem dJ15_checkIndex_7cf53_2 : decode cJ15_checkIndex_7cf53 2 = .ok (.aconst_null, 1) := by decide +kernel
theorem dJ15_checkIndex_7cf53_3 : decode cJ15_checkIndex_7cf53 3 = .ok (.invokestatic 105, 3) := by decide +kernel
theorem dJ15_checkIndex_7cf53_6 : decode cJ15_checkIndex_7cf53 6 = .ok (.ireturn, 1) := by decide +kernel
theorem dJ8_newLength_cabcc_0 : decode cJ8_newLength_cabcc 0 = .ok (.iload_n 0, 1) := by decide +kernel
theorem dJ8_newLength_cabcc_1 : decode cJ8_newLength_cabcc 1 = .ok (.iload_n 1, 1) := by decide +kernel
theorem dJ8_newLength_cabcc_2 : decode cJ8_newLength_cabcc 2 = .ok (.iload_n 2, 1) := by decide +kernel
theorem dJ8_newLength_cabcc_3 : decode cJ8_newLength_cabcc 3 = .ok (.invokestatic 194, 3) := by decide +kernel
theorem dJ8_newLength_cabcc_6 : decode cJ8_newLength_cabcc 6 = .ok (.iadd, 1) := by decide +kernel
theorem dJ8_newLength_cabcc_7 : decode cJ8_newLength_cabcc 7 = .ok (.istore_n 3, 1) := by decide +kernel
theorem dJ8_newLength_cabcc_8 : decode cJ8_newLength_cabcc 8 = .ok (.iconst 0, 1) := by decide +kernel
theorem dJ8_newLength_cabcc_9 : decode cJ8_newLength_cabcc 9 = .ok (.iload_n 3, 1) := by decide +kernel
theorem dJ8_newLength_cabcc_10 : decode cJ8_newLength_cabcc 10 = .ok (.if_icmp .ge 11, 3) := by decide +kernel
theorem dJ8_newLength_cabcc_13 : decode cJ8_newLength_cabcc 13 = .ok (.iload_n 3, 1) := by decide +kernel
theorem dJ8_newLength_cabcc_14 : decode cJ8_newLength_cabcc 14 = .ok (.ldc 200, 2) := by decide +kernel
theorem dJ8_newLength_cabcc_16 : decode cJ8_newLength_cabcc 16 = .ok (.if_icmp .gt 5, 3) := by decide +kernel
theorem dJ8_newLength_cabcc_19 : decode cJ8_newLength_cabcc 19 = .ok (.iload_n 3, 1) := by decide +kernel
theorem dJ8_newLength_cabcc_20 : decode cJ8_newLength_cabcc 20 = .ok (.ireturn, 1) := by decide +kernel
theorem dJ8_newLength_cabcc_21 : decode cJ8_newLength_cabcc 21 = .ok (.iload_n 0, 1) := by decide +kernel
theorem dJ8_newLength_cabcc_22 : decode cJ8_newLength_cabcc 22 = .ok (.iload_n 1, 1) := by decide +kernel
theorem dJ8_newLength_cabcc_23 : decode cJ8_newLength_cabcc 23 = .ok (.invokestatic 201, 3) := by decide +kernel
theorem dJ8_newLength_cabcc_26 : decode cJ8_newLength_cabcc 26 = .ok (.ireturn, 1) := by decide +kernel
theorem dJ8_hugeLength_7cf53_0 : decode cJ8_hugeLength_7cf53 0 = .ok (.iload_n 0, 1) := by decide +kernel
theorem dJ8_hugeLength_7cf53_1 : decode cJ8_hugeLength_7cf53 1 = .ok (.iload_n 1, 1) := by decide +kernel
theorem dJ8_hugeLength_7cf53_2 : decode cJ8_hugeLength_7cf53 2 = .ok (.iadd, 1) := by decide +kernel
theorem dJ8_hugeLength_7cf53_3 : decode cJ8_hugeLength_7cf53 3 = .ok (.istore_n 2, 1) := by decide +kernel
theorem dJ8_hugeLength_7cf53_4 : decode cJ8_hugeLength_7cf53 4 = .ok (.iload_n 2, 1) := by decide +kernel
theorem dJ8_hugeLength_7cf53_5 : decode cJ8_hugeLength_7cf53 5 = .ok (.ifCond .ge 44, 3) := by decide +kernel
theorem dJ8_hugeLength_7cf53_8 : decode cJ8_hugeLength_7cf53 8 = .ok (.new 204, 3) := by decide +kernel
theorem dJ8_hugeLength_7cf53_11 : decode cJ8_hugeLength_7cf53 11 = .ok (.dup, 1) := by decide +kernel
theorem dJ8_hugeLength_7cf53_12 : decode cJ8_hugeLength_7cf53 12 = .ok (.new 89, 3) := by decide +kernel
theorem dJ8_hugeLength_7cf53_15 : decode cJ8_hugeLength_7cf53 15 = .ok (.dup, 1) := by decide +kernel
theorem dJ8_hugeLength_7cf53_16 : decode cJ8_hugeLength_7cf53 16 = .ok (.invokespecial 91, 3) := by decide +kernel
theorem dJ8_hugeLength_7cf53_19 : decode cJ8_hugeLength_7cf53 19 = .ok (.ldc 206, 2) := by decide +kernel
theorem dJ8_hugeLength_7cf53_21 : decode cJ8_hugeLength_7cf53 21 = .ok (.invokevirtual 94, 3) := by decide +kernel
theorem dJ8_hugeLength_7cf53_24 : decode cJ8_hugeLength_7cf53 24 = .ok (.iload_n 0, 1) := by decide +kernel
theorem dJ8_hugeLength_7cf53_25 : decode cJ8_hugeLength_7cf53 25 = .ok (.invokevirtual 98, 3) := by decide +kernel
theorem dJ8_hugeLength_7cf53_28 : decode cJ8_hugeLength_7cf53 28 = .ok (.ldc 208, 2) := by decide +kernel
theorem dJ8_hugeLength_7cf53_30 : decode cJ8_hugeLength_7cf53 30 = .ok (.invokevirtual 94, 3) := by decide +kernel
theorem dJ8_hugeLength_7cf53_33 : decode cJ8_hugeLength_7cf53 33 = .ok (.iload_n 1, 1) := by decide +kernel
theorem dJ8_hugeLength_7cf53_34 : decode cJ8_hugeLength_7cf53 34 = .ok (.invokevirtual 98, 3) := by decide +kernel
theorem dJ8_hugeLength_7cf53_37 : decode cJ8_hugeLength_7cf53 37 = .ok (.ldc 210, 2) := by decide +kernel
theorem dJ8_hugeLength_7cf53_39 : decode cJ8_hugeLength_7cf53 39 = .ok (.invokevirtual 94, 3) := by decide +kernel
theorem dJ8_hugeLength_7cf53_42 : decode cJ8_hugeLength_7cf53 42 = .ok (.invokevirtual 101, 3) := by decide +kernel
theorem dJ8_hugeLength_7cf53_45 : decode cJ8_hugeLength_7cf53 45 = .ok (.invokespecial 212, 3) := by decide +kernel
theorem dJ8_hugeLength_7cf53_48 : decode cJ8_hugeLength_7cf53 48 = .ok (.athrow, 1) := by decide +kernel
theorem dJ8_hugeLength_7cf53_49 : decode cJ8_hugeLength_7cf53 49 = .ok (.iload_n 2, 1) := by decide +kernel
theorem dJ8_hugeLength_7cf53_50 : decode cJ8_hugeLength_7cf53 50 = .ok (.ldc 200, 2) := by decide +kernel
theorem dJ8_hugeLength_7cf53_52 : decode cJ8_hugeLength_7cf53 52 = .ok (.if_icmp .gt 6, 3) := by decide +kernel
theorem dJ8_hugeLength_7cf53_55 : decode cJ8_hugeLength_7cf53 55 = .ok (.ldc 200, 2) := by decide +kernel
theorem dJ8_hugeLength_7cf53_57 : decode cJ8_hugeLength_7cf53 57 = .ok (.ireturn, 1) := by decide +kernel
theorem dJ8_hugeLength_7cf53_58 : decode cJ8_hugeLength_7cf53 58 = .ok (.iload_n 2, 1) := by decide +kernel
theorem dJ8_hugeLength_7cf53_59 : decode cJ8_hugeLength_7cf53 59 = .ok (.ireturn, 1) := by decide +kernel
theorem dJ3_checkIndex_8e157_0 : decode cJ3_checkIndex_8e157 0 = .ok (.iload_n 0, 1) := by decide +kernel
theorem dJ3_checkIndex_8e157_1 : decode cJ3_checkIndex_8e157 1 = .ok (.ifCond .lt 8, 3) := by decide +kernel
theorem dJ3_checkIndex_8e157_4 : decode cJ3_checkIndex_8e157 4 = .ok (.iload_n 0, 1) := by decide +kernel
theorem dJ3_checkIndex_8e157_5 : decode cJ3_checkIndex_8e157 5 = .ok (.iload_n 1, 1) := by decide +kernel
theorem dJ3_checkIndex_8e157_6 : decode cJ3_checkIndex_8e157 6 = .ok (.if_icmp .lt 10, 3) := by decide +kernel
theorem dJ3_checkIndex_8e157_9 : decode cJ3_checkIndex_8e157 9 = .ok (.aload_n 2, 1) := by decide +kernel
theorem dJ3_checkIndex_8e157_10 : decode cJ3_checkIndex_8e157 10 = .ok (.iload_n 0, 1) := by decide +kernel
theorem dJ3_checkIndex_8e157_11 : decode cJ3_checkIndex_8e157 11 = .ok (.iload_n 1, 1) := by decide +kernel
theorem dJ3_checkIndex_8e157_12 : decode cJ3_checkIndex_8e157 12 = .ok (.invokestatic 95, 3) := by decide +kernel
theorem dJ3_checkIndex_8e157_15 : decode cJ3_checkIndex_8e157 15 = .ok (.athrow, 1) := by decide +kernel
theorem dJ3_checkIndex_8e157_16 : decode cJ3_checkIndex_8e157 16 = .ok (.iload_n 0, 1) := by decide +kernel
theorem dJ3_checkIndex_8e157_17 : decode cJ3_checkIndex_8e157 17 = .ok (.ireturn, 1) := by decide +kernel
theorem dL_cell_0 : decode cL_cell 0 = .ok (.ldc 7, 2) := by decide +kernel
theorem dL_cell_2 : decode cL_cell 2 = .ok (.iload_n 1, 1) := by decide +kernel
theorem dL_cell_3 : decode cL_cell 3 = .ok (.aload_n 0, 1) := by decide +kernel
theorem dL_cell_4 : decode cL_cell 4 = .ok (.arraylength, 1) := by decide +kernel
theorem dL_cell_5 : decode cL_cell 5 = .ok (.if_icmp .ge 9, 3) := by decide +kernel
theorem dL_cell_8 : decode cL_cell 8 = .ok (.aload_n 0, 1) := by decide +kernel
theorem dL_cell_9 : decode cL_cell 9 = .ok (.iload_n 1, 1) := by decide +kernel
theorem dL_cell_10 : decode cL_cell 10 = .ok (.iaload, 1) := by decide +kernel
theorem dL_cell_11 : decode cL_cell 11 = .ok (.goto 4, 3) := by decide +kernel
theorem dL_cell_14 : decode cL_cell 14 = .ok (.iconst 0, 1) := by decide +kernel
theorem dL_cell_15 : decode cL_cell 15 = .ok (.sipush 1009, 3) := by decide +kernel
theorem dL_cell_18 : decode cL_cell 18 = .ok (.iload_n 1, 1) := by decide +kernel
theorem dL_cell_19 : decode cL_cell 19 = .ok (.imul, 1) := by decide +kernel
theorem dL_cell_20 : decode cL_cell 20 = .ok (.iadd, 1) := by decide +kernel
theorem dL_cell_21 : decode cL_cell 21 = .ok (.imul, 1) := by decide +kernel
theorem dL_cell_22 : decode cL_cell 22 = .ok (.sipush 12345, 3) := by decide +kernel
theorem dL_cell_25 : decode cL_cell 25 = .ok (.iadd, 1) := by decide +kernel
theorem dL_cell_26 : decode cL_cell 26 = .ok (.istore_n 2, 1) := by decide +kernel
theorem dL_cell_27 : decode cL_cell 27 = .ok (.iload_n 2, 1) := by decide +kernel
theorem dL_cell_28 : decode cL_cell 28 = .ok (.iload_n 2, 1) := by decide +kernel
theorem dL_cell_29 : decode cL_cell 29 = .ok (.bipush 13, 2) := by decide +kernel
theorem dL_cell_31 : decode cL_cell 31 = .ok (.iushr, 1) := by decide +kernel
theorem dL_cell_32 : decode cL_cell 32 = .ok (.ixor, 1) := by decide +kernel
theorem dL_cell_33 : decode cL_cell 33 = .ok (.ldc 8, 2) := by decide +kernel
theorem dL_cell_35 : decode cL_cell 35 = .ok (.imul, 1) := by decide +kernel
theorem dL_cell_36 : decode cL_cell 36 = .ok (.istore_n 2, 1) := by decide +kernel
theorem dL_cell_37 : decode cL_cell 37 = .ok (.iload_n 2, 1) := by decide +kernel
theorem dL_cell_38 : decode cL_cell 38 = .ok (.iload_n 2, 1) := by decide +kernel
theorem dL_cell_39 : decode cL_cell 39 = .ok (.bipush 16, 2) := by decide +kernel
theorem dL_cell_41 : decode cL_cell 41 = .ok (.iushr, 1) := by decide +kernel
theorem dL_cell_42 : decode cL_cell 42 = .ok (.ixor, 1) := by decide +kernel
theorem dL_cell_43 : decode cL_cell 43 = .ok (.ireturn, 1) := by decide +kernel
theorem dL_pick_0 : decode cL_pick 0 = .ok (.aload_n 0, 1) := by decide +kernel
theorem dL_pick_1 : decode cL_pick 1 = .ok (.iload_n 1, 1) := by decide +kernel
theorem dL_pick_2 : decode cL_pick 2 = .ok (.invokestatic 9, 3) := by decide +kernel
theorem dL_pick_5 : decode cL_pick 5 = .ok (.bipush 8, 2) := by decide +kernel
theorem dL_pick_7 : decode cL_pick 7 = .ok (.iushr, 1) := by decide +kernel
theorem dL_pick_8 : decode cL_pick 8 = .ok (.iload_n 2, 1) := by decide +kernel
theorem dL_pick_9 : decode cL_pick 9 = .ok (.irem, 1) := by decide +kernel
theorem dL_pick_10 : decode cL_pick 10 = .ok (.ireturn, 1) := by decide +kernel
theorem dL_told_0 : decode cL_told 0 = .ok (.iload_n 0, 1) := by decide +kernel
theorem dL_told_1 : decode cL_told 1 = .ok (.ifCond .eq 7, 3) := by decide +kernel
theorem dL_told_4 : decode cL_told 4 = .ok (.iconst 1, 1) := by decide +kernel
theorem dL_told_5 : decode cL_told 5 = .ok (.goto 4, 3) := by decide +kernel
theorem dL_told_8 : decode cL_told 8 = .ok (.iconst 0, 1) := by decide +kernel
theorem dL_told_9 : decode cL_told 9 = .ok (.ireturn, 1) := by decide +kernel
theorem dL_done_0 : decode cL_done 0 = .ok (.iload_n 1, 1) := by decide +kernel
theorem dL_done_1 : decode cL_done 1 = .ok (.tableswitch 201 0 13 #[71, 80, 89, 109, 115, 122, 128, 147, 154, 164, 170, 177, 186, 195], 71) := by decide +kernel
theorem dL_done_72 : decode cL_done 72 = .ok (.aload_n 0, 1) := by decide +kernel
theorem dL_done_73 : decode cL_done 73 = .ok (.iload_n 2, 1) := by decide +kernel
theorem dL_done_74 : decode cL_done 74 = .ok (.iload_n 3, 1) := by decide +kernel
theorem dL_done_75 : decode cL_done 75 = .ok (.iload 4, 2) := by decide +kernel
theorem dL_done_77 : decode cL_done 77 = .ok (.invokevirtual 15, 3) := by decide +kernel
theorem dL_done_80 : decode cL_done 80 = .ok (.ireturn, 1) := by decide +kernel
theorem dL_done_81 : decode cL_done 81 = .ok (.aload_n 0, 1) := by decide +kernel
theorem dL_done_82 : decode cL_done 82 = .ok (.iload_n 2, 1) := by decide +kernel
theorem dL_done_83 : decode cL_done 83 = .ok (.iload_n 3, 1) := by decide +kernel
theorem dL_done_84 : decode cL_done 84 = .ok (.iload 4, 2) := by decide +kernel
theorem dL_done_86 : decode cL_done 86 = .ok (.invokevirtual 21, 3) := by decide +kernel
theorem dL_done_89 : decode cL_done 89 = .ok (.ireturn, 1) := by decide +kernel
theorem dL_done_90 : decode cL_done 90 = .ok (.aload_n 0, 1) := by decide +kernel
theorem dL_done_91 : decode cL_done 91 = .ok (.iload_n 2, 1) := by decide +kernel
theorem dL_done_92 : decode cL_done 92 = .ok (.iload_n 3, 1) := by decide +kernel
theorem dL_done_93 : decode cL_done 93 = .ok (.iload 4, 2) := by decide +kernel
theorem dL_done_95 : decode cL_done 95 = .ok (.iload 5, 2) := by decide +kernel
theorem dL_done_97 : decode cL_done 97 = .ok (.iconst 1, 1) := by decide +kernel
theorem dL_done_98 : decode cL_done 98 = .ok (.if_icmp .ne 7, 3) := by decide +kernel
theorem dL_done_101 : decode cL_done 101 = .ok (.iconst 1, 1) := by decide +kernel
theorem dL_done_102 : decode cL_done 102 = .ok (.goto 4, 3) := by decide +kernel
theorem dL_done_105 : decode cL_done 105 = .ok (.iconst 0, 1) := by decide +kernel
theorem dL_done_106 : decode cL_done 106 = .ok (.invokevirtual 24, 3) := by decide +kernel
theorem dL_done_109 : decode cL_done 109 = .ok (.ireturn, 1) := by decide +kernel
theorem dL_done_110 : decode cL_done 110 = .ok (.aload_n 0, 1) := by decide +kernel
theorem dL_done_111 : decode cL_done 111 = .ok (.iload_n 2, 1) := by decide +kernel
theorem dL_done_112 : decode cL_done 112 = .ok (.invokevirtual 28, 3) := by decide +kernel
theorem dL_done_115 : decode cL_done 115 = .ok (.ireturn, 1) := by decide +kernel
theorem dL_done_116 : decode cL_done 116 = .ok (.aload_n 0, 1) := by decide +kernel
theorem dL_done_117 : decode cL_done 117 = .ok (.iload_n 2, 1) := by decide +kernel
theorem dL_done_118 : decode cL_done 118 = .ok (.iload_n 3, 1) := by decide +kernel
theorem dL_done_119 : decode cL_done 119 = .ok (.invokevirtual 32, 3) := by decide +kernel
theorem dL_done_122 : decode cL_done 122 = .ok (.ireturn, 1) := by decide +kernel
theorem dL_done_123 : decode cL_done 123 = .ok (.aload_n 0, 1) := by decide +kernel
theorem dL_done_124 : decode cL_done 124 = .ok (.iload_n 2, 1) := by decide +kernel
theorem dL_done_125 : decode cL_done 125 = .ok (.invokevirtual 36, 3) := by decide +kernel
theorem dL_done_128 : decode cL_done 128 = .ok (.ireturn, 1) := by decide +kernel
theorem dL_done_129 : decode cL_done 129 = .ok (.aload_n 0, 1) := by decide +kernel
theorem dL_done_130 : decode cL_done 130 = .ok (.iload_n 2, 1) := by decide +kernel
theorem dL_done_131 : decode cL_done 131 = .ok (.iload_n 3, 1) := by decide +kernel
theorem dL_done_132 : decode cL_done 132 = .ok (.iconst 1, 1) := by decide +kernel
theorem dL_done_133 : decode cL_done 133 = .ok (.if_icmp .ne 7, 3) := by decide +kernel
theorem dL_done_136 : decode cL_done 136 = .ok (.iconst 1, 1) := by decide +kernel
theorem dL_done_137 : decode cL_done 137 = .ok (.goto 4, 3) := by decide +kernel
theorem dL_done_140 : decode cL_done 140 = .ok (.iconst 0, 1) := by decide +kernel
theorem dL_done_141 : decode cL_done 141 = .ok (.invokevirtual 39, 3) := by decide +kernel
theorem dL_done_144 : decode cL_done 144 = .ok (.invokestatic 43, 3) := by decide +kernel
theorem dL_done_147 : decode cL_done 147 = .ok (.ireturn, 1) := by decide +kernel
theorem dL_done_148 : decode cL_done 148 = .ok (.aload_n 0, 1) := by decide +kernel
theorem dL_done_149 : decode cL_done 149 = .ok (.iload_n 2, 1) := by decide +kernel
theorem dL_done_150 : decode cL_done 150 = .ok (.iload_n 3, 1) := by decide +kernel
theorem dL_done_151 : decode cL_done 151 = .ok (.invokevirtual 47, 3) := by decide +kernel
theorem dL_done_154 : decode cL_done 154 = .ok (.ireturn, 1) := by decide +kernel
theorem dL_done_155 : decode cL_done 155 = .ok (.aload_n 0, 1) := by decide +kernel
theorem dL_done_156 : decode cL_done 156 = .ok (.iload_n 2, 1) := by decide +kernel
theorem dL_done_157 : decode cL_done 157 = .ok (.iload_n 3, 1) := by decide +kernel
theorem dL_done_158 : decode cL_done 158 = .ok (.invokevirtual 50, 3) := by decide +kernel
theorem dL_done_161 : decode cL_done 161 = .ok (.invokestatic 43, 3) := by decide +kernel
theorem dL_done_164 : decode cL_done 164 = .ok (.ireturn, 1) := by decide +kernel
theorem dL_done_165 : decode cL_done 165 = .ok (.aload_n 0, 1) := by decide +kernel
theorem dL_done_166 : decode cL_done 166 = .ok (.iload_n 2, 1) := by decide +kernel
theorem dL_done_167 : decode cL_done 167 = .ok (.invokevirtual 54, 3) := by decide +kernel
theorem dL_done_170 : decode cL_done 170 = .ok (.ireturn, 1) := by decide +kernel
theorem dL_done_171 : decode cL_done 171 = .ok (.aload_n 0, 1) := by decide +kernel
theorem dL_done_172 : decode cL_done 172 = .ok (.iload_n 2, 1) := by decide +kernel
theorem dL_done_173 : decode cL_done 173 = .ok (.iload_n 3, 1) := by decide +kernel
theorem dL_done_174 : decode cL_done 174 = .ok (.invokevirtual 57, 3) := by decide +kernel
theorem dL_done_177 : decode cL_done 177 = .ok (.ireturn, 1) := by decide +kernel
theorem dL_done_178 : decode cL_done 178 = .ok (.aload_n 0, 1) := by decide +kernel
theorem dL_done_179 : decode cL_done 179 = .ok (.iload_n 2, 1) := by decide +kernel
theorem dL_done_180 : decode cL_done 180 = .ok (.iload_n 3, 1) := by decide +kernel
theorem dL_done_181 : decode cL_done 181 = .ok (.iload 4, 2) := by decide +kernel
theorem dL_done_183 : decode cL_done 183 = .ok (.invokevirtual 60, 3) := by decide +kernel
theorem dL_done_186 : decode cL_done 186 = .ok (.ireturn, 1) := by decide +kernel
theorem dL_done_187 : decode cL_done 187 = .ok (.aload_n 0, 1) := by decide +kernel
theorem dL_done_188 : decode cL_done 188 = .ok (.iload_n 2, 1) := by decide +kernel
theorem dL_done_189 : decode cL_done 189 = .ok (.iload_n 3, 1) := by decide +kernel
theorem dL_done_190 : decode cL_done 190 = .ok (.iload 4, 2) := by decide +kernel
theorem dL_done_192 : decode cL_done 192 = .ok (.invokevirtual 63, 3) := by decide +kernel
theorem dL_done_195 : decode cL_done 195 = .ok (.ireturn, 1) := by decide +kernel
theorem dL_done_196 : decode cL_done 196 = .ok (.aload_n 0, 1) := by decide +kernel
theorem dL_done_197 : decode cL_done 197 = .ok (.iload_n 2, 1) := by decide +kernel
theorem dL_done_198 : decode cL_done 198 = .ok (.invokevirtual 66, 3) := by decide +kernel
theorem dL_done_201 : decode cL_done 201 = .ok (.ireturn, 1) := by decide +kernel
theorem dL_done_202 : decode cL_done 202 = .ok (.aload_n 0, 1) := by decide +kernel
theorem dL_done_203 : decode cL_done 203 = .ok (.iload_n 2, 1) := by decide +kernel
theorem dL_done_204 : decode cL_done 204 = .ok (.invokevirtual 69, 3) := by decide +kernel
theorem dL_done_207 : decode cL_done 207 = .ok (.ireturn, 1) := by decide +kernel
theorem dL_asked_0 : decode cL_asked 0 = .ok (.iload_n 1, 1) := by decide +kernel
theorem dL_asked_1 : decode cL_asked 1 = .ok (.tableswitch 157 20 31 #[63, 70, 76, 82, 91, 105, 112, 122, 131, 138, 144, 150], 63) := by decide +kernel
theorem dL_asked_64 : decode cL_asked 64 = .ok (.aload_n 0, 1) := by decide +kernel
theorem dL_asked_65 : decode cL_asked 65 = .ok (.iload_n 2, 1) := by decide +kernel
theorem dL_asked_66 : decode cL_asked 66 = .ok (.iload_n 3, 1) := by decide +kernel
theorem dL_asked_67 : decode cL_asked 67 = .ok (.invokevirtual 72, 3) := by decide +kernel
theorem dL_asked_70 : decode cL_asked 70 = .ok (.ireturn, 1) := by decide +kernel
theorem dL_asked_71 : decode cL_asked 71 = .ok (.aload_n 0, 1) := by decide +kernel
theorem dL_asked_72 : decode cL_asked 72 = .ok (.iload_n 2, 1) := by decide +kernel
theorem dL_asked_73 : decode cL_asked 73 = .ok (.invokevirtual 75, 3) := by decide +kernel
theorem dL_asked_76 : decode cL_asked 76 = .ok (.ireturn, 1) := by decide +kernel
theorem dL_asked_77 : decode cL_asked 77 = .ok (.aload_n 0, 1) := by decide +kernel
theorem dL_asked_78 : decode cL_asked 78 = .ok (.iload_n 2, 1) := by decide +kernel
theorem dL_asked_79 : decode cL_asked 79 = .ok (.invokevirtual 78, 3) := by decide +kernel
theorem dL_asked_82 : decode cL_asked 82 = .ok (.ireturn, 1) := by decide +kernel
theorem dL_asked_83 : decode cL_asked 83 = .ok (.aload_n 0, 1) := by decide +kernel
theorem dL_asked_84 : decode cL_asked 84 = .ok (.iload_n 2, 1) := by decide +kernel
theorem dL_asked_85 : decode cL_asked 85 = .ok (.invokevirtual 81, 3) := by decide +kernel
theorem dL_asked_88 : decode cL_asked 88 = .ok (.invokestatic 43, 3) := by decide +kernel
theorem dL_asked_91 : decode cL_asked 91 = .ok (.ireturn, 1) := by decide +kernel
theorem dL_asked_92 : decode cL_asked 92 = .ok (.aload_n 0, 1) := by decide +kernel
theorem dL_asked_93 : decode cL_asked 93 = .ok (.iload_n 2, 1) := by decide +kernel
theorem dL_asked_94 : decode cL_asked 94 = .ok (.iload_n 3, 1) := by decide +kernel
theorem dL_asked_95 : decode cL_asked 95 = .ok (.iload 4, 2) := by decide +kernel
theorem dL_asked_97 : decode cL_asked 97 = .ok (.iload 5, 2) := by decide +kernel
theorem dL_asked_99 : decode cL_asked 99 = .ok (.invokevirtual 85, 3) := by decide +kernel
theorem dL_asked_102 : decode cL_asked 102 = .ok (.invokestatic 43, 3) := by decide +kernel
theorem dL_asked_105 : decode cL_asked 105 = .ok (.ireturn, 1) := by decide +kernel
theorem dL_asked_106 : decode cL_asked 106 = .ok (.aload_n 0, 1) := by decide +kernel
theorem dL_asked_107 : decode cL_asked 107 = .ok (.iload_n 2, 1) := by decide +kernel
theorem dL_asked_108 : decode cL_asked 108 = .ok (.iload_n 3, 1) := by decide +kernel
theorem dL_asked_109 : decode cL_asked 109 = .ok (.invokevirtual 89, 3) := by decide +kernel
