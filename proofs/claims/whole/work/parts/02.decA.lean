theorem dX0_init_0 : decode cX0_init 0 = .ok (.aload_n 0, 1) := by decide +kernel
theorem dX0_init_1 : decode cX0_init 1 = .ok (.iload_n 1, 1) := by decide +kernel
theorem dX0_init_2 : decode cX0_init 2 = .ok (.iload_n 2, 1) := by decide +kernel
theorem dX0_init_3 : decode cX0_init 3 = .ok (.iload_n 3, 1) := by decide +kernel
theorem dX0_init_4 : decode cX0_init 4 = .ok (.invokespecial 1, 3) := by decide +kernel
theorem dX0_init_7 : decode cX0_init 7 = .ok (.return_, 1) := by decide +kernel
theorem dX0_kindTold_0 : decode cX0_kindTold 0 = .ok (.iconst 2, 1) := by decide +kernel
theorem dX0_kindTold_1 : decode cX0_kindTold 1 = .ok (.ireturn, 1) := by decide +kernel
theorem dX0_nextPlace_0 : decode cX0_nextPlace 0 = .ok (.aload_n 1, 1) := by decide +kernel
theorem dX0_nextPlace_1 : decode cX0_nextPlace 1 = .ok (.getfield 7, 3) := by decide +kernel
theorem dX0_nextPlace_4 : decode cX0_nextPlace 4 = .ok (.iconst 1, 1) := by decide +kernel
theorem dX0_nextPlace_5 : decode cX0_nextPlace 5 = .ok (.if_icmp .ne 22, 3) := by decide +kernel
theorem dX0_nextPlace_8 : decode cX0_nextPlace 8 = .ok (.aload_n 1, 1) := by decide +kernel
theorem dX0_nextPlace_9 : decode cX0_nextPlace 9 = .ok (.getfield 13, 3) := by decide +kernel
theorem dX0_nextPlace_12 : decode cX0_nextPlace 12 = .ok (.aload_n 1, 1) := by decide +kernel
theorem dX0_nextPlace_13 : decode cX0_nextPlace 13 = .ok (.getfield 17, 3) := by decide +kernel
theorem dX0_nextPlace_16 : decode cX0_nextPlace 16 = .ok (.aload_n 1, 1) := by decide +kernel
theorem dX0_nextPlace_17 : decode cX0_nextPlace 17 = .ok (.getfield 20, 3) := by decide +kernel
theorem dX0_nextPlace_20 : decode cX0_nextPlace 20 = .ok (.isub, 1) := by decide +kernel
theorem dX0_nextPlace_21 : decode cX0_nextPlace 21 = .ok (.invokevirtual 23, 3) := by decide +kernel
theorem dX0_nextPlace_24 : decode cX0_nextPlace 24 = .ok (.goto 8, 3) := by decide +kernel
theorem dX0_nextPlace_27 : decode cX0_nextPlace 27 = .ok (.aload_n 0, 1) := by decide +kernel
theorem dX0_nextPlace_28 : decode cX0_nextPlace 28 = .ok (.aload_n 1, 1) := by decide +kernel
theorem dX0_nextPlace_29 : decode cX0_nextPlace 29 = .ok (.invokespecial 29, 3) := by decide +kernel
theorem dX0_nextPlace_32 : decode cX0_nextPlace 32 = .ok (.ireturn, 1) := by decide +kernel
theorem dX0_askSize_0 : decode cX0_askSize 0 = .ok (.aload_n 1, 1) := by decide +kernel
theorem dX0_askSize_1 : decode cX0_askSize 1 = .ok (.bipush 12, 2) := by decide +kernel
theorem dX0_askSize_3 : decode cX0_askSize 3 = .ok (.invokevirtual 33, 3) := by decide +kernel
theorem dX0_askSize_6 : decode cX0_askSize 6 = .ok (.aload_n 0, 1) := by decide +kernel
theorem dX0_askSize_7 : decode cX0_askSize 7 = .ok (.aload_n 1, 1) := by decide +kernel
theorem dX0_askSize_8 : decode cX0_askSize 8 = .ok (.invokespecial 39, 3) := by decide +kernel
theorem dX0_askSize_11 : decode cX0_askSize 11 = .ok (.ineg, 1) := by decide +kernel
theorem dX0_askSize_12 : decode cX0_askSize 12 = .ok (.ireturn, 1) := by decide +kernel
theorem dX0_askMark_0 : decode cX0_askMark 0 = .ok (.aload_n 1, 1) := by decide +kernel
theorem dX0_askMark_1 : decode cX0_askMark 1 = .ok (.bipush 24, 2) := by decide +kernel
theorem dX0_askMark_3 : decode cX0_askMark 3 = .ok (.invokevirtual 33, 3) := by decide +kernel
theorem dX0_askMark_6 : decode cX0_askMark 6 = .ok (.iconst 2, 1) := by decide +kernel
theorem dX0_askMark_7 : decode cX0_askMark 7 = .ok (.aload_n 0, 1) := by decide +kernel
theorem dX0_askMark_8 : decode cX0_askMark 8 = .ok (.aload_n 1, 1) := by decide +kernel
theorem dX0_askMark_9 : decode cX0_askMark 9 = .ok (.invokespecial 43, 3) := by decide +kernel
theorem dX0_askMark_12 : decode cX0_askMark 12 = .ok (.imul, 1) := by decide +kernel
theorem dX0_askMark_13 : decode cX0_askMark 13 = .ok (.ireturn, 1) := by decide +kernel
theorem dX1_init_0 : decode cX1_init 0 = .ok (.aload_n 0, 1) := by decide +kernel
theorem dX1_init_1 : decode cX1_init 1 = .ok (.iload_n 1, 1) := by decide +kernel
theorem dX1_init_2 : decode cX1_init 2 = .ok (.iload_n 2, 1) := by decide +kernel
theorem dX1_init_3 : decode cX1_init 3 = .ok (.iload_n 3, 1) := by decide +kernel
theorem dX1_init_4 : decode cX1_init 4 = .ok (.invokespecial 1, 3) := by decide +kernel
theorem dX1_init_7 : decode cX1_init 7 = .ok (.return_, 1) := by decide +kernel
theorem dX1_kindTold_0 : decode cX1_kindTold 0 = .ok (.iconst 3, 1) := by decide +kernel
theorem dX1_kindTold_1 : decode cX1_kindTold 1 = .ok (.ireturn, 1) := by decide +kernel
theorem dX1_feel_0 : decode cX1_feel 0 = .ok (.aload_n 0, 1) := by decide +kernel
theorem dX1_feel_1 : decode cX1_feel 1 = .ok (.getfield 7, 3) := by decide +kernel
theorem dX1_feel_4 : decode cX1_feel 4 = .ok (.aload_n 0, 1) := by decide +kernel
theorem dX1_feel_5 : decode cX1_feel 5 = .ok (.getfield 13, 3) := by decide +kernel
theorem dX1_feel_8 : decode cX1_feel 8 = .ok (.invokestatic 16, 3) := by decide +kernel
theorem dX1_feel_11 : decode cX1_feel 11 = .ok (.ireturn, 1) := by decide +kernel
theorem dX1_askMark_0 : decode cX1_askMark 0 = .ok (.aload_n 1, 1) := by decide +kernel
theorem dX1_askMark_1 : decode cX1_askMark 1 = .ok (.bipush 22, 2) := by decide +kernel
theorem dX1_askMark_3 : decode cX1_askMark 3 = .ok (.invokevirtual 22, 3) := by decide +kernel
theorem dX1_askMark_6 : decode cX1_askMark 6 = .ok (.aload_n 0, 1) := by decide +kernel
theorem dX1_askMark_7 : decode cX1_askMark 7 = .ok (.aload_n 1, 1) := by decide +kernel
theorem dX1_askMark_8 : decode cX1_askMark 8 = .ok (.invokespecial 28, 3) := by decide +kernel
theorem dX1_askMark_11 : decode cX1_askMark 11 = .ok (.sipush 1000, 3) := by decide +kernel
theorem dX1_askMark_14 : decode cX1_askMark 14 = .ok (.isub, 1) := by decide +kernel
theorem dX1_askMark_15 : decode cX1_askMark 15 = .ok (.ireturn, 1) := by decide +kernel
theorem dX2_init_0 : decode cX2_init 0 = .ok (.aload_n 0, 1) := by decide +kernel
theorem dX2_init_1 : decode cX2_init 1 = .ok (.invokespecial 3, 3) := by decide +kernel
theorem dX2_init_4 : decode cX2_init 4 = .ok (.aload_n 0, 1) := by decide +kernel
theorem dX2_init_5 : decode cX2_init 5 = .ok (.bipush 12, 2) := by decide +kernel
theorem dX2_init_7 : decode cX2_init 7 = .ok (.newarray .int, 2) := by decide +kernel
theorem dX2_init_9 : decode cX2_init 9 = .ok (.putfield 9, 3) := by decide +kernel
theorem dX2_init_12 : decode cX2_init 12 = .ok (.aload_n 0, 1) := by decide +kernel
theorem dX2_init_13 : decode cX2_init 13 = .ok (.bipush 12, 2) := by decide +kernel
theorem dX2_init_15 : decode cX2_init 15 = .ok (.newarray .int, 2) := by decide +kernel
theorem dX2_init_17 : decode cX2_init 17 = .ok (.putfield 15, 3) := by decide +kernel
theorem dX2_init_20 : decode cX2_init 20 = .ok (.aload_n 0, 1) := by decide +kernel
theorem dX2_init_21 : decode cX2_init 21 = .ok (.iconst 4, 1) := by decide +kernel
theorem dX2_init_22 : decode cX2_init 22 = .ok (.anewarray 18, 3) := by decide +kernel
theorem dX2_init_25 : decode cX2_init 25 = .ok (.putfield 20, 3) := by decide +kernel
theorem dX2_init_28 : decode cX2_init 28 = .ok (.return_, 1) := by decide +kernel
theorem dX2_around_0 : decode cX2_around 0 = .ok (.aload_n 0, 1) := by decide +kernel
theorem dX2_around_1 : decode cX2_around 1 = .ok (.getfield 24, 3) := by decide +kernel
theorem dX2_around_4 : decode cX2_around 4 = .ok (.ifCond .le 14, 3) := by decide +kernel
theorem dX2_around_7 : decode cX2_around 7 = .ok (.iload_n 1, 1) := by decide +kernel
theorem dX2_around_8 : decode cX2_around 8 = .ok (.aload_n 0, 1) := by decide +kernel
theorem dX2_around_9 : decode cX2_around 9 = .ok (.getfield 24, 3) := by decide +kernel
theorem dX2_around_12 : decode cX2_around 12 = .ok (.invokestatic 28, 3) := by decide +kernel
theorem dX2_around_15 : decode cX2_around 15 = .ok (.goto 4, 3) := by decide +kernel
theorem dX2_around_18 : decode cX2_around 18 = .ok (.iconst 0, 1) := by decide +kernel
theorem dX2_around_19 : decode cX2_around 19 = .ok (.ireturn, 1) := by decide +kernel
theorem dX2_placeOfDraw_0 : decode cX2_placeOfDraw 0 = .ok (.aload_n 0, 1) := by decide +kernel
theorem dX2_placeOfDraw_1 : decode cX2_placeOfDraw 1 = .ok (.getfield 34, 3) := by decide +kernel
theorem dX2_placeOfDraw_4 : decode cX2_placeOfDraw 4 = .ok (.istore_n 3, 1) := by decide +kernel
theorem dX2_placeOfDraw_5 : decode cX2_placeOfDraw 5 = .ok (.iconst 0, 1) := by decide +kernel
theorem dX2_placeOfDraw_6 : decode cX2_placeOfDraw 6 = .ok (.istore 4, 2) := by decide +kernel
theorem dX2_placeOfDraw_8 : decode cX2_placeOfDraw 8 = .ok (.iload 4, 2) := by decide +kernel
theorem dX2_placeOfDraw_10 : decode cX2_placeOfDraw 10 = .ok (.aload_n 0, 1) := by decide +kernel
theorem dX2_placeOfDraw_11 : decode cX2_placeOfDraw 11 = .ok (.getfield 24, 3) := by decide +kernel
theorem dX2_placeOfDraw_14 : decode cX2_placeOfDraw 14 = .ok (.if_icmp .ge 19, 3) := by decide +kernel
theorem dX2_placeOfDraw_17 : decode cX2_placeOfDraw 17 = .ok (.iload_n 3, 1) := by decide +kernel
theorem dX2_placeOfDraw_18 : decode cX2_placeOfDraw 18 = .ok (.aload_n 0, 1) := by decide +kernel
theorem dX2_placeOfDraw_19 : decode cX2_placeOfDraw 19 = .ok (.getfield 9, 3) := by decide +kernel
theorem dX2_placeOfDraw_22 : decode cX2_placeOfDraw 22 = .ok (.iload 4, 2) := by decide +kernel
theorem dX2_placeOfDraw_24 : decode cX2_placeOfDraw 24 = .ok (.iaload, 1) := by decide +kernel
theorem dX2_placeOfDraw_25 : decode cX2_placeOfDraw 25 = .ok (.iadd, 1) := by decide +kernel
theorem dX2_placeOfDraw_26 : decode cX2_placeOfDraw 26 = .ok (.istore_n 3, 1) := by decide +kernel
theorem dX2_placeOfDraw_27 : decode cX2_placeOfDraw 27 = .ok (.iinc 4 1, 3) := by decide +kernel
theorem dX2_placeOfDraw_30 : decode cX2_placeOfDraw 30 = .ok (.goto (-22), 3) := by decide +kernel
theorem dX2_placeOfDraw_33 : decode cX2_placeOfDraw 33 = .ok (.iload_n 3, 1) := by decide +kernel
theorem dX2_placeOfDraw_34 : decode cX2_placeOfDraw 34 = .ok (.ifCond .le 10, 3) := by decide +kernel
theorem dX2_placeOfDraw_37 : decode cX2_placeOfDraw 37 = .ok (.lload_n 1, 1) := by decide +kernel
theorem dX2_placeOfDraw_38 : decode cX2_placeOfDraw 38 = .ok (.iload_n 3, 1) := by decide +kernel
theorem dX2_placeOfDraw_39 : decode cX2_placeOfDraw 39 = .ok (.i2l, 1) := by decide +kernel
theorem dX2_placeOfDraw_40 : decode cX2_placeOfDraw 40 = .ok (.lrem, 1) := by decide +kernel
theorem dX2_placeOfDraw_41 : decode cX2_placeOfDraw 41 = .ok (.goto 4, 3) := by decide +kernel
theorem dX2_placeOfDraw_44 : decode cX2_placeOfDraw 44 = .ok (.lconst 0, 1) := by decide +kernel
theorem dX2_placeOfDraw_45 : decode cX2_placeOfDraw 45 = .ok (.lstore 4, 2) := by decide +kernel
theorem dX2_placeOfDraw_47 : decode cX2_placeOfDraw 47 = .ok (.iconst 0, 1) := by decide +kernel
theorem dX2_placeOfDraw_48 : decode cX2_placeOfDraw 48 = .ok (.istore 6, 2) := by decide +kernel
theorem dX2_placeOfDraw_50 : decode cX2_placeOfDraw 50 = .ok (.iload 6, 2) := by decide +kernel
theorem dX2_placeOfDraw_52 : decode cX2_placeOfDraw 52 = .ok (.aload_n 0, 1) := by decide +kernel
theorem dX2_placeOfDraw_53 : decode cX2_placeOfDraw 53 = .ok (.getfield 24, 3) := by decide +kernel
theorem dX2_placeOfDraw_56 : decode cX2_placeOfDraw 56 = .ok (.if_icmp .ge 39, 3) := by decide +kernel
theorem dX2_placeOfDraw_59 : decode cX2_placeOfDraw 59 = .ok (.lload 4, 2) := by decide +kernel
theorem dX2_placeOfDraw_61 : decode cX2_placeOfDraw 61 = .ok (.aload_n 0, 1) := by decide +kernel
theorem dX2_placeOfDraw_62 : decode cX2_placeOfDraw 62 = .ok (.getfield 9, 3) := by decide +kernel
theorem dX2_placeOfDraw_65 : decode cX2_placeOfDraw 65 = .ok (.iload 6, 2) := by decide +kernel
theorem dX2_placeOfDraw_67 : decode cX2_placeOfDraw 67 = .ok (.iaload, 1) := by decide +kernel
theorem dX2_placeOfDraw_68 : decode cX2_placeOfDraw 68 = .ok (.i2l, 1) := by decide +kernel
theorem dX2_placeOfDraw_69 : decode cX2_placeOfDraw 69 = .ok (.lcmp, 1) := by decide +kernel
theorem dX2_placeOfDraw_70 : decode cX2_placeOfDraw 70 = .ok (.ifCond .ge 6, 3) := by decide +kernel
theorem dX2_placeOfDraw_73 : decode cX2_placeOfDraw 73 = .ok (.iload 6, 2) := by decide +kernel
theorem dX2_placeOfDraw_75 : decode cX2_placeOfDraw 75 = .ok (.ireturn, 1) := by decide +kernel
theorem dX2_placeOfDraw_76 : decode cX2_placeOfDraw 76 = .ok (.lload 4, 2) := by decide +kernel
theorem dX2_placeOfDraw_78 : decode cX2_placeOfDraw 78 = .ok (.aload_n 0, 1) := by decide +kernel
theorem dX2_placeOfDraw_79 : decode cX2_placeOfDraw 79 = .ok (.getfield 9, 3) := by decide +kernel
theorem dX2_placeOfDraw_82 : decode cX2_placeOfDraw 82 = .ok (.iload 6, 2) := by decide +kernel
theorem dX2_placeOfDraw_84 : decode cX2_placeOfDraw 84 = .ok (.iaload, 1) := by decide +kernel
theorem dX2_placeOfDraw_85 : decode cX2_placeOfDraw 85 = .ok (.i2l, 1) := by decide +kernel
theorem dX2_placeOfDraw_86 : decode cX2_placeOfDraw 86 = .ok (.lsub, 1) := by decide +kernel
theorem dX2_placeOfDraw_87 : decode cX2_placeOfDraw 87 = .ok (.lstore 4, 2) := by decide +kernel
theorem dX2_placeOfDraw_89 : decode cX2_placeOfDraw 89 = .ok (.iinc 6 1, 3) := by decide +kernel
theorem dX2_placeOfDraw_92 : decode cX2_placeOfDraw 92 = .ok (.goto (-42), 3) := by decide +kernel
theorem dX2_placeOfDraw_95 : decode cX2_placeOfDraw 95 = .ok (.aload_n 0, 1) := by decide +kernel
theorem dX2_placeOfDraw_96 : decode cX2_placeOfDraw 96 = .ok (.getfield 24, 3) := by decide +kernel
theorem dX2_placeOfDraw_99 : decode cX2_placeOfDraw 99 = .ok (.ireturn, 1) := by decide +kernel
theorem dX3_init_0 : decode cX3_init 0 = .ok (.aload_n 0, 1) := by decide +kernel
theorem dX3_init_1 : decode cX3_init 1 = .ok (.iload_n 1, 1) := by decide +kernel
theorem dX3_init_2 : decode cX3_init 2 = .ok (.iload_n 2, 1) := by decide +kernel
theorem dX3_init_3 : decode cX3_init 3 = .ok (.iload_n 3, 1) := by decide +kernel
theorem dX3_init_4 : decode cX3_init 4 = .ok (.invokespecial 1, 3) := by decide +kernel
theorem dX3_init_7 : decode cX3_init 7 = .ok (.return_, 1) := by decide +kernel
theorem dX3_kindTold_0 : decode cX3_kindTold 0 = .ok (.iconst 4, 1) := by decide +kernel
theorem dX3_kindTold_1 : decode cX3_kindTold 1 = .ok (.ireturn, 1) := by decide +kernel
theorem dX3_nextPlace_0 : decode cX3_nextPlace 0 = .ok (.aload_n 1, 1) := by decide +kernel
theorem dX3_nextPlace_1 : decode cX3_nextPlace 1 = .ok (.aload_n 1, 1) := by decide +kernel
theorem dX3_nextPlace_2 : decode cX3_nextPlace 2 = .ok (.getfield 7, 3) := by decide +kernel
theorem dX3_nextPlace_5 : decode cX3_nextPlace 5 = .ok (.invokevirtual 13, 3) := by decide +kernel
theorem dX3_nextPlace_8 : decode cX3_nextPlace 8 = .ok (.ireturn, 1) := by decide +kernel
theorem dX3_askSize_0 : decode cX3_askSize 0 = .ok (.aload_n 1, 1) := by decide +kernel
theorem dX3_askSize_1 : decode cX3_askSize 1 = .ok (.bipush 13, 2) := by decide +kernel
theorem dX3_askSize_3 : decode cX3_askSize 3 = .ok (.invokevirtual 17, 3) := by decide +kernel
theorem dX3_askSize_6 : decode cX3_askSize 6 = .ok (.aload_n 0, 1) := by decide +kernel
theorem dX3_askSize_7 : decode cX3_askSize 7 = .ok (.aload_n 1, 1) := by decide +kernel
theorem dX3_askSize_8 : decode cX3_askSize 8 = .ok (.invokespecial 23, 3) := by decide +kernel
theorem dX3_askSize_11 : decode cX3_askSize 11 = .ok (.bipush 100, 2) := by decide +kernel
theorem dX3_askSize_13 : decode cX3_askSize 13 = .ok (.isub, 1) := by decide +kernel
theorem dX3_askSize_14 : decode cX3_askSize 14 = .ok (.ireturn, 1) := by decide +kernel
theorem dX3_askMark_0 : decode cX3_askMark 0 = .ok (.aload_n 1, 1) := by decide +kernel
theorem dX3_askMark_1 : decode cX3_askMark 1 = .ok (.bipush 23, 2) := by decide +kernel
theorem dX3_askMark_3 : decode cX3_askMark 3 = .ok (.invokevirtual 17, 3) := by decide +kernel
theorem dX3_askMark_6 : decode cX3_askMark 6 = .ok (.aload_n 0, 1) := by decide +kernel
theorem dX3_askMark_7 : decode cX3_askMark 7 = .ok (.aload_n 1, 1) := by decide +kernel
theorem dX3_askMark_8 : decode cX3_askMark 8 = .ok (.invokespecial 27, 3) := by decide +kernel
theorem dX3_askMark_11 : decode cX3_askMark 11 = .ok (.istore_n 2, 1) := by decide +kernel
theorem dX3_askMark_12 : decode cX3_askMark 12 = .ok (.iload_n 2, 1) := by decide +kernel
theorem dX3_askMark_13 : decode cX3_askMark 13 = .ok (.aload_n 0, 1) := by decide +kernel
theorem dX3_askMark_14 : decode cX3_askMark 14 = .ok (.aload_n 1, 1) := by decide +kernel
theorem dX3_askMark_15 : decode cX3_askMark 15 = .ok (.invokevirtual 30, 3) := by decide +kernel
theorem dX3_askMark_18 : decode cX3_askMark 18 = .ok (.isub, 1) := by decide +kernel
theorem dX3_askMark_19 : decode cX3_askMark 19 = .ok (.ireturn, 1) := by decide +kernel
theorem dX4_init_0 : decode cX4_init 0 = .ok (.aload_n 0, 1) := by decide +kernel
theorem dX4_init_1 : decode cX4_init 1 = .ok (.invokespecial 3, 3) := by decide +kernel
theorem dX4_init_4 : decode cX4_init 4 = .ok (.aload_n 0, 1) := by decide +kernel
theorem dX4_init_5 : decode cX4_init 5 = .ok (.bipush 13, 2) := by decide +kernel
theorem dX4_init_7 : decode cX4_init 7 = .ok (.newarray .long, 2) := by decide +kernel
theorem dX4_init_9 : decode cX4_init 9 = .ok (.putfield 9, 3) := by decide +kernel
theorem dX4_init_12 : decode cX4_init 12 = .ok (.aload_n 0, 1) := by decide +kernel
theorem dX4_init_13 : decode cX4_init 13 = .ok (.iconst 1, 1) := by decide +kernel
theorem dX4_init_14 : decode cX4_init 14 = .ok (.putfield 15, 3) := by decide +kernel
theorem dX4_init_17 : decode cX4_init 17 = .ok (.aload_n 0, 1) := by decide +kernel
theorem dX4_init_18 : decode cX4_init 18 = .ok (.ldc 19, 2) := by decide +kernel
theorem dX4_init_20 : decode cX4_init 20 = .ok (.putfield 20, 3) := by decide +kernel
theorem dX4_init_23 : decode cX4_init 23 = .ok (.aload_n 0, 1) := by decide +kernel
theorem dX4_init_24 : decode cX4_init 24 = .ok (.aload_n 1, 1) := by decide +kernel
theorem dX4_init_25 : decode cX4_init 25 = .ok (.putfield 23, 3) := by decide +kernel
theorem dX4_init_28 : decode cX4_init 28 = .ok (.return_, 1) := by decide +kernel
theorem dX4_unwind_0 : decode cX4_unwind 0 = .ok (.aload_n 0, 1) := by decide +kernel
theorem dX4_unwind_1 : decode cX4_unwind 1 = .ok (.aload_n 1, 1) := by decide +kernel
theorem dX4_unwind_2 : decode cX4_unwind 2 = .ok (.putfield 23, 3) := by decide +kernel
theorem dX4_unwind_5 : decode cX4_unwind 5 = .ok (.aload_n 0, 1) := by decide +kernel
theorem dX4_unwind_6 : decode cX4_unwind 6 = .ok (.iconst 0, 1) := by decide +kernel
theorem dX4_unwind_7 : decode cX4_unwind 7 = .ok (.putfield 27, 3) := by decide +kernel
theorem dX4_unwind_10 : decode cX4_unwind 10 = .ok (.aload_n 0, 1) := by decide +kernel
theorem dX4_unwind_11 : decode cX4_unwind 11 = .ok (.iconst 1, 1) := by decide +kernel
theorem dX4_unwind_12 : decode cX4_unwind 12 = .ok (.putfield 15, 3) := by decide +kernel
theorem dX4_unwind_15 : decode cX4_unwind 15 = .ok (.aload_n 0, 1) := by decide +kernel
theorem dX4_unwind_16 : decode cX4_unwind 16 = .ok (.iconst 0, 1) := by decide +kernel
theorem dX4_unwind_17 : decode cX4_unwind 17 = .ok (.putfield 30, 3) := by decide +kernel
theorem dX4_unwind_20 : decode cX4_unwind 20 = .ok (.aload_n 0, 1) := by decide +kernel
theorem dX4_unwind_21 : decode cX4_unwind 21 = .ok (.iconst 0, 1) := by decide +kernel
theorem dX4_unwind_22 : decode cX4_unwind 22 = .ok (.putfield 33, 3) := by decide +kernel
theorem dX4_unwind_25 : decode cX4_unwind 25 = .ok (.aload_n 0, 1) := by decide +kernel
theorem dX4_unwind_26 : decode cX4_unwind 26 = .ok (.iconst 0, 1) := by decide +kernel
theorem dX4_unwind_27 : decode cX4_unwind 27 = .ok (.putfield 36, 3) := by decide +kernel
theorem dX4_unwind_30 : decode cX4_unwind 30 = .ok (.aload_n 0, 1) := by decide +kernel
theorem dX4_unwind_31 : decode cX4_unwind 31 = .ok (.ldc 19, 2) := by decide +kernel
theorem dX4_unwind_33 : decode cX4_unwind 33 = .ok (.putfield 20, 3) := by decide +kernel
theorem dX4_unwind_36 : decode cX4_unwind 36 = .ok (.iconst 0, 1) := by decide +kernel
theorem dX4_unwind_37 : decode cX4_unwind 37 = .ok (.istore_n 2, 1) := by decide +kernel
theorem dX4_unwind_38 : decode cX4_unwind 38 = .ok (.iload_n 2, 1) := by decide +kernel
theorem dX4_unwind_39 : decode cX4_unwind 39 = .ok (.aload_n 1, 1) := by decide +kernel
theorem dX4_unwind_40 : decode cX4_unwind 40 = .ok (.getfield 39, 3) := by decide +kernel
theorem dX4_unwind_43 : decode cX4_unwind 43 = .ok (.if_icmp .ge 22, 3) := by decide +kernel
theorem dX4_unwind_46 : decode cX4_unwind 46 = .ok (.aload_n 0, 1) := by decide +kernel
theorem dX4_unwind_47 : decode cX4_unwind 47 = .ok (.getfield 9, 3) := by decide +kernel
theorem dX4_unwind_50 : decode cX4_unwind 50 = .ok (.iload_n 2, 1) := by decide +kernel
theorem dX4_unwind_51 : decode cX4_unwind 51 = .ok (.aload_n 1, 1) := by decide +kernel
theorem dX4_unwind_52 : decode cX4_unwind 52 = .ok (.getfield 44, 3) := by decide +kernel
theorem dX4_unwind_55 : decode cX4_unwind 55 = .ok (.iload_n 2, 1) := by decide +kernel
theorem dX4_unwind_56 : decode cX4_unwind 56 = .ok (.iaload, 1) := by decide +kernel
theorem dX4_unwind_57 : decode cX4_unwind 57 = .ok (.i2l, 1) := by decide +kernel
theorem dX4_unwind_58 : decode cX4_unwind 58 = .ok (.lastore, 1) := by decide +kernel
theorem dX4_unwind_59 : decode cX4_unwind 59 = .ok (.iinc 2 1, 3) := by decide +kernel
theorem dX4_unwind_62 : decode cX4_unwind 62 = .ok (.goto (-24), 3) := by decide +kernel
theorem dX4_unwind_65 : decode cX4_unwind 65 = .ok (.aload_n 0, 1) := by decide +kernel
theorem dX4_unwind_66 : decode cX4_unwind 66 = .ok (.getfield 9, 3) := by decide +kernel
theorem dX4_unwind_69 : decode cX4_unwind 69 = .ok (.aload_n 1, 1) := by decide +kernel
theorem dX4_unwind_70 : decode cX4_unwind 70 = .ok (.getfield 39, 3) := by decide +kernel
theorem dX4_unwind_73 : decode cX4_unwind 73 = .ok (.aload_n 1, 1) := by decide +kernel
theorem dX4_unwind_74 : decode cX4_unwind 74 = .ok (.getfield 48, 3) := by decide +kernel
theorem dX4_unwind_77 : decode cX4_unwind 77 = .ok (.i2l, 1) := by decide +kernel
theorem dX4_unwind_78 : decode cX4_unwind 78 = .ok (.lastore, 1) := by decide +kernel
theorem dX4_unwind_79 : decode cX4_unwind 79 = .ok (.return_, 1) := by decide +kernel
theorem dX4_become_0 : decode cX4_become 0 = .ok (.aload_n 0, 1) := by decide +kernel
theorem dX4_become_1 : decode cX4_become 1 = .ok (.aload_n 1, 1) := by decide +kernel
theorem dX4_become_2 : decode cX4_become 2 = .ok (.getfield 23, 3) := by decide +kernel
theorem dX4_become_5 : decode cX4_become 5 = .ok (.putfield 23, 3) := by decide +kernel
theorem dX4_become_8 : decode cX4_become 8 = .ok (.aload_n 0, 1) := by decide +kernel
theorem dX4_become_9 : decode cX4_become 9 = .ok (.aload_n 1, 1) := by decide +kernel
theorem dX4_become_10 : decode cX4_become 10 = .ok (.getfield 27, 3) := by decide +kernel
theorem dX4_become_13 : decode cX4_become 13 = .ok (.putfield 27, 3) := by decide +kernel
theorem dX4_become_16 : decode cX4_become 16 = .ok (.aload_n 0, 1) := by decide +kernel
theorem dX4_become_17 : decode cX4_become 17 = .ok (.aload_n 1, 1) := by decide +kernel
theorem dX4_become_18 : decode cX4_become 18 = .ok (.getfield 15, 3) := by decide +kernel
theorem dX4_become_21 : decode cX4_become 21 = .ok (.putfield 15, 3) := by decide +kernel
theorem dX4_become_24 : decode cX4_become 24 = .ok (.aload_n 0, 1) := by decide +kernel
theorem dX4_become_25 : decode cX4_become 25 = .ok (.aload_n 1, 1) := by decide +kernel
theorem dX4_become_26 : decode cX4_become 26 = .ok (.getfield 30, 3) := by decide +kernel
theorem dX4_become_29 : decode cX4_become 29 = .ok (.putfield 30, 3) := by decide +kernel
theorem dX4_become_32 : decode cX4_become 32 = .ok (.aload_n 0, 1) := by decide +kernel
theorem dX4_become_33 : decode cX4_become 33 = .ok (.aload_n 1, 1) := by decide +kernel
theorem dX4_become_34 : decode cX4_become 34 = .ok (.getfield 33, 3) := by decide +kernel
theorem dX4_become_37 : decode cX4_become 37 = .ok (.putfield 33, 3) := by decide +kernel
theorem dX4_become_40 : decode cX4_become 40 = .ok (.aload_n 0, 1) := by decide +kernel
theorem dX4_become_41 : decode cX4_become 41 = .ok (.aload_n 1, 1) := by decide +kernel
theorem dX4_become_42 : decode cX4_become 42 = .ok (.getfield 36, 3) := by decide +kernel
theorem dX4_become_45 : decode cX4_become 45 = .ok (.putfield 36, 3) := by decide +kernel
theorem dX4_become_48 : decode cX4_become 48 = .ok (.aload_n 0, 1) := by decide +kernel
theorem dX4_become_49 : decode cX4_become 49 = .ok (.aload_n 1, 1) := by decide +kernel
theorem dX4_become_50 : decode cX4_become 50 = .ok (.getfield 20, 3) := by decide +kernel
theorem dX4_become_53 : decode cX4_become 53 = .ok (.putfield 20, 3) := by decide +kernel
theorem dX4_become_56 : decode cX4_become 56 = .ok (.aload_n 1, 1) := by decide +kernel
theorem dX4_become_57 : decode cX4_become 57 = .ok (.getfield 9, 3) := by decide +kernel
theorem dX4_become_60 : decode cX4_become 60 = .ok (.iconst 0, 1) := by decide +kernel
theorem dX4_become_61 : decode cX4_become 61 = .ok (.aload_n 0, 1) := by decide +kernel
theorem dX4_become_62 : decode cX4_become 62 = .ok (.getfield 9, 3) := by decide +kernel
theorem dX4_become_65 : decode cX4_become 65 = .ok (.iconst 0, 1) := by decide +kernel
theorem dX4_become_66 : decode cX4_become 66 = .ok (.bipush 13, 2) := by decide +kernel
theorem dX4_become_68 : decode cX4_become 68 = .ok (.invokestatic 51, 3) := by decide +kernel
theorem dX4_become_71 : decode cX4_become 71 = .ok (.return_, 1) := by decide +kernel
theorem dX4_together_0 : decode cX4_together 0 = .ok (.lconst 0, 1) := by decide +kernel
theorem dX4_together_1 : decode cX4_together 1 = .ok (.lstore_n 1, 1) := by decide +kernel
theorem dX4_together_2 : decode cX4_together 2 = .ok (.iconst 0, 1) := by decide +kernel
theorem dX4_together_3 : decode cX4_together 3 = .ok (.istore_n 3, 1) := by decide +kernel
theorem dX4_together_4 : decode cX4_together 4 = .ok (.iload_n 3, 1) := by decide +kernel
theorem dX4_together_5 : decode cX4_together 5 = .ok (.aload_n 0, 1) := by decide +kernel
theorem dX4_together_6 : decode cX4_together 6 = .ok (.getfield 23, 3) := by decide +kernel
theorem dX4_together_9 : decode cX4_together 9 = .ok (.getfield 39, 3) := by decide +kernel
theorem dX4_together_12 : decode cX4_together 12 = .ok (.if_icmp .gt 18, 3) := by decide +kernel
theorem dX4_together_15 : decode cX4_together 15 = .ok (.lload_n 1, 1) := by decide +kernel
theorem dX4_together_16 : decode cX4_together 16 = .ok (.aload_n 0, 1) := by decide +kernel
theorem dX4_together_17 : decode cX4_together 17 = .ok (.getfield 9, 3) := by decide +kernel
theorem dX4_together_20 : decode cX4_together 20 = .ok (.iload_n 3, 1) := by decide +kernel
theorem dX4_together_21 : decode cX4_together 21 = .ok (.laload, 1) := by decide +kernel
theorem dX4_together_22 : decode cX4_together 22 = .ok (.ladd, 1) := by decide +kernel
theorem dX4_together_23 : decode cX4_together 23 = .ok (.lstore_n 1, 1) := by decide +kernel
theorem dX4_together_24 : decode cX4_together 24 = .ok (.iinc 3 1, 3) := by decide +kernel
theorem dX4_together_27 : decode cX4_together 27 = .ok (.goto (-23), 3) := by decide +kernel
theorem dX4_together_30 : decode cX4_together 30 = .ok (.lload_n 1, 1) := by decide +kernel
theorem dX4_together_31 : decode cX4_together 31 = .ok (.lreturn, 1) := by decide +kernel
theorem dX4_takeTouch_0 : decode cX4_takeTouch 0 = .ok (.aload_n 1, 1) := by decide +kernel
theorem dX4_takeTouch_1 : decode cX4_takeTouch 1 = .ok (.aload_n 0, 1) := by decide +kernel
theorem dX4_takeTouch_2 : decode cX4_takeTouch 2 = .ok (.getfield 15, 3) := by decide +kernel
theorem dX4_takeTouch_5 : decode cX4_takeTouch 5 = .ok (.invokevirtual 57, 3) := by decide +kernel
theorem dX4_takeTouch_8 : decode cX4_takeTouch 8 = .ok (.istore_n 3, 1) := by decide +kernel
theorem dX4_takeTouch_9 : decode cX4_takeTouch 9 = .ok (.aload_n 0, 1) := by decide +kernel
theorem dX4_takeTouch_10 : decode cX4_takeTouch 10 = .ok (.getfield 23, 3) := by decide +kernel
theorem dX4_takeTouch_13 : decode cX4_takeTouch 13 = .ok (.getfield 63, 3) := by decide +kernel
theorem dX4_takeTouch_16 : decode cX4_takeTouch 16 = .ok (.aload_n 0, 1) := by decide +kernel
theorem dX4_takeTouch_17 : decode cX4_takeTouch 17 = .ok (.getfield 27, 3) := by decide +kernel
theorem dX4_takeTouch_20 : decode cX4_takeTouch 20 = .ok (.iaload, 1) := by decide +kernel
theorem dX4_takeTouch_21 : decode cX4_takeTouch 21 = .ok (.istore 4, 2) := by decide +kernel
theorem dX4_takeTouch_23 : decode cX4_takeTouch 23 = .ok (.iload_n 2, 1) := by decide +kernel
theorem dX4_takeTouch_24 : decode cX4_takeTouch 24 = .ok (.iconst 1, 1) := by decide +kernel
theorem dX4_takeTouch_25 : decode cX4_takeTouch 25 = .ok (.if_icmp .ne 13, 3) := by decide +kernel
theorem dX4_takeTouch_28 : decode cX4_takeTouch 28 = .ok (.aload_n 0, 1) := by decide +kernel
theorem dX4_takeTouch_29 : decode cX4_takeTouch 29 = .ok (.iload_n 3, 1) := by decide +kernel
theorem dX4_takeTouch_30 : decode cX4_takeTouch 30 = .ok (.iload 4, 2) := by decide +kernel
theorem dX4_takeTouch_32 : decode cX4_takeTouch 32 = .ok (.invokevirtual 66, 3) := by decide +kernel
theorem dX4_takeTouch_35 : decode cX4_takeTouch 35 = .ok (.goto 16, 3) := by decide +kernel
theorem dX4_takeTouch_38 : decode cX4_takeTouch 38 = .ok (.aload_n 0, 1) := by decide +kernel
theorem dX4_takeTouch_39 : decode cX4_takeTouch 39 = .ok (.bipush 10, 2) := by decide +kernel
theorem dX4_takeTouch_41 : decode cX4_takeTouch 41 = .ok (.iload_n 3, 1) := by decide +kernel
theorem dX4_takeTouch_42 : decode cX4_takeTouch 42 = .ok (.isub, 1) := by decide +kernel
theorem dX4_takeTouch_43 : decode cX4_takeTouch 43 = .ok (.bipush 10, 2) := by decide +kernel
theorem dX4_takeTouch_45 : decode cX4_takeTouch 45 = .ok (.iload 4, 2) := by decide +kernel
theorem dX4_takeTouch_47 : decode cX4_takeTouch 47 = .ok (.isub, 1) := by decide +kernel
theorem dX4_takeTouch_48 : decode cX4_takeTouch 48 = .ok (.invokevirtual 66, 3) := by decide +kernel
theorem dX4_takeTouch_51 : decode cX4_takeTouch 51 = .ok (.aload_n 0, 1) := by decide +kernel
theorem dX4_takeTouch_52 : decode cX4_takeTouch 52 = .ok (.dup, 1) := by decide +kernel
theorem dX4_takeTouch_53 : decode cX4_takeTouch 53 = .ok (.getfield 30, 3) := by decide +kernel
theorem dX4_takeTouch_56 : decode cX4_takeTouch 56 = .ok (.iconst 1, 1) := by decide +kernel
theorem dX4_takeTouch_57 : decode cX4_takeTouch 57 = .ok (.iadd, 1) := by decide +kernel
theorem dX4_takeTouch_58 : decode cX4_takeTouch 58 = .ok (.putfield 30, 3) := by decide +kernel
theorem dX4_takeTouch_61 : decode cX4_takeTouch 61 = .ok (.aload_n 0, 1) := by decide +kernel
theorem dX4_takeTouch_62 : decode cX4_takeTouch 62 = .ok (.dup, 1) := by decide +kernel
theorem dX4_takeTouch_63 : decode cX4_takeTouch 63 = .ok (.getfield 33, 3) := by decide +kernel
theorem dX4_takeTouch_66 : decode cX4_takeTouch 66 = .ok (.iconst 1, 1) := by decide +kernel
theorem dX4_takeTouch_67 : decode cX4_takeTouch 67 = .ok (.iadd, 1) := by decide +kernel
theorem dX4_takeTouch_68 : decode cX4_takeTouch 68 = .ok (.putfield 33, 3) := by decide +kernel
theorem dX4_takeTouch_71 : decode cX4_takeTouch 71 = .ok (.aload_n 0, 1) := by decide +kernel
theorem dX4_takeTouch_72 : decode cX4_takeTouch 72 = .ok (.iload_n 2, 1) := by decide +kernel
theorem dX4_takeTouch_73 : decode cX4_takeTouch 73 = .ok (.putfield 36, 3) := by decide +kernel
theorem dX4_takeTouch_76 : decode cX4_takeTouch 76 = .ok (.return_, 1) := by decide +kernel
theorem dX4_weigh_0 : decode cX4_weigh 0 = .ok (.iconst 0, 1) := by decide +kernel
theorem dX4_weigh_1 : decode cX4_weigh 1 = .ok (.istore_n 3, 1) := by decide +kernel
theorem dX4_weigh_2 : decode cX4_weigh 2 = .ok (.iload_n 3, 1) := by decide +kernel
theorem dX4_weigh_3 : decode cX4_weigh 3 = .ok (.aload_n 0, 1) := by decide +kernel
theorem dX4_weigh_4 : decode cX4_weigh 4 = .ok (.getfield 23, 3) := by decide +kernel
theorem dX4_weigh_7 : decode cX4_weigh 7 = .ok (.getfield 39, 3) := by decide +kernel
theorem dX4_weigh_10 : decode cX4_weigh 10 = .ok (.if_icmp .gt 33, 3) := by decide +kernel
theorem dX4_weigh_13 : decode cX4_weigh 13 = .ok (.aload_n 0, 1) := by decide +kernel
theorem dX4_weigh_14 : decode cX4_weigh 14 = .ok (.getfield 9, 3) := by decide +kernel
theorem dX4_weigh_17 : decode cX4_weigh 17 = .ok (.iload_n 3, 1) := by decide +kernel
theorem dX4_weigh_18 : decode cX4_weigh 18 = .ok (.dup2, 1) := by decide +kernel
theorem dX4_weigh_19 : decode cX4_weigh 19 = .ok (.laload, 1) := by decide +kernel
theorem dX4_weigh_20 : decode cX4_weigh 20 = .ok (.iload_n 3, 1) := by decide +kernel
theorem dX4_weigh_21 : decode cX4_weigh 21 = .ok (.aload_n 0, 1) := by decide +kernel
theorem dX4_weigh_22 : decode cX4_weigh 22 = .ok (.getfield 27, 3) := by decide +kernel
theorem dX4_weigh_25 : decode cX4_weigh 25 = .ok (.if_icmp .ne 8, 3) := by decide +kernel
theorem dX4_weigh_28 : decode cX4_weigh 28 = .ok (.iload_n 1, 1) := by decide +kernel
theorem dX4_weigh_29 : decode cX4_weigh 29 = .ok (.i2l, 1) := by decide +kernel
theorem dX4_weigh_30 : decode cX4_weigh 30 = .ok (.goto 5, 3) := by decide +kernel
theorem dX4_weigh_33 : decode cX4_weigh 33 = .ok (.iload_n 2, 1) := by decide +kernel
theorem dX4_weigh_34 : decode cX4_weigh 34 = .ok (.i2l, 1) := by decide +kernel
theorem dX4_weigh_35 : decode cX4_weigh 35 = .ok (.lmul, 1) := by decide +kernel
theorem dX4_weigh_36 : decode cX4_weigh 36 = .ok (.lastore, 1) := by decide +kernel
theorem dX4_weigh_37 : decode cX4_weigh 37 = .ok (.iinc 3 1, 3) := by decide +kernel
theorem dX4_weigh_40 : decode cX4_weigh 40 = .ok (.goto (-38), 3) := by decide +kernel
theorem dX4_weigh_43 : decode cX4_weigh 43 = .ok (.return_, 1) := by decide +kernel
theorem dX4_advance_0 : decode cX4_advance 0 = .ok (.aload_n 0, 1) := by decide +kernel
theorem dX4_advance_1 : decode cX4_advance 1 = .ok (.aload_n 0, 1) := by decide +kernel
theorem dX4_advance_2 : decode cX4_advance 2 = .ok (.getfield 23, 3) := by decide +kernel
theorem dX4_advance_5 : decode cX4_advance 5 = .ok (.aload_n 0, 1) := by decide +kernel
theorem dX4_advance_6 : decode cX4_advance 6 = .ok (.getfield 27, 3) := by decide +kernel
theorem dX4_advance_9 : decode cX4_advance 9 = .ok (.aload_n 0, 1) := by decide +kernel
theorem dX4_advance_10 : decode cX4_advance 10 = .ok (.getfield 15, 3) := by decide +kernel
theorem dX4_advance_13 : decode cX4_advance 13 = .ok (.iload_n 1, 1) := by decide +kernel
theorem dX4_advance_14 : decode cX4_advance 14 = .ok (.imul, 1) := by decide +kernel
theorem dX4_advance_15 : decode cX4_advance 15 = .ok (.iadd, 1) := by decide +kernel
theorem dX4_advance_16 : decode cX4_advance 16 = .ok (.invokevirtual 70, 3) := by decide +kernel
theorem dX4_advance_19 : decode cX4_advance 19 = .ok (.putfield 27, 3) := by decide +kernel
theorem dX4_advance_22 : decode cX4_advance 22 = .ok (.aload_n 0, 1) := by decide +kernel
theorem dX4_advance_23 : decode cX4_advance 23 = .ok (.dup, 1) := by decide +kernel
theorem dX4_advance_24 : decode cX4_advance 24 = .ok (.getfield 30, 3) := by decide +kernel
theorem dX4_advance_27 : decode cX4_advance 27 = .ok (.iload_n 1, 1) := by decide +kernel
theorem dX4_advance_28 : decode cX4_advance 28 = .ok (.aload_n 0, 1) := by decide +kernel
theorem dX4_advance_29 : decode cX4_advance 29 = .ok (.getfield 23, 3) := by decide +kernel
theorem dX4_advance_32 : decode cX4_advance 32 = .ok (.getfield 73, 3) := by decide +kernel
theorem dX4_advance_35 : decode cX4_advance 35 = .ok (.imul, 1) := by decide +kernel
theorem dX4_advance_36 : decode cX4_advance 36 = .ok (.iadd, 1) := by decide +kernel
theorem dX4_advance_37 : decode cX4_advance 37 = .ok (.putfield 30, 3) := by decide +kernel
theorem dX4_advance_40 : decode cX4_advance 40 = .ok (.return_, 1) := by decide +kernel
theorem dX4_turn_0 : decode cX4_turn 0 = .ok (.aload_n 0, 1) := by decide +kernel
theorem dX4_turn_1 : decode cX4_turn 1 = .ok (.aload_n 0, 1) := by decide +kernel
theorem dX4_turn_2 : decode cX4_turn 2 = .ok (.getfield 15, 3) := by decide +kernel
theorem dX4_turn_5 : decode cX4_turn 5 = .ok (.ineg, 1) := by decide +kernel
theorem dX4_turn_6 : decode cX4_turn 6 = .ok (.putfield 15, 3) := by decide +kernel
theorem dX4_turn_9 : decode cX4_turn 9 = .ok (.aload_n 0, 1) := by decide +kernel
theorem dX4_turn_10 : decode cX4_turn 10 = .ok (.dup, 1) := by decide +kernel
theorem dX4_turn_11 : decode cX4_turn 11 = .ok (.getfield 30, 3) := by decide +kernel
theorem dX4_turn_14 : decode cX4_turn 14 = .ok (.aload_n 0, 1) := by decide +kernel
theorem dX4_turn_15 : decode cX4_turn 15 = .ok (.getfield 23, 3) := by decide +kernel
theorem dX4_turn_18 : decode cX4_turn 18 = .ok (.getfield 76, 3) := by decide +kernel
theorem dX4_turn_21 : decode cX4_turn 21 = .ok (.iadd, 1) := by decide +kernel
theorem dX4_turn_22 : decode cX4_turn 22 = .ok (.putfield 30, 3) := by decide +kernel
theorem dX4_turn_25 : decode cX4_turn 25 = .ok (.return_, 1) := by decide +kernel
theorem dX4_moveTo_0 : decode cX4_moveTo 0 = .ok (.iload_n 1, 1) := by decide +kernel
theorem dX4_moveTo_1 : decode cX4_moveTo 1 = .ok (.aload_n 0, 1) := by decide +kernel
theorem dX4_moveTo_2 : decode cX4_moveTo 2 = .ok (.getfield 27, 3) := by decide +kernel
theorem dX4_moveTo_5 : decode cX4_moveTo 5 = .ok (.isub, 1) := by decide +kernel
theorem dX4_moveTo_6 : decode cX4_moveTo 6 = .ok (.invokestatic 79, 3) := by decide +kernel
theorem dX4_moveTo_9 : decode cX4_moveTo 9 = .ok (.istore_n 2, 1) := by decide +kernel
theorem dX4_moveTo_10 : decode cX4_moveTo 10 = .ok (.aload_n 0, 1) := by decide +kernel
theorem dX4_moveTo_11 : decode cX4_moveTo 11 = .ok (.dup, 1) := by decide +kernel
theorem dX4_moveTo_12 : decode cX4_moveTo 12 = .ok (.getfield 30, 3) := by decide +kernel
theorem dX4_moveTo_15 : decode cX4_moveTo 15 = .ok (.aload_n 0, 1) := by decide +kernel
theorem dX4_moveTo_16 : decode cX4_moveTo 16 = .ok (.getfield 23, 3) := by decide +kernel
theorem dX4_moveTo_19 : decode cX4_moveTo 19 = .ok (.getfield 73, 3) := by decide +kernel
theorem dX4_moveTo_22 : decode cX4_moveTo 22 = .ok (.iload_n 2, 1) := by decide +kernel
theorem dX4_moveTo_23 : decode cX4_moveTo 23 = .ok (.aload_n 0, 1) := by decide +kernel
theorem dX4_moveTo_24 : decode cX4_moveTo 24 = .ok (.getfield 23, 3) := by decide +kernel
theorem dX4_moveTo_27 : decode cX4_moveTo 27 = .ok (.getfield 39, 3) := by decide +kernel
theorem dX4_moveTo_30 : decode cX4_moveTo 30 = .ok (.iload_n 2, 1) := by decide +kernel
theorem dX4_moveTo_31 : decode cX4_moveTo 31 = .ok (.isub, 1) := by decide +kernel
theorem dX4_moveTo_32 : decode cX4_moveTo 32 = .ok (.invokestatic 84, 3) := by decide +kernel
theorem dX4_moveTo_35 : decode cX4_moveTo 35 = .ok (.imul, 1) := by decide +kernel
theorem dX4_moveTo_36 : decode cX4_moveTo 36 = .ok (.iadd, 1) := by decide +kernel
theorem dX4_moveTo_37 : decode cX4_moveTo 37 = .ok (.putfield 30, 3) := by decide +kernel
theorem dX4_moveTo_40 : decode cX4_moveTo 40 = .ok (.aload_n 0, 1) := by decide +kernel
theorem dX4_moveTo_41 : decode cX4_moveTo 41 = .ok (.iload_n 1, 1) := by decide +kernel
theorem dX4_moveTo_42 : decode cX4_moveTo 42 = .ok (.putfield 27, 3) := by decide +kernel
theorem dX4_moveTo_45 : decode cX4_moveTo 45 = .ok (.return_, 1) := by decide +kernel
theorem dX4_follow_0 : decode cX4_follow 0 = .ok (.iload_n 1, 1) := by decide +kernel
theorem dX4_follow_1 : decode cX4_follow 1 = .ok (.tableswitch 50 0 2 #[27, 35, 42], 27) := by decide +kernel
theorem dX4_follow_28 : decode cX4_follow 28 = .ok (.aload_n 0, 1) := by decide +kernel
theorem dX4_follow_29 : decode cX4_follow 29 = .ok (.iconst 1, 1) := by decide +kernel
theorem dX4_follow_30 : decode cX4_follow 30 = .ok (.invokevirtual 88, 3) := by decide +kernel
theorem dX4_follow_33 : decode cX4_follow 33 = .ok (.goto 18, 3) := by decide +kernel
theorem dX4_follow_36 : decode cX4_follow 36 = .ok (.aload_n 0, 1) := by decide +kernel
theorem dX4_follow_37 : decode cX4_follow 37 = .ok (.invokevirtual 92, 3) := by decide +kernel
theorem dX4_follow_40 : decode cX4_follow 40 = .ok (.goto 11, 3) := by decide +kernel
theorem dX4_follow_43 : decode cX4_follow 43 = .ok (.aload_n 0, 1) := by decide +kernel
theorem dX4_follow_44 : decode cX4_follow 44 = .ok (.iconst 2, 1) := by decide +kernel
theorem dX4_follow_45 : decode cX4_follow 45 = .ok (.invokevirtual 88, 3) := by decide +kernel
theorem dX4_follow_48 : decode cX4_follow 48 = .ok (.goto 3, 3) := by decide +kernel
theorem dX4_follow_51 : decode cX4_follow 51 = .ok (.return_, 1) := by decide +kernel
theorem dX4_likeliestBut_0 : decode cX4_likeliestBut 0 = .ok (.iconst 0, 1) := by decide +kernel
theorem dX4_likeliestBut_1 : decode cX4_likeliestBut 1 = .ok (.istore_n 2, 1) := by decide +kernel
theorem dX4_likeliestBut_2 : decode cX4_likeliestBut 2 = .ok (.ldc2_w 95, 3) := by decide +kernel
theorem dX4_likeliestBut_5 : decode cX4_likeliestBut 5 = .ok (.lstore_n 3, 1) := by decide +kernel
theorem dX4_likeliestBut_6 : decode cX4_likeliestBut 6 = .ok (.iconst 0, 1) := by decide +kernel
theorem dX4_likeliestBut_7 : decode cX4_likeliestBut 7 = .ok (.istore 5, 2) := by decide +kernel
theorem dX4_likeliestBut_9 : decode cX4_likeliestBut 9 = .ok (.iload 5, 2) := by decide +kernel
theorem dX4_likeliestBut_11 : decode cX4_likeliestBut 11 = .ok (.aload_n 0, 1) := by decide +kernel
theorem dX4_likeliestBut_12 : decode cX4_likeliestBut 12 = .ok (.getfield 23, 3) := by decide +kernel
theorem dX4_likeliestBut_15 : decode cX4_likeliestBut 15 = .ok (.getfield 39, 3) := by decide +kernel
theorem dX4_likeliestBut_18 : decode cX4_likeliestBut 18 = .ok (.if_icmp .ge 38, 3) := by decide +kernel
theorem dX4_likeliestBut_21 : decode cX4_likeliestBut 21 = .ok (.iload 5, 2) := by decide +kernel
theorem dX4_likeliestBut_23 : decode cX4_likeliestBut 23 = .ok (.iload_n 1, 1) := by decide +kernel
theorem dX4_likeliestBut_24 : decode cX4_likeliestBut 24 = .ok (.if_icmp .eq 26, 3) := by decide +kernel
theorem dX4_likeliestBut_27 : decode cX4_likeliestBut 27 = .ok (.aload_n 0, 1) := by decide +kernel
theorem dX4_likeliestBut_28 : decode cX4_likeliestBut 28 = .ok (.getfield 9, 3) := by decide +kernel
theorem dX4_likeliestBut_31 : decode cX4_likeliestBut 31 = .ok (.iload 5, 2) := by decide +kernel
theorem dX4_likeliestBut_33 : decode cX4_likeliestBut 33 = .ok (.laload, 1) := by decide +kernel
theorem dX4_likeliestBut_34 : decode cX4_likeliestBut 34 = .ok (.lload_n 3, 1) := by decide +kernel
theorem dX4_likeliestBut_35 : decode cX4_likeliestBut 35 = .ok (.lcmp, 1) := by decide +kernel
theorem dX4_likeliestBut_36 : decode cX4_likeliestBut 36 = .ok (.ifCond .le 14, 3) := by decide +kernel
theorem dX4_likeliestBut_39 : decode cX4_likeliestBut 39 = .ok (.aload_n 0, 1) := by decide +kernel
theorem dX4_likeliestBut_40 : decode cX4_likeliestBut 40 = .ok (.getfield 9, 3) := by decide +kernel
theorem dX4_likeliestBut_43 : decode cX4_likeliestBut 43 = .ok (.iload 5, 2) := by decide +kernel
theorem dX4_likeliestBut_45 : decode cX4_likeliestBut 45 = .ok (.laload, 1) := by decide +kernel
theorem dX4_likeliestBut_46 : decode cX4_likeliestBut 46 = .ok (.lstore_n 3, 1) := by decide +kernel
theorem dX4_likeliestBut_47 : decode cX4_likeliestBut 47 = .ok (.iload 5, 2) := by decide +kernel
theorem dX4_likeliestBut_49 : decode cX4_likeliestBut 49 = .ok (.istore_n 2, 1) := by decide +kernel
theorem dX4_likeliestBut_50 : decode cX4_likeliestBut 50 = .ok (.iinc 5 1, 3) := by decide +kernel
theorem dX4_likeliestBut_53 : decode cX4_likeliestBut 53 = .ok (.goto (-44), 3) := by decide +kernel
theorem dX4_likeliestBut_56 : decode cX4_likeliestBut 56 = .ok (.iload_n 2, 1) := by decide +kernel
theorem dX4_likeliestBut_57 : decode cX4_likeliestBut 57 = .ok (.ireturn, 1) := by decide +kernel
theorem dX4_secondsOfAll_0 : decode cX4_secondsOfAll 0 = .ok (.aload_n 1, 1) := by decide +kernel
theorem dX4_secondsOfAll_1 : decode cX4_secondsOfAll 1 = .ok (.iload_n 3, 1) := by decide +kernel
theorem dX4_secondsOfAll_2 : decode cX4_secondsOfAll 2 = .ok (.invokevirtual 57, 3) := by decide +kernel
theorem dX4_secondsOfAll_5 : decode cX4_secondsOfAll 5 = .ok (.istore 5, 2) := by decide +kernel
theorem dX4_secondsOfAll_7 : decode cX4_secondsOfAll 7 = .ok (.aload_n 0, 1) := by decide +kernel
theorem dX4_secondsOfAll_8 : decode cX4_secondsOfAll 8 = .ok (.getfield 9, 3) := by decide +kernel
theorem dX4_secondsOfAll_11 : decode cX4_secondsOfAll 11 = .ok (.aload_n 0, 1) := by decide +kernel
theorem dX4_secondsOfAll_12 : decode cX4_secondsOfAll 12 = .ok (.getfield 23, 3) := by decide +kernel
theorem dX4_secondsOfAll_15 : decode cX4_secondsOfAll 15 = .ok (.getfield 39, 3) := by decide +kernel
theorem dX4_secondsOfAll_18 : decode cX4_secondsOfAll 18 = .ok (.laload, 1) := by decide +kernel
theorem dX4_secondsOfAll_19 : decode cX4_secondsOfAll 19 = .ok (.iload 4, 2) := by decide +kernel
theorem dX4_secondsOfAll_21 : decode cX4_secondsOfAll 21 = .ok (.invokestatic 97, 3) := by decide +kernel
theorem dX4_secondsOfAll_24 : decode cX4_secondsOfAll 24 = .ok (.lmul, 1) := by decide +kernel
theorem dX4_secondsOfAll_25 : decode cX4_secondsOfAll 25 = .ok (.aload_n 0, 1) := by decide +kernel
theorem dX4_secondsOfAll_26 : decode cX4_secondsOfAll 26 = .ok (.iload 4, 2) := by decide +kernel
theorem dX4_secondsOfAll_28 : decode cX4_secondsOfAll 28 = .ok (.aload_n 0, 1) := by decide +kernel
theorem dX4_secondsOfAll_29 : decode cX4_secondsOfAll 29 = .ok (.getfield 23, 3) := by decide +kernel
theorem dX4_secondsOfAll_32 : decode cX4_secondsOfAll 32 = .ok (.getfield 39, 3) := by decide +kernel
theorem dX4_secondsOfAll_35 : decode cX4_secondsOfAll 35 = .ok (.imul, 1) := by decide +kernel
theorem dX4_secondsOfAll_36 : decode cX4_secondsOfAll 36 = .ok (.iconst 1, 1) := by decide +kernel
theorem dX4_secondsOfAll_37 : decode cX4_secondsOfAll 37 = .ok (.isub, 1) := by decide +kernel
theorem dX4_secondsOfAll_38 : decode cX4_secondsOfAll 38 = .ok (.invokevirtual 101, 3) := by decide +kernel
theorem dX4_secondsOfAll_41 : decode cX4_secondsOfAll 41 = .ok (.i2l, 1) := by decide +kernel
theorem dX4_secondsOfAll_42 : decode cX4_secondsOfAll 42 = .ok (.lmul, 1) := by decide +kernel
theorem dX4_secondsOfAll_43 : decode cX4_secondsOfAll 43 = .ok (.lstore 6, 2) := by decide +kernel
theorem dX4_secondsOfAll_45 : decode cX4_secondsOfAll 45 = .ok (.iconst 0, 1) := by decide +kernel
theorem dX4_secondsOfAll_46 : decode cX4_secondsOfAll 46 = .ok (.istore 8, 2) := by decide +kernel
theorem dX4_secondsOfAll_48 : decode cX4_secondsOfAll 48 = .ok (.iload 8, 2) := by decide +kernel
theorem dX4_secondsOfAll_50 : decode cX4_secondsOfAll 50 = .ok (.aload_n 0, 1) := by decide +kernel
theorem dX4_secondsOfAll_51 : decode cX4_secondsOfAll 51 = .ok (.getfield 23, 3) := by decide +kernel
theorem dX4_secondsOfAll_54 : decode cX4_secondsOfAll 54 = .ok (.getfield 39, 3) := by decide +kernel
theorem dX4_secondsOfAll_57 : decode cX4_secondsOfAll 57 = .ok (.if_icmp .ge 43, 3) := by decide +kernel
theorem dX4_secondsOfAll_60 : decode cX4_secondsOfAll 60 = .ok (.lload 6, 2) := by decide +kernel
theorem dX4_secondsOfAll_62 : decode cX4_secondsOfAll 62 = .ok (.aload_n 0, 1) := by decide +kernel
theorem dX4_secondsOfAll_63 : decode cX4_secondsOfAll 63 = .ok (.getfield 9, 3) := by decide +kernel
theorem dX4_secondsOfAll_66 : decode cX4_secondsOfAll 66 = .ok (.aload_n 0, 1) := by decide +kernel
theorem dX4_secondsOfAll_67 : decode cX4_secondsOfAll 67 = .ok (.getfield 23, 3) := by decide +kernel
theorem dX4_secondsOfAll_70 : decode cX4_secondsOfAll 70 = .ok (.iload_n 2, 1) := by decide +kernel
theorem dX4_secondsOfAll_71 : decode cX4_secondsOfAll 71 = .ok (.iload_n 3, 1) := by decide +kernel
theorem dX4_secondsOfAll_72 : decode cX4_secondsOfAll 72 = .ok (.iload 8, 2) := by decide +kernel
theorem dX4_secondsOfAll_74 : decode cX4_secondsOfAll 74 = .ok (.imul, 1) := by decide +kernel
theorem dX4_secondsOfAll_75 : decode cX4_secondsOfAll 75 = .ok (.iadd, 1) := by decide +kernel
theorem dX4_secondsOfAll_76 : decode cX4_secondsOfAll 76 = .ok (.invokevirtual 70, 3) := by decide +kernel
theorem dX4_secondsOfAll_79 : decode cX4_secondsOfAll 79 = .ok (.laload, 1) := by decide +kernel
theorem dX4_secondsOfAll_80 : decode cX4_secondsOfAll 80 = .ok (.aload_n 0, 1) := by decide +kernel
theorem dX4_secondsOfAll_81 : decode cX4_secondsOfAll 81 = .ok (.iload 8, 2) := by decide +kernel
theorem dX4_secondsOfAll_83 : decode cX4_secondsOfAll 83 = .ok (.iload 5, 2) := by decide +kernel
theorem dX4_secondsOfAll_85 : decode cX4_secondsOfAll 85 = .ok (.iload 4, 2) := by decide +kernel
theorem dX4_secondsOfAll_87 : decode cX4_secondsOfAll 87 = .ok (.invokevirtual 104, 3) := by decide +kernel
theorem dX4_secondsOfAll_90 : decode cX4_secondsOfAll 90 = .ok (.lmul, 1) := by decide +kernel
theorem dX4_secondsOfAll_91 : decode cX4_secondsOfAll 91 = .ok (.ladd, 1) := by decide +kernel
theorem dX4_secondsOfAll_92 : decode cX4_secondsOfAll 92 = .ok (.lstore 6, 2) := by decide +kernel
theorem dX4_secondsOfAll_94 : decode cX4_secondsOfAll 94 = .ok (.iinc 8 1, 3) := by decide +kernel
theorem dX4_secondsOfAll_97 : decode cX4_secondsOfAll 97 = .ok (.goto (-49), 3) := by decide +kernel
theorem dX4_secondsOfAll_100 : decode cX4_secondsOfAll 100 = .ok (.lload 6, 2) := by decide +kernel
theorem dX4_secondsOfAll_102 : decode cX4_secondsOfAll 102 = .ok (.lreturn, 1) := by decide +kernel
theorem dX4_secondsIfAt_0 : decode cX4_secondsIfAt 0 = .ok (.lconst 1, 1) := by decide +kernel
theorem dX4_secondsIfAt_1 : decode cX4_secondsIfAt 1 = .ok (.lstore 4, 2) := by decide +kernel
theorem dX4_secondsIfAt_3 : decode cX4_secondsIfAt 3 = .ok (.lconst 0, 1) := by decide +kernel
theorem dX4_secondsIfAt_4 : decode cX4_secondsIfAt 4 = .ok (.lstore 6, 2) := by decide +kernel
theorem dX4_secondsIfAt_6 : decode cX4_secondsIfAt 6 = .ok (.iconst 0, 1) := by decide +kernel
theorem dX4_secondsIfAt_7 : decode cX4_secondsIfAt 7 = .ok (.istore 8, 2) := by decide +kernel
theorem dX4_secondsIfAt_9 : decode cX4_secondsIfAt 9 = .ok (.iload 8, 2) := by decide +kernel
theorem dX4_secondsIfAt_11 : decode cX4_secondsIfAt 11 = .ok (.iload_n 3, 1) := by decide +kernel
theorem dX4_secondsIfAt_12 : decode cX4_secondsIfAt 12 = .ok (.if_icmp .ge 57, 3) := by decide +kernel
theorem dX4_secondsIfAt_15 : decode cX4_secondsIfAt 15 = .ok (.lload 6, 2) := by decide +kernel
theorem dX4_secondsIfAt_17 : decode cX4_secondsIfAt 17 = .ok (.lload 4, 2) := by decide +kernel
theorem dX4_secondsIfAt_19 : decode cX4_secondsIfAt 19 = .ok (.iload_n 2, 1) := by decide +kernel
theorem dX4_secondsIfAt_20 : decode cX4_secondsIfAt 20 = .ok (.i2l, 1) := by decide +kernel
theorem dX4_secondsIfAt_21 : decode cX4_secondsIfAt 21 = .ok (.lmul, 1) := by decide +kernel
theorem dX4_secondsIfAt_22 : decode cX4_secondsIfAt 22 = .ok (.iload_n 3, 1) := by decide +kernel
theorem dX4_secondsIfAt_23 : decode cX4_secondsIfAt 23 = .ok (.iconst 1, 1) := by decide +kernel
theorem dX4_secondsIfAt_24 : decode cX4_secondsIfAt 24 = .ok (.isub, 1) := by decide +kernel
theorem dX4_secondsIfAt_25 : decode cX4_secondsIfAt 25 = .ok (.iload 8, 2) := by decide +kernel
theorem dX4_secondsIfAt_27 : decode cX4_secondsIfAt 27 = .ok (.isub, 1) := by decide +kernel
theorem dX4_secondsIfAt_28 : decode cX4_secondsIfAt 28 = .ok (.invokestatic 97, 3) := by decide +kernel
theorem dX4_secondsIfAt_31 : decode cX4_secondsIfAt 31 = .ok (.lmul, 1) := by decide +kernel
theorem dX4_secondsIfAt_32 : decode cX4_secondsIfAt 32 = .ok (.aload_n 0, 1) := by decide +kernel
theorem dX4_secondsIfAt_33 : decode cX4_secondsIfAt 33 = .ok (.iload 8, 2) := by decide +kernel
theorem dX4_secondsIfAt_35 : decode cX4_secondsIfAt 35 = .ok (.aload_n 0, 1) := by decide +kernel
theorem dX4_secondsIfAt_36 : decode cX4_secondsIfAt 36 = .ok (.getfield 23, 3) := by decide +kernel
theorem dX4_secondsIfAt_39 : decode cX4_secondsIfAt 39 = .ok (.getfield 39, 3) := by decide +kernel
theorem dX4_secondsIfAt_42 : decode cX4_secondsIfAt 42 = .ok (.imul, 1) := by decide +kernel
theorem dX4_secondsIfAt_43 : decode cX4_secondsIfAt 43 = .ok (.iload_n 1, 1) := by decide +kernel
theorem dX4_secondsIfAt_44 : decode cX4_secondsIfAt 44 = .ok (.iadd, 1) := by decide +kernel
theorem dX4_secondsIfAt_45 : decode cX4_secondsIfAt 45 = .ok (.invokevirtual 101, 3) := by decide +kernel
theorem dX4_secondsIfAt_48 : decode cX4_secondsIfAt 48 = .ok (.i2l, 1) := by decide +kernel
theorem dX4_secondsIfAt_49 : decode cX4_secondsIfAt 49 = .ok (.lmul, 1) := by decide +kernel
theorem dX4_secondsIfAt_50 : decode cX4_secondsIfAt 50 = .ok (.ladd, 1) := by decide +kernel
theorem dX4_secondsIfAt_51 : decode cX4_secondsIfAt 51 = .ok (.lstore 6, 2) := by decide +kernel
theorem dX4_secondsIfAt_53 : decode cX4_secondsIfAt 53 = .ok (.lload 4, 2) := by decide +kernel
theorem dX4_secondsIfAt_55 : decode cX4_secondsIfAt 55 = .ok (.bipush 10, 2) := by decide +kernel
theorem dX4_secondsIfAt_57 : decode cX4_secondsIfAt 57 = .ok (.iload_n 2, 1) := by decide +kernel
theorem dX4_secondsIfAt_58 : decode cX4_secondsIfAt 58 = .ok (.isub, 1) := by decide +kernel
theorem dX4_secondsIfAt_59 : decode cX4_secondsIfAt 59 = .ok (.i2l, 1) := by decide +kernel
theorem dX4_secondsIfAt_60 : decode cX4_secondsIfAt 60 = .ok (.lmul, 1) := by decide +kernel
theorem dX4_secondsIfAt_61 : decode cX4_secondsIfAt 61 = .ok (.lstore 4, 2) := by decide +kernel
theorem dX4_secondsIfAt_63 : decode cX4_secondsIfAt 63 = .ok (.iinc 8 1, 3) := by decide +kernel
theorem dX4_secondsIfAt_66 : decode cX4_secondsIfAt 66 = .ok (.goto (-57), 3) := by decide +kernel
theorem dX4_secondsIfAt_69 : decode cX4_secondsIfAt 69 = .ok (.lload 6, 2) := by decide +kernel
theorem dX4_secondsIfAt_71 : decode cX4_secondsIfAt 71 = .ok (.lload 4, 2) := by decide +kernel
theorem dX4_secondsIfAt_73 : decode cX4_secondsIfAt 73 = .ok (.aload_n 0, 1) := by decide +kernel
theorem dX4_secondsIfAt_74 : decode cX4_secondsIfAt 74 = .ok (.iload_n 3, 1) := by decide +kernel
theorem dX4_secondsIfAt_75 : decode cX4_secondsIfAt 75 = .ok (.aload_n 0, 1) := by decide +kernel
theorem dX4_secondsIfAt_76 : decode cX4_secondsIfAt 76 = .ok (.getfield 23, 3) := by decide +kernel
theorem dX4_secondsIfAt_79 : decode cX4_secondsIfAt 79 = .ok (.getfield 39, 3) := by decide +kernel
theorem dX4_secondsIfAt_82 : decode cX4_secondsIfAt 82 = .ok (.imul, 1) := by decide +kernel
theorem dX4_secondsIfAt_83 : decode cX4_secondsIfAt 83 = .ok (.iconst 1, 1) := by decide +kernel
theorem dX4_secondsIfAt_84 : decode cX4_secondsIfAt 84 = .ok (.isub, 1) := by decide +kernel
theorem dX4_secondsIfAt_85 : decode cX4_secondsIfAt 85 = .ok (.invokevirtual 101, 3) := by decide +kernel
theorem dX4_secondsIfAt_88 : decode cX4_secondsIfAt 88 = .ok (.i2l, 1) := by decide +kernel
theorem dX4_secondsIfAt_89 : decode cX4_secondsIfAt 89 = .ok (.lmul, 1) := by decide +kernel
theorem dX4_secondsIfAt_90 : decode cX4_secondsIfAt 90 = .ok (.ladd, 1) := by decide +kernel
theorem dX4_secondsIfAt_91 : decode cX4_secondsIfAt 91 = .ok (.lreturn, 1) := by decide +kernel
theorem dX4_secondsTill_0 : decode cX4_secondsTill 0 = .ok (.iconst 1, 1) := by decide +kernel
theorem dX4_secondsTill_1 : decode cX4_secondsTill 1 = .ok (.iload_n 1, 1) := by decide +kernel
theorem dX4_secondsTill_2 : decode cX4_secondsTill 2 = .ok (.aload_n 0, 1) := by decide +kernel
theorem dX4_secondsTill_3 : decode cX4_secondsTill 3 = .ok (.getfield 23, 3) := by decide +kernel
theorem dX4_secondsTill_6 : decode cX4_secondsTill 6 = .ok (.getfield 73, 3) := by decide +kernel
theorem dX4_secondsTill_9 : decode cX4_secondsTill 9 = .ok (.iconst 1, 1) := by decide +kernel
theorem dX4_secondsTill_10 : decode cX4_secondsTill 10 = .ok (.iadd, 1) := by decide +kernel
theorem dX4_secondsTill_11 : decode cX4_secondsTill 11 = .ok (.imul, 1) := by decide +kernel
theorem dX4_secondsTill_12 : decode cX4_secondsTill 12 = .ok (.iadd, 1) := by decide +kernel
theorem dX4_secondsTill_13 : decode cX4_secondsTill 13 = .ok (.ireturn, 1) := by decide +kernel
theorem dX5_init_0 : decode cX5_init 0 = .ok (.aload_n 0, 1) := by decide +kernel
theorem dX5_init_1 : decode cX5_init 1 = .ok (.iload_n 1, 1) := by decide +kernel
theorem dX5_init_2 : decode cX5_init 2 = .ok (.iload_n 2, 1) := by decide +kernel
theorem dX5_init_3 : decode cX5_init 3 = .ok (.iload_n 3, 1) := by decide +kernel
theorem dX5_init_4 : decode cX5_init 4 = .ok (.invokespecial 1, 3) := by decide +kernel
theorem dX5_init_7 : decode cX5_init 7 = .ok (.return_, 1) := by decide +kernel
theorem dX5_kindTold_0 : decode cX5_kindTold 0 = .ok (.iconst 1, 1) := by decide +kernel
theorem dX5_kindTold_1 : decode cX5_kindTold 1 = .ok (.ireturn, 1) := by decide +kernel
theorem dX5_nextPlace_0 : decode cX5_nextPlace 0 = .ok (.aload_n 1, 1) := by decide +kernel
theorem dX5_nextPlace_1 : decode cX5_nextPlace 1 = .ok (.getfield 7, 3) := by decide +kernel
theorem dX5_nextPlace_4 : decode cX5_nextPlace 4 = .ok (.aload_n 1, 1) := by decide +kernel
theorem dX5_nextPlace_5 : decode cX5_nextPlace 5 = .ok (.getfield 13, 3) := by decide +kernel
theorem dX5_nextPlace_8 : decode cX5_nextPlace 8 = .ok (.aload_n 1, 1) := by decide +kernel
theorem dX5_nextPlace_9 : decode cX5_nextPlace 9 = .ok (.getfield 17, 3) := by decide +kernel
theorem dX5_nextPlace_12 : decode cX5_nextPlace 12 = .ok (.iadd, 1) := by decide +kernel
theorem dX5_nextPlace_13 : decode cX5_nextPlace 13 = .ok (.invokevirtual 20, 3) := by decide +kernel
theorem dX5_nextPlace_16 : decode cX5_nextPlace 16 = .ok (.ireturn, 1) := by decide +kernel
theorem dX5_askSize_0 : decode cX5_askSize 0 = .ok (.aload_n 1, 1) := by decide +kernel
theorem dX5_askSize_1 : decode cX5_askSize 1 = .ok (.bipush 11, 2) := by decide +kernel
theorem dX5_askSize_3 : decode cX5_askSize 3 = .ok (.invokevirtual 26, 3) := by decide +kernel
theorem dX5_askSize_6 : decode cX5_askSize 6 = .ok (.aload_n 0, 1) := by decide +kernel
theorem dX5_askSize_7 : decode cX5_askSize 7 = .ok (.aload_n 1, 1) := by decide +kernel
theorem dX5_askSize_8 : decode cX5_askSize 8 = .ok (.invokespecial 32, 3) := by decide +kernel
theorem dX5_askSize_11 : decode cX5_askSize 11 = .ok (.istore_n 2, 1) := by decide +kernel
theorem dX5_askSize_12 : decode cX5_askSize 12 = .ok (.iload_n 2, 1) := by decide +kernel
theorem dX5_askSize_13 : decode cX5_askSize 13 = .ok (.aload_n 0, 1) := by decide +kernel
theorem dX5_askSize_14 : decode cX5_askSize 14 = .ok (.aload_n 1, 1) := by decide +kernel
theorem dX5_askSize_15 : decode cX5_askSize 15 = .ok (.invokevirtual 36, 3) := by decide +kernel
theorem dX5_askSize_18 : decode cX5_askSize 18 = .ok (.iadd, 1) := by decide +kernel
theorem dX5_askSize_19 : decode cX5_askSize 19 = .ok (.ireturn, 1) := by decide +kernel
theorem dX5_askMark_0 : decode cX5_askMark 0 = .ok (.aload_n 1, 1) := by decide +kernel
theorem dX5_askMark_1 : decode cX5_askMark 1 = .ok (.bipush 21, 2) := by decide +kernel
theorem dX5_askMark_3 : decode cX5_askMark 3 = .ok (.invokevirtual 26, 3) := by decide +kernel
theorem dX5_askMark_6 : decode cX5_askMark 6 = .ok (.aload_n 0, 1) := by decide +kernel
theorem dX5_askMark_7 : decode cX5_askMark 7 = .ok (.aload_n 1, 1) := by decide +kernel
theorem dX5_askMark_8 : decode cX5_askMark 8 = .ok (.invokespecial 41, 3) := by decide +kernel
theorem dX5_askMark_11 : decode cX5_askMark 11 = .ok (.aload_n 0, 1) := by decide +kernel
theorem dX5_askMark_12 : decode cX5_askMark 12 = .ok (.getfield 42, 3) := by decide +kernel
theorem dX5_askMark_15 : decode cX5_askMark 15 = .ok (.iadd, 1) := by decide +kernel
theorem dX5_askMark_16 : decode cX5_askMark 16 = .ok (.ireturn, 1) := by decide +kernel
theorem dX6_init_0 : decode cX6_init 0 = .ok (.aload_n 0, 1) := by decide +kernel
theorem dX6_init_1 : decode cX6_init 1 = .ok (.invokespecial 3, 3) := by decide +kernel
theorem dX6_init_4 : decode cX6_init 4 = .ok (.aload_n 0, 1) := by decide +kernel
theorem dX6_init_5 : decode cX6_init 5 = .ok (.bipush 40, 2) := by decide +kernel
theorem dX6_init_7 : decode cX6_init 7 = .ok (.newarray .int, 2) := by decide +kernel
theorem dX6_init_9 : decode cX6_init 9 = .ok (.putfield 9, 3) := by decide +kernel
theorem dX6_init_12 : decode cX6_init 12 = .ok (.aload_n 0, 1) := by decide +kernel
theorem dX6_init_13 : decode cX6_init 13 = .ok (.iconst 1, 1) := by decide +kernel
theorem dX6_init_14 : decode cX6_init 14 = .ok (.putfield 15, 3) := by decide +kernel
theorem dX6_init_17 : decode cX6_init 17 = .ok (.return_, 1) := by decide +kernel
theorem dX6_lay_0 : decode cX6_lay 0 = .ok (.aload_n 0, 1) := by decide +kernel
theorem dX6_lay_1 : decode cX6_lay 1 = .ok (.iconst 0, 1) := by decide +kernel
theorem dX6_lay_2 : decode cX6_lay 2 = .ok (.putfield 15, 3) := by decide +kernel
theorem dX6_lay_5 : decode cX6_lay 5 = .ok (.aload_n 0, 1) := by decide +kernel
theorem dX6_lay_6 : decode cX6_lay 6 = .ok (.iload_n 1, 1) := by decide +kernel
theorem dX6_lay_7 : decode cX6_lay 7 = .ok (.putfield 19, 3) := by decide +kernel
theorem dX6_lay_10 : decode cX6_lay 10 = .ok (.aload_n 0, 1) := by decide +kernel
theorem dX6_lay_11 : decode cX6_lay 11 = .ok (.iload_n 2, 1) := by decide +kernel
theorem dX6_lay_12 : decode cX6_lay 12 = .ok (.putfield 23, 3) := by decide +kernel
theorem dX6_lay_15 : decode cX6_lay 15 = .ok (.iconst 0, 1) := by decide +kernel
theorem dX6_lay_16 : decode cX6_lay 16 = .ok (.istore_n 3, 1) := by decide +kernel
theorem dX6_lay_17 : decode cX6_lay 17 = .ok (.iload_n 3, 1) := by decide +kernel
theorem dX6_lay_18 : decode cX6_lay 18 = .ok (.bipush 40, 2) := by decide +kernel
theorem dX6_lay_20 : decode cX6_lay 20 = .ok (.if_icmp .ge 16, 3) := by decide +kernel
theorem dX6_lay_23 : decode cX6_lay 23 = .ok (.aload_n 0, 1) := by decide +kernel
theorem dX6_lay_24 : decode cX6_lay 24 = .ok (.getfield 9, 3) := by decide +kernel
theorem dX6_lay_27 : decode cX6_lay 27 = .ok (.iload_n 3, 1) := by decide +kernel
theorem dX6_lay_28 : decode cX6_lay 28 = .ok (.iconst 0, 1) := by decide +kernel
theorem dX6_lay_29 : decode cX6_lay 29 = .ok (.iastore, 1) := by decide +kernel
theorem dX6_lay_30 : decode cX6_lay 30 = .ok (.iinc 3 1, 3) := by decide +kernel
theorem dX6_lay_33 : decode cX6_lay 33 = .ok (.goto (-16), 3) := by decide +kernel
theorem dX6_lay_36 : decode cX6_lay 36 = .ok (.return_, 1) := by decide +kernel
theorem dX6_holds_0 : decode cX6_holds 0 = .ok (.iload_n 1, 1) := by decide +kernel
theorem dX6_holds_1 : decode cX6_holds 1 = .ok (.ifCond .lt 25, 3) := by decide +kernel
theorem dX6_holds_4 : decode cX6_holds 4 = .ok (.iload_n 2, 1) := by decide +kernel
theorem dX6_holds_5 : decode cX6_holds 5 = .ok (.ifCond .lt 21, 3) := by decide +kernel
theorem dX6_holds_8 : decode cX6_holds 8 = .ok (.iload_n 1, 1) := by decide +kernel
theorem dX6_holds_9 : decode cX6_holds 9 = .ok (.i2l, 1) := by decide +kernel
theorem dX6_holds_10 : decode cX6_holds 10 = .ok (.iload_n 2, 1) := by decide +kernel
theorem dX6_holds_11 : decode cX6_holds 11 = .ok (.i2l, 1) := by decide +kernel
theorem dX6_holds_12 : decode cX6_holds 12 = .ok (.ladd, 1) := by decide +kernel
theorem dX6_holds_13 : decode cX6_holds 13 = .ok (.aload_n 0, 1) := by decide +kernel
theorem dX6_holds_14 : decode cX6_holds 14 = .ok (.getfield 23, 3) := by decide +kernel
theorem dX6_holds_17 : decode cX6_holds 17 = .ok (.i2l, 1) := by decide +kernel
theorem dX6_holds_18 : decode cX6_holds 18 = .ok (.lcmp, 1) := by decide +kernel
theorem dX6_holds_19 : decode cX6_holds 19 = .ok (.ifCond .gt 7, 3) := by decide +kernel
theorem dX6_holds_22 : decode cX6_holds 22 = .ok (.iconst 1, 1) := by decide +kernel
theorem dX6_holds_23 : decode cX6_holds 23 = .ok (.goto 4, 3) := by decide +kernel
theorem dX6_holds_26 : decode cX6_holds 26 = .ok (.iconst 0, 1) := by decide +kernel
theorem dX6_holds_27 : decode cX6_holds 27 = .ok (.ireturn, 1) := by decide +kernel
theorem dX6_areUpTo_0 : decode cX6_areUpTo 0 = .ok (.iload_n 1, 1) := by decide +kernel
theorem dX6_areUpTo_1 : decode cX6_areUpTo 1 = .ok (.istore 4, 2) := by decide +kernel
theorem dX6_areUpTo_3 : decode cX6_areUpTo 3 = .ok (.iload 4, 2) := by decide +kernel
theorem dX6_areUpTo_5 : decode cX6_areUpTo 5 = .ok (.iload_n 1, 1) := by decide +kernel
theorem dX6_areUpTo_6 : decode cX6_areUpTo 6 = .ok (.iload_n 2, 1) := by decide +kernel
theorem dX6_areUpTo_7 : decode cX6_areUpTo 7 = .ok (.iadd, 1) := by decide +kernel
theorem dX6_areUpTo_8 : decode cX6_areUpTo 8 = .ok (.if_icmp .ge 26, 3) := by decide +kernel
theorem dX6_areUpTo_11 : decode cX6_areUpTo 11 = .ok (.aload_n 0, 1) := by decide +kernel
theorem dX6_areUpTo_12 : decode cX6_areUpTo 12 = .ok (.getfield 9, 3) := by decide +kernel
theorem dX6_areUpTo_15 : decode cX6_areUpTo 15 = .ok (.iload 4, 2) := by decide +kernel
theorem dX6_areUpTo_17 : decode cX6_areUpTo 17 = .ok (.iaload, 1) := by decide +kernel
theorem dX6_areUpTo_18 : decode cX6_areUpTo 18 = .ok (.iconst 0, 1) := by decide +kernel
theorem dX6_areUpTo_19 : decode cX6_areUpTo 19 = .ok (.iload_n 3, 1) := by decide +kernel
theorem dX6_areUpTo_20 : decode cX6_areUpTo 20 = .ok (.invokestatic 26, 3) := by decide +kernel
theorem dX6_areUpTo_23 : decode cX6_areUpTo 23 = .ok (.ifCond .ne 5, 3) := by decide +kernel
theorem dX6_areUpTo_26 : decode cX6_areUpTo 26 = .ok (.iconst 0, 1) := by decide +kernel
theorem dX6_areUpTo_27 : decode cX6_areUpTo 27 = .ok (.ireturn, 1) := by decide +kernel
theorem dX6_areUpTo_28 : decode cX6_areUpTo 28 = .ok (.iinc 4 1, 3) := by decide +kernel
theorem dX6_areUpTo_31 : decode cX6_areUpTo 31 = .ok (.goto (-28), 3) := by decide +kernel
theorem dX6_areUpTo_34 : decode cX6_areUpTo 34 = .ok (.iconst 1, 1) := by decide +kernel
theorem dX6_areUpTo_35 : decode cX6_areUpTo 35 = .ok (.ireturn, 1) := by decide +kernel
theorem dX6_put_0 : decode cX6_put 0 = .ok (.aload_n 0, 1) := by decide +kernel
theorem dX6_put_1 : decode cX6_put 1 = .ok (.getfield 9, 3) := by decide +kernel
theorem dX6_put_4 : decode cX6_put 4 = .ok (.iload_n 1, 1) := by decide +kernel
theorem dX6_put_5 : decode cX6_put 5 = .ok (.aload_n 0, 1) := by decide +kernel
theorem dX6_put_6 : decode cX6_put 6 = .ok (.getfield 19, 3) := by decide +kernel
theorem dX6_put_9 : decode cX6_put 9 = .ok (.ifCond .ne 8, 3) := by decide +kernel
theorem dX6_put_12 : decode cX6_put 12 = .ok (.iload_n 2, 1) := by decide +kernel
theorem dX6_put_13 : decode cX6_put 13 = .ok (.i2b, 1) := by decide +kernel
theorem dX6_put_14 : decode cX6_put 14 = .ok (.goto 17, 3) := by decide +kernel
theorem dX6_put_17 : decode cX6_put 17 = .ok (.aload_n 0, 1) := by decide +kernel
theorem dX6_put_18 : decode cX6_put 18 = .ok (.getfield 19, 3) := by decide +kernel
theorem dX6_put_21 : decode cX6_put 21 = .ok (.iconst 1, 1) := by decide +kernel
theorem dX6_put_22 : decode cX6_put 22 = .ok (.if_icmp .ne 8, 3) := by decide +kernel
theorem dX6_put_25 : decode cX6_put 25 = .ok (.iload_n 2, 1) := by decide +kernel
theorem dX6_put_26 : decode cX6_put 26 = .ok (.i2s, 1) := by decide +kernel
theorem dX6_put_27 : decode cX6_put 27 = .ok (.goto 4, 3) := by decide +kernel
theorem dX6_put_30 : decode cX6_put 30 = .ok (.iload_n 2, 1) := by decide +kernel
theorem dX6_put_31 : decode cX6_put 31 = .ok (.iastore, 1) := by decide +kernel
theorem dX6_put_32 : decode cX6_put 32 = .ok (.aload_n 0, 1) := by decide +kernel
theorem dX6_put_33 : decode cX6_put 33 = .ok (.getfield 9, 3) := by decide +kernel
theorem dX6_put_36 : decode cX6_put 36 = .ok (.iload_n 1, 1) := by decide +kernel
theorem dX6_put_37 : decode cX6_put 37 = .ok (.iaload, 1) := by decide +kernel
theorem dX6_put_38 : decode cX6_put 38 = .ok (.ireturn, 1) := by decide +kernel
theorem dX7_init_0 : decode cX7_init 0 = .ok (.aload_n 0, 1) := by decide +kernel
theorem dX7_init_1 : decode cX7_init 1 = .ok (.invokespecial 1, 3) := by decide +kernel
theorem dX7_init_4 : decode cX7_init 4 = .ok (.aload_n 0, 1) := by decide +kernel
theorem dX7_init_5 : decode cX7_init 5 = .ok (.iload_n 1, 1) := by decide +kernel
theorem dX7_init_6 : decode cX7_init 6 = .ok (.putfield 7, 3) := by decide +kernel
theorem dX7_init_9 : decode cX7_init 9 = .ok (.aload_n 0, 1) := by decide +kernel
theorem dX7_init_10 : decode cX7_init 10 = .ok (.iload_n 2, 1) := by decide +kernel
theorem dX7_init_11 : decode cX7_init 11 = .ok (.putfield 13, 3) := by decide +kernel
theorem dX7_init_14 : decode cX7_init 14 = .ok (.aload_n 0, 1) := by decide +kernel
theorem dX7_init_15 : decode cX7_init 15 = .ok (.iload_n 3, 1) := by decide +kernel
theorem dX7_init_16 : decode cX7_init 16 = .ok (.putfield 16, 3) := by decide +kernel
theorem dX7_init_19 : decode cX7_init 19 = .ok (.return_, 1) := by decide +kernel
theorem dX7_feel_0 : decode cX7_feel 0 = .ok (.iload_n 1, 1) := by decide +kernel
theorem dX7_feel_1 : decode cX7_feel 1 = .ok (.iconst 1, 1) := by decide +kernel
theorem dX7_feel_2 : decode cX7_feel 2 = .ok (.if_icmp .ne 10, 3) := by decide +kernel
theorem dX7_feel_5 : decode cX7_feel 5 = .ok (.aload_n 0, 1) := by decide +kernel
theorem dX7_feel_6 : decode cX7_feel 6 = .ok (.getfield 13, 3) := by decide +kernel
theorem dX7_feel_9 : decode cX7_feel 9 = .ok (.goto 7, 3) := by decide +kernel
theorem dX7_feel_12 : decode cX7_feel 12 = .ok (.aload_n 0, 1) := by decide +kernel
theorem dX7_feel_13 : decode cX7_feel 13 = .ok (.getfield 16, 3) := by decide +kernel
theorem dX7_feel_16 : decode cX7_feel 16 = .ok (.ireturn, 1) := by decide +kernel
theorem dX7_askSize_0 : decode cX7_askSize 0 = .ok (.aload_n 1, 1) := by decide +kernel
theorem dX7_askSize_1 : decode cX7_askSize 1 = .ok (.bipush 10, 2) := by decide +kernel
theorem dX7_askSize_3 : decode cX7_askSize 3 = .ok (.invokevirtual 19, 3) := by decide +kernel
theorem dX7_askSize_6 : decode cX7_askSize 6 = .ok (.aload_n 0, 1) := by decide +kernel
theorem dX7_askSize_7 : decode cX7_askSize 7 = .ok (.getfield 13, 3) := by decide +kernel
theorem dX7_askSize_10 : decode cX7_askSize 10 = .ok (.ireturn, 1) := by decide +kernel
theorem dX7_askMark_0 : decode cX7_askMark 0 = .ok (.aload_n 1, 1) := by decide +kernel
theorem dX7_askMark_1 : decode cX7_askMark 1 = .ok (.bipush 20, 2) := by decide +kernel
theorem dX7_askMark_3 : decode cX7_askMark 3 = .ok (.invokevirtual 19, 3) := by decide +kernel
theorem dX7_askMark_6 : decode cX7_askMark 6 = .ok (.aload_n 0, 1) := by decide +kernel
theorem dX7_askMark_7 : decode cX7_askMark 7 = .ok (.getfield 7, 3) := by decide +kernel
theorem dX7_askMark_10 : decode cX7_askMark 10 = .ok (.ireturn, 1) := by decide +kernel
theorem dX8_init_0 : decode cX8_init 0 = .ok (.aload_n 0, 1) := by decide +kernel
theorem dX8_init_1 : decode cX8_init 1 = .ok (.iload_n 1, 1) := by decide +kernel
theorem dX8_init_2 : decode cX8_init 2 = .ok (.iload_n 2, 1) := by decide +kernel
theorem dX8_init_3 : decode cX8_init 3 = .ok (.iload_n 3, 1) := by decide +kernel
theorem dX8_init_4 : decode cX8_init 4 = .ok (.invokespecial 3, 3) := by decide +kernel
theorem dX8_init_7 : decode cX8_init 7 = .ok (.return_, 1) := by decide +kernel
theorem dX8_kindTold_0 : decode cX8_kindTold 0 = .ok (.iconst 5, 1) := by decide +kernel
theorem dX8_kindTold_1 : decode cX8_kindTold 1 = .ok (.ireturn, 1) := by decide +kernel
theorem dX8_nextPlace_0 : decode cX8_nextPlace 0 = .ok (.aload_n 1, 1) := by decide +kernel
theorem dX8_nextPlace_1 : decode cX8_nextPlace 1 = .ok (.getfield 9, 3) := by decide +kernel
theorem dX8_nextPlace_4 : decode cX8_nextPlace 4 = .ok (.ldc 15, 2) := by decide +kernel
theorem dX8_nextPlace_6 : decode cX8_nextPlace 6 = .ok (.if_icmp .eq 21, 3) := by decide +kernel
theorem dX8_nextPlace_9 : decode cX8_nextPlace 9 = .ok (.aload_n 1, 1) := by decide +kernel
theorem dX8_nextPlace_10 : decode cX8_nextPlace 10 = .ok (.getfield 9, 3) := by decide +kernel
theorem dX8_nextPlace_13 : decode cX8_nextPlace 13 = .ok (.aload_n 1, 1) := by decide +kernel
theorem dX8_nextPlace_14 : decode cX8_nextPlace 14 = .ok (.getfield 16, 3) := by decide +kernel
theorem dX8_nextPlace_17 : decode cX8_nextPlace 17 = .ok (.if_icmp .eq 10, 3) := by decide +kernel
theorem dX8_nextPlace_20 : decode cX8_nextPlace 20 = .ok (.aload_n 1, 1) := by decide +kernel
theorem dX8_nextPlace_21 : decode cX8_nextPlace 21 = .ok (.getfield 9, 3) := by decide +kernel
theorem dX8_nextPlace_24 : decode cX8_nextPlace 24 = .ok (.goto 8, 3) := by decide +kernel
theorem dX8_nextPlace_27 : decode cX8_nextPlace 27 = .ok (.aload_n 0, 1) := by decide +kernel
theorem dX8_nextPlace_28 : decode cX8_nextPlace 28 = .ok (.aload_n 1, 1) := by decide +kernel
theorem dX8_nextPlace_29 : decode cX8_nextPlace 29 = .ok (.invokespecial 19, 3) := by decide +kernel
theorem dX8_nextPlace_32 : decode cX8_nextPlace 32 = .ok (.ireturn, 1) := by decide +kernel
theorem dX8_askSize_0 : decode cX8_askSize 0 = .ok (.aload_n 1, 1) := by decide +kernel
theorem dX8_askSize_1 : decode cX8_askSize 1 = .ok (.bipush 14, 2) := by decide +kernel
theorem dX8_askSize_3 : decode cX8_askSize 3 = .ok (.invokevirtual 23, 3) := by decide +kernel
theorem dX8_askSize_6 : decode cX8_askSize 6 = .ok (.iconst 2, 1) := by decide +kernel
theorem dX8_askSize_7 : decode cX8_askSize 7 = .ok (.aload_n 0, 1) := by decide +kernel
theorem dX8_askSize_8 : decode cX8_askSize 8 = .ok (.aload_n 1, 1) := by decide +kernel
theorem dX8_askSize_9 : decode cX8_askSize 9 = .ok (.invokespecial 29, 3) := by decide +kernel
theorem dX8_askSize_12 : decode cX8_askSize 12 = .ok (.imul, 1) := by decide +kernel
theorem dX8_askSize_13 : decode cX8_askSize 13 = .ok (.ireturn, 1) := by decide +kernel
theorem dX9_init_0 : decode cX9_init 0 = .ok (.aload_n 0, 1) := by decide +kernel
theorem dX9_init_1 : decode cX9_init 1 = .ok (.invokespecial 3, 3) := by decide +kernel
theorem dX9_init_4 : decode cX9_init 4 = .ok (.aload_n 0, 1) := by decide +kernel
theorem dX9_init_5 : decode cX9_init 5 = .ok (.bipush 120, 2) := by decide +kernel
theorem dX9_init_7 : decode cX9_init 7 = .ok (.newarray .int, 2) := by decide +kernel
theorem dX9_init_9 : decode cX9_init 9 = .ok (.putfield 9, 3) := by decide +kernel
theorem dX9_init_12 : decode cX9_init 12 = .ok (.return_, 1) := by decide +kernel
theorem dX9_append_0 : decode cX9_append 0 = .ok (.aload_n 0, 1) := by decide +kernel
theorem dX9_append_1 : decode cX9_append 1 = .ok (.getfield 15, 3) := by decide +kernel
theorem dX9_append_4 : decode cX9_append 4 = .ok (.bipush 120, 2) := by decide +kernel
theorem dX9_append_6 : decode cX9_append 6 = .ok (.if_icmp .ge 23, 3) := by decide +kernel
theorem dX9_append_9 : decode cX9_append 9 = .ok (.aload_n 0, 1) := by decide +kernel
theorem dX9_append_10 : decode cX9_append 10 = .ok (.getfield 9, 3) := by decide +kernel
theorem dX9_append_13 : decode cX9_append 13 = .ok (.aload_n 0, 1) := by decide +kernel
theorem dX9_append_14 : decode cX9_append 14 = .ok (.getfield 15, 3) := by decide +kernel
theorem dX9_append_17 : decode cX9_append 17 = .ok (.iload_n 1, 1) := by decide +kernel
theorem dX9_append_18 : decode cX9_append 18 = .ok (.iastore, 1) := by decide +kernel
theorem dX9_append_19 : decode cX9_append 19 = .ok (.aload_n 0, 1) := by decide +kernel
theorem dX9_append_20 : decode cX9_append 20 = .ok (.dup, 1) := by decide +kernel
theorem dX9_append_21 : decode cX9_append 21 = .ok (.getfield 15, 3) := by decide +kernel
theorem dX9_append_24 : decode cX9_append 24 = .ok (.iconst 1, 1) := by decide +kernel
theorem dX9_append_25 : decode cX9_append 25 = .ok (.iadd, 1) := by decide +kernel
theorem dX9_append_26 : decode cX9_append 26 = .ok (.putfield 15, 3) := by decide +kernel
theorem dX9_append_29 : decode cX9_append 29 = .ok (.return_, 1) := by decide +kernel
theorem dX9_read_0 : decode cX9_read 0 = .ok (.aload_n 0, 1) := by decide +kernel
theorem dX9_read_1 : decode cX9_read 1 = .ok (.iconst 0, 1) := by decide +kernel
theorem dX9_read_2 : decode cX9_read 2 = .ok (.putfield 19, 3) := by decide +kernel
theorem dX9_read_5 : decode cX9_read 5 = .ok (.aload_n 0, 1) := by decide +kernel
theorem dX9_read_6 : decode cX9_read 6 = .ok (.iconst 0, 1) := by decide +kernel
theorem dX9_read_7 : decode cX9_read 7 = .ok (.putfield 22, 3) := by decide +kernel
theorem dX9_read_10 : decode cX9_read 10 = .ok (.new 25, 3) := by decide +kernel
theorem dX9_read_13 : decode cX9_read 13 = .ok (.dup, 1) := by decide +kernel
theorem dX9_read_14 : decode cX9_read 14 = .ok (.invokespecial 27, 3) := by decide +kernel
theorem dX9_read_17 : decode cX9_read 17 = .ok (.astore_n 1, 1) := by decide +kernel
theorem dX9_read_18 : decode cX9_read 18 = .ok (.aload_n 0, 1) := by decide +kernel
theorem dX9_read_19 : decode cX9_read 19 = .ok (.aload_n 1, 1) := by decide +kernel
theorem dX9_read_20 : decode cX9_read 20 = .ok (.invokevirtual 28, 3) := by decide +kernel
theorem dX9_read_23 : decode cX9_read 23 = .ok (.aload_n 0, 1) := by decide +kernel
theorem dX9_read_24 : decode cX9_read 24 = .ok (.aload_n 1, 1) := by decide +kernel
theorem dX9_read_25 : decode cX9_read 25 = .ok (.invokevirtual 32, 3) := by decide +kernel
theorem dX9_read_28 : decode cX9_read 28 = .ok (.iconst 0, 1) := by decide +kernel
theorem dX9_read_29 : decode cX9_read 29 = .ok (.istore_n 2, 1) := by decide +kernel
theorem dX9_read_30 : decode cX9_read 30 = .ok (.iload_n 2, 1) := by decide +kernel
theorem dX9_read_31 : decode cX9_read 31 = .ok (.iconst 4, 1) := by decide +kernel
theorem dX9_read_32 : decode cX9_read 32 = .ok (.if_icmp .gt 23, 3) := by decide +kernel
theorem dX9_read_35 : decode cX9_read 35 = .ok (.aload_n 0, 1) := by decide +kernel
theorem dX9_read_36 : decode cX9_read 36 = .ok (.invokevirtual 35, 3) := by decide +kernel
theorem dX9_read_39 : decode cX9_read 39 = .ok (.bipush 114, 2) := by decide +kernel
theorem dX9_read_41 : decode cX9_read 41 = .ok (.if_icmp .ne 14, 3) := by decide +kernel
theorem dX9_read_44 : decode cX9_read 44 = .ok (.aload_n 0, 1) := by decide +kernel
theorem dX9_read_45 : decode cX9_read 45 = .ok (.aload_n 1, 1) := by decide +kernel
theorem dX9_read_46 : decode cX9_read 46 = .ok (.invokevirtual 39, 3) := by decide +kernel
theorem dX9_read_49 : decode cX9_read 49 = .ok (.iinc 2 1, 3) := by decide +kernel
theorem dX9_read_52 : decode cX9_read 52 = .ok (.goto (-22), 3) := by decide +kernel
theorem dX9_read_55 : decode cX9_read 55 = .ok (.iconst 0, 1) := by decide +kernel
theorem dX9_read_56 : decode cX9_read 56 = .ok (.istore_n 2, 1) := by decide +kernel
theorem dX9_read_57 : decode cX9_read 57 = .ok (.iload_n 2, 1) := by decide +kernel
theorem dX9_read_58 : decode cX9_read 58 = .ok (.iconst 4, 1) := by decide +kernel
theorem dX9_read_59 : decode cX9_read 59 = .ok (.if_icmp .gt 24, 3) := by decide +kernel
theorem dX9_read_62 : decode cX9_read 62 = .ok (.aload_n 0, 1) := by decide +kernel
theorem dX9_read_63 : decode cX9_read 63 = .ok (.invokevirtual 35, 3) := by decide +kernel
theorem dX9_read_66 : decode cX9_read 66 = .ok (.invokestatic 42, 3) := by decide +kernel
theorem dX9_read_69 : decode cX9_read 69 = .ok (.ifCond .eq 14, 3) := by decide +kernel
theorem dX9_read_72 : decode cX9_read 72 = .ok (.aload_n 0, 1) := by decide +kernel
theorem dX9_read_73 : decode cX9_read 73 = .ok (.aload_n 1, 1) := by decide +kernel
theorem dX9_read_74 : decode cX9_read 74 = .ok (.invokevirtual 46, 3) := by decide +kernel
theorem dX9_read_77 : decode cX9_read 77 = .ok (.iinc 2 1, 3) := by decide +kernel
theorem dX9_read_80 : decode cX9_read 80 = .ok (.goto (-23), 3) := by decide +kernel
theorem dX9_read_83 : decode cX9_read 83 = .ok (.aload_n 0, 1) := by decide +kernel
theorem dX9_read_84 : decode cX9_read 84 = .ok (.getfield 19, 3) := by decide +kernel
theorem dX9_read_87 : decode cX9_read 87 = .ok (.aload_n 0, 1) := by decide +kernel
theorem dX9_read_88 : decode cX9_read 88 = .ok (.getfield 15, 3) := by decide +kernel
theorem dX9_read_91 : decode cX9_read 91 = .ok (.if_icmp .ge 8, 3) := by decide +kernel
theorem dX9_read_94 : decode cX9_read 94 = .ok (.aload_n 0, 1) := by decide +kernel
theorem dX9_read_95 : decode cX9_read 95 = .ok (.iconst 1, 1) := by decide +kernel
theorem dX9_read_96 : decode cX9_read 96 = .ok (.invokevirtual 49, 3) := by decide +kernel
theorem dX9_read_99 : decode cX9_read 99 = .ok (.aload_n 0, 1) := by decide +kernel
theorem dX9_read_100 : decode cX9_read 100 = .ok (.getfield 22, 3) := by decide +kernel
theorem dX9_read_103 : decode cX9_read 103 = .ok (.ifCond .ne 7, 3) := by decide +kernel
theorem dX9_read_106 : decode cX9_read 106 = .ok (.aload_n 1, 1) := by decide +kernel
theorem dX9_read_107 : decode cX9_read 107 = .ok (.goto 4, 3) := by decide +kernel
theorem dX9_read_110 : decode cX9_read 110 = .ok (.aconst_null, 1) := by decide +kernel
theorem dX9_read_111 : decode cX9_read 111 = .ok (.areturn, 1) := by decide +kernel
theorem dX9_readLaw_0 : decode cX9_readLaw 0 = .ok (.aload_n 0, 1) := by decide +kernel
theorem dX9_readLaw_1 : decode cX9_readLaw 1 = .ok (.bipush 111, 2) := by decide +kernel
theorem dX9_readLaw_3 : decode cX9_readLaw 3 = .ok (.invokevirtual 53, 3) := by decide +kernel
theorem dX9_readLaw_6 : decode cX9_readLaw 6 = .ok (.aload_n 1, 1) := by decide +kernel
theorem dX9_readLaw_7 : decode cX9_readLaw 7 = .ok (.aload_n 0, 1) := by decide +kernel
theorem dX9_readLaw_8 : decode cX9_readLaw 8 = .ok (.iconst 4, 1) := by decide +kernel
theorem dX9_readLaw_9 : decode cX9_readLaw 9 = .ok (.bipush 12, 2) := by decide +kernel
theorem dX9_readLaw_11 : decode cX9_readLaw 11 = .ok (.invokevirtual 56, 3) := by decide +kernel
theorem dX9_readLaw_14 : decode cX9_readLaw 14 = .ok (.putfield 60, 3) := by decide +kernel
theorem dX9_readLaw_17 : decode cX9_readLaw 17 = .ok (.aload_n 0, 1) := by decide +kernel
theorem dX9_readLaw_18 : decode cX9_readLaw 18 = .ok (.bipush 44, 2) := by decide +kernel
theorem dX9_readLaw_20 : decode cX9_readLaw 20 = .ok (.invokevirtual 53, 3) := by decide +kernel
theorem dX9_readLaw_23 : decode cX9_readLaw 23 = .ok (.aload_n 1, 1) := by decide +kernel
theorem dX9_readLaw_24 : decode cX9_readLaw 24 = .ok (.aload_n 0, 1) := by decide +kernel
theorem dX9_readLaw_25 : decode cX9_readLaw 25 = .ok (.iconst 0, 1) := by decide +kernel
theorem dX9_readLaw_26 : decode cX9_readLaw 26 = .ok (.bipush 9, 2) := by decide +kernel
theorem dX9_readLaw_28 : decode cX9_readLaw 28 = .ok (.invokevirtual 56, 3) := by decide +kernel
theorem dX9_readLaw_31 : decode cX9_readLaw 31 = .ok (.putfield 63, 3) := by decide +kernel
theorem dX9_readLaw_34 : decode cX9_readLaw 34 = .ok (.aload_n 0, 1) := by decide +kernel
theorem dX9_readLaw_35 : decode cX9_readLaw 35 = .ok (.bipush 44, 2) := by decide +kernel
theorem dX9_readLaw_37 : decode cX9_readLaw 37 = .ok (.invokevirtual 53, 3) := by decide +kernel
theorem dX9_readLaw_40 : decode cX9_readLaw 40 = .ok (.aload_n 1, 1) := by decide +kernel
theorem dX9_readLaw_41 : decode cX9_readLaw 41 = .ok (.aload_n 0, 1) := by decide +kernel
theorem dX9_readLaw_42 : decode cX9_readLaw 42 = .ok (.iconst 0, 1) := by decide +kernel
theorem dX9_readLaw_43 : decode cX9_readLaw 43 = .ok (.bipush 20, 2) := by decide +kernel
theorem dX9_readLaw_45 : decode cX9_readLaw 45 = .ok (.invokevirtual 56, 3) := by decide +kernel
theorem dX9_readLaw_48 : decode cX9_readLaw 48 = .ok (.putfield 66, 3) := by decide +kernel
theorem dX9_readLaw_51 : decode cX9_readLaw 51 = .ok (.aload_n 0, 1) := by decide +kernel
theorem dX9_readLaw_52 : decode cX9_readLaw 52 = .ok (.bipush 44, 2) := by decide +kernel
theorem dX9_readLaw_54 : decode cX9_readLaw 54 = .ok (.invokevirtual 53, 3) := by decide +kernel
theorem dX9_readLaw_57 : decode cX9_readLaw 57 = .ok (.aload_n 1, 1) := by decide +kernel
theorem dX9_readLaw_58 : decode cX9_readLaw 58 = .ok (.aload_n 0, 1) := by decide +kernel
theorem dX9_readLaw_59 : decode cX9_readLaw 59 = .ok (.iconst 0, 1) := by decide +kernel
theorem dX9_readLaw_60 : decode cX9_readLaw 60 = .ok (.bipush 9, 2) := by decide +kernel
theorem dX9_readLaw_62 : decode cX9_readLaw 62 = .ok (.invokevirtual 56, 3) := by decide +kernel
theorem dX9_readLaw_65 : decode cX9_readLaw 65 = .ok (.putfield 69, 3) := by decide +kernel
theorem dX9_readLaw_68 : decode cX9_readLaw 68 = .ok (.aload_n 0, 1) := by decide +kernel
theorem dX9_readLaw_69 : decode cX9_readLaw 69 = .ok (.bipush 59, 2) := by decide +kernel
theorem dX9_readLaw_71 : decode cX9_readLaw 71 = .ok (.invokevirtual 53, 3) := by decide +kernel
theorem dX9_readLaw_74 : decode cX9_readLaw 74 = .ok (.return_, 1) := by decide +kernel
theorem dX9_readPlaces_0 : decode cX9_readPlaces 0 = .ok (.aload_n 0, 1) := by decide +kernel
theorem dX9_readPlaces_1 : decode cX9_readPlaces 1 = .ok (.bipush 112, 2) := by decide +kernel
theorem dX9_readPlaces_3 : decode cX9_readPlaces 3 = .ok (.invokevirtual 53, 3) := by decide +kernel
theorem dX9_readPlaces_6 : decode cX9_readPlaces 6 = .ok (.iconst 0, 1) := by decide +kernel
theorem dX9_readPlaces_7 : decode cX9_readPlaces 7 = .ok (.istore_n 2, 1) := by decide +kernel
theorem dX9_readPlaces_8 : decode cX9_readPlaces 8 = .ok (.iload_n 2, 1) := by decide +kernel
theorem dX9_readPlaces_9 : decode cX9_readPlaces 9 = .ok (.aload_n 1, 1) := by decide +kernel
theorem dX9_readPlaces_10 : decode cX9_readPlaces 10 = .ok (.getfield 60, 3) := by decide +kernel
theorem dX9_readPlaces_13 : decode cX9_readPlaces 13 = .ok (.if_icmp .ge 32, 3) := by decide +kernel
theorem dX9_readPlaces_16 : decode cX9_readPlaces 16 = .ok (.iload_n 2, 1) := by decide +kernel
theorem dX9_readPlaces_17 : decode cX9_readPlaces 17 = .ok (.ifCond .le 9, 3) := by decide +kernel
theorem dX9_readPlaces_20 : decode cX9_readPlaces 20 = .ok (.aload_n 0, 1) := by decide +kernel
theorem dX9_readPlaces_21 : decode cX9_readPlaces 21 = .ok (.bipush 44, 2) := by decide +kernel
theorem dX9_readPlaces_23 : decode cX9_readPlaces 23 = .ok (.invokevirtual 53, 3) := by decide +kernel
theorem dX9_readPlaces_26 : decode cX9_readPlaces 26 = .ok (.aload_n 1, 1) := by decide +kernel
theorem dX9_readPlaces_27 : decode cX9_readPlaces 27 = .ok (.getfield 72, 3) := by decide +kernel
theorem dX9_readPlaces_30 : decode cX9_readPlaces 30 = .ok (.iload_n 2, 1) := by decide +kernel
theorem dX9_readPlaces_31 : decode cX9_readPlaces 31 = .ok (.aload_n 0, 1) := by decide +kernel
theorem dX9_readPlaces_32 : decode cX9_readPlaces 32 = .ok (.iconst 1, 1) := by decide +kernel
theorem dX9_readPlaces_33 : decode cX9_readPlaces 33 = .ok (.bipush 9, 2) := by decide +kernel
theorem dX9_readPlaces_35 : decode cX9_readPlaces 35 = .ok (.invokevirtual 56, 3) := by decide +kernel
theorem dX9_readPlaces_38 : decode cX9_readPlaces 38 = .ok (.iastore, 1) := by decide +kernel
theorem dX9_readPlaces_39 : decode cX9_readPlaces 39 = .ok (.iinc 2 1, 3) := by decide +kernel
theorem dX9_readPlaces_42 : decode cX9_readPlaces 42 = .ok (.goto (-34), 3) := by decide +kernel
theorem dX9_readPlaces_45 : decode cX9_readPlaces 45 = .ok (.aload_n 0, 1) := by decide +kernel
theorem dX9_readPlaces_46 : decode cX9_readPlaces 46 = .ok (.bipush 59, 2) := by decide +kernel
theorem dX9_readPlaces_48 : decode cX9_readPlaces 48 = .ok (.invokevirtual 53, 3) := by decide +kernel
theorem dX9_readPlaces_51 : decode cX9_readPlaces 51 = .ok (.return_, 1) := by decide +kernel
theorem dX9_readRidge_0 : decode cX9_readRidge 0 = .ok (.aload_n 1, 1) := by decide +kernel
theorem dX9_readRidge_1 : decode cX9_readRidge 1 = .ok (.getfield 75, 3) := by decide +kernel
theorem dX9_readRidge_4 : decode cX9_readRidge 4 = .ok (.iconst 4, 1) := by decide +kernel
theorem dX9_readRidge_5 : decode cX9_readRidge 5 = .ok (.if_icmp .lt 8, 3) := by decide +kernel
theorem dX9_readRidge_8 : decode cX9_readRidge 8 = .ok (.aload_n 0, 1) := by decide +kernel
theorem dX9_readRidge_9 : decode cX9_readRidge 9 = .ok (.iconst 3, 1) := by decide +kernel
theorem dX9_readRidge_10 : decode cX9_readRidge 10 = .ok (.invokevirtual 49, 3) := by decide +kernel
theorem dX9_readRidge_13 : decode cX9_readRidge 13 = .ok (.aload_n 0, 1) := by decide +kernel
theorem dX9_readRidge_14 : decode cX9_readRidge 14 = .ok (.bipush 114, 2) := by decide +kernel
theorem dX9_readRidge_16 : decode cX9_readRidge 16 = .ok (.invokevirtual 53, 3) := by decide +kernel
theorem dX9_readRidge_19 : decode cX9_readRidge 19 = .ok (.aload_n 0, 1) := by decide +kernel
theorem dX9_readRidge_20 : decode cX9_readRidge 20 = .ok (.getfield 19, 3) := by decide +kernel
theorem dX9_readRidge_23 : decode cX9_readRidge 23 = .ok (.istore_n 2, 1) := by decide +kernel
theorem dX9_readRidge_24 : decode cX9_readRidge 24 = .ok (.aload_n 0, 1) := by decide +kernel
theorem dX9_readRidge_25 : decode cX9_readRidge 25 = .ok (.iconst 0, 1) := by decide +kernel
theorem dX9_readRidge_26 : decode cX9_readRidge 26 = .ok (.aload_n 1, 1) := by decide +kernel
theorem dX9_readRidge_27 : decode cX9_readRidge 27 = .ok (.getfield 60, 3) := by decide +kernel
theorem dX9_readRidge_30 : decode cX9_readRidge 30 = .ok (.iconst 1, 1) := by decide +kernel
theorem dX9_readRidge_31 : decode cX9_readRidge 31 = .ok (.isub, 1) := by decide +kernel
theorem dX9_readRidge_32 : decode cX9_readRidge 32 = .ok (.invokevirtual 56, 3) := by decide +kernel
theorem dX9_readRidge_35 : decode cX9_readRidge 35 = .ok (.istore_n 3, 1) := by decide +kernel
theorem dX9_readRidge_36 : decode cX9_readRidge 36 = .ok (.aload_n 1, 1) := by decide +kernel
theorem dX9_readRidge_37 : decode cX9_readRidge 37 = .ok (.getfield 78, 3) := by decide +kernel
theorem dX9_readRidge_40 : decode cX9_readRidge 40 = .ok (.iload_n 3, 1) := by decide +kernel
theorem dX9_readRidge_41 : decode cX9_readRidge 41 = .ok (.iaload, 1) := by decide +kernel
theorem dX9_readRidge_42 : decode cX9_readRidge 42 = .ok (.ifCond .eq 20, 3) := by decide +kernel
theorem dX9_readRidge_45 : decode cX9_readRidge 45 = .ok (.aload_n 0, 1) := by decide +kernel
theorem dX9_readRidge_46 : decode cX9_readRidge 46 = .ok (.getfield 22, 3) := by decide +kernel
theorem dX9_readRidge_49 : decode cX9_readRidge 49 = .ok (.ifCond .ne 13, 3) := by decide +kernel
theorem dX9_readRidge_52 : decode cX9_readRidge 52 = .ok (.aload_n 0, 1) := by decide +kernel
theorem dX9_readRidge_53 : decode cX9_readRidge 53 = .ok (.iload_n 2, 1) := by decide +kernel
theorem dX9_readRidge_54 : decode cX9_readRidge 54 = .ok (.putfield 19, 3) := by decide +kernel
theorem dX9_readRidge_57 : decode cX9_readRidge 57 = .ok (.aload_n 0, 1) := by decide +kernel
theorem dX9_readRidge_58 : decode cX9_readRidge 58 = .ok (.iconst 2, 1) := by decide +kernel
theorem dX9_readRidge_59 : decode cX9_readRidge 59 = .ok (.invokevirtual 49, 3) := by decide +kernel
theorem dX9_readRidge_62 : decode cX9_readRidge 62 = .ok (.aload_n 0, 1) := by decide +kernel
theorem dX9_readRidge_63 : decode cX9_readRidge 63 = .ok (.bipush 44, 2) := by decide +kernel
theorem dX9_readRidge_65 : decode cX9_readRidge 65 = .ok (.invokevirtual 53, 3) := by decide +kernel
theorem dX9_readRidge_68 : decode cX9_readRidge 68 = .ok (.aload_n 0, 1) := by decide +kernel
theorem dX9_readRidge_69 : decode cX9_readRidge 69 = .ok (.iconst 1, 1) := by decide +kernel
theorem dX9_readRidge_70 : decode cX9_readRidge 70 = .ok (.bipush 9, 2) := by decide +kernel
theorem dX9_readRidge_72 : decode cX9_readRidge 72 = .ok (.invokevirtual 56, 3) := by decide +kernel
theorem dX9_readRidge_75 : decode cX9_readRidge 75 = .ok (.istore 4, 2) := by decide +kernel
theorem dX9_readRidge_77 : decode cX9_readRidge 77 = .ok (.aload_n 0, 1) := by decide +kernel
theorem dX9_readRidge_78 : decode cX9_readRidge 78 = .ok (.bipush 59, 2) := by decide +kernel
theorem dX9_readRidge_80 : decode cX9_readRidge 80 = .ok (.invokevirtual 53, 3) := by decide +kernel
theorem dX9_readRidge_83 : decode cX9_readRidge 83 = .ok (.aload_n 0, 1) := by decide +kernel
theorem dX9_readRidge_84 : decode cX9_readRidge 84 = .ok (.getfield 22, 3) := by decide +kernel
theorem dX9_readRidge_87 : decode cX9_readRidge 87 = .ok (.ifCond .ne 21, 3) := by decide +kernel
theorem dX9_readRidge_90 : decode cX9_readRidge 90 = .ok (.aload_n 1, 1) := by decide +kernel
theorem dX9_readRidge_91 : decode cX9_readRidge 91 = .ok (.getfield 78, 3) := by decide +kernel
theorem dX9_readRidge_94 : decode cX9_readRidge 94 = .ok (.iload_n 3, 1) := by decide +kernel
theorem dX9_readRidge_95 : decode cX9_readRidge 95 = .ok (.iload 4, 2) := by decide +kernel
theorem dX9_readRidge_97 : decode cX9_readRidge 97 = .ok (.iastore, 1) := by decide +kernel
theorem dX9_readRidge_98 : decode cX9_readRidge 98 = .ok (.aload_n 1, 1) := by decide +kernel
theorem dX9_readRidge_99 : decode cX9_readRidge 99 = .ok (.dup, 1) := by decide +kernel
theorem dX9_readRidge_100 : decode cX9_readRidge 100 = .ok (.getfield 75, 3) := by decide +kernel
theorem dX9_readRidge_103 : decode cX9_readRidge 103 = .ok (.iconst 1, 1) := by decide +kernel
theorem dX9_readRidge_104 : decode cX9_readRidge 104 = .ok (.iadd, 1) := by decide +kernel
theorem dX9_readRidge_105 : decode cX9_readRidge 105 = .ok (.putfield 75, 3) := by decide +kernel
theorem dX9_readRidge_108 : decode cX9_readRidge 108 = .ok (.return_, 1) := by decide +kernel
theorem dX9_readSeeker_0 : decode cX9_readSeeker 0 = .ok (.aload_n 1, 1) := by decide +kernel
theorem dX9_readSeeker_1 : decode cX9_readSeeker 1 = .ok (.getfield 81, 3) := by decide +kernel
theorem dX9_readSeeker_4 : decode cX9_readSeeker 4 = .ok (.iconst 4, 1) := by decide +kernel
theorem dX9_readSeeker_5 : decode cX9_readSeeker 5 = .ok (.if_icmp .lt 8, 3) := by decide +kernel
theorem dX9_readSeeker_8 : decode cX9_readSeeker 8 = .ok (.aload_n 0, 1) := by decide +kernel
theorem dX9_readSeeker_9 : decode cX9_readSeeker 9 = .ok (.iconst 3, 1) := by decide +kernel
theorem dX9_readSeeker_10 : decode cX9_readSeeker 10 = .ok (.invokevirtual 49, 3) := by decide +kernel
theorem dX9_readSeeker_13 : decode cX9_readSeeker 13 = .ok (.aload_n 0, 1) := by decide +kernel
theorem dX9_readSeeker_14 : decode cX9_readSeeker 14 = .ok (.invokevirtual 35, 3) := by decide +kernel
theorem dX9_readSeeker_17 : decode cX9_readSeeker 17 = .ok (.istore_n 2, 1) := by decide +kernel
theorem dX9_readSeeker_18 : decode cX9_readSeeker 18 = .ok (.aload_n 0, 1) := by decide +kernel
theorem dX9_readSeeker_19 : decode cX9_readSeeker 19 = .ok (.iload_n 2, 1) := by decide +kernel
theorem dX9_readSeeker_20 : decode cX9_readSeeker 20 = .ok (.invokevirtual 53, 3) := by decide +kernel
theorem dX9_readSeeker_23 : decode cX9_readSeeker 23 = .ok (.aload_n 0, 1) := by decide +kernel
theorem dX9_readSeeker_24 : decode cX9_readSeeker 24 = .ok (.iconst 0, 1) := by decide +kernel
theorem dX9_readSeeker_25 : decode cX9_readSeeker 25 = .ok (.bipush 10, 2) := by decide +kernel
theorem dX9_readSeeker_27 : decode cX9_readSeeker 27 = .ok (.invokevirtual 56, 3) := by decide +kernel
theorem dX9_readSeeker_30 : decode cX9_readSeeker 30 = .ok (.istore_n 3, 1) := by decide +kernel
theorem dX9_readSeeker_31 : decode cX9_readSeeker 31 = .ok (.aload_n 0, 1) := by decide +kernel
theorem dX9_readSeeker_32 : decode cX9_readSeeker 32 = .ok (.bipush 44, 2) := by decide +kernel
theorem dX9_readSeeker_34 : decode cX9_readSeeker 34 = .ok (.invokevirtual 53, 3) := by decide +kernel
theorem dX9_readSeeker_37 : decode cX9_readSeeker 37 = .ok (.aload_n 0, 1) := by decide +kernel
theorem dX9_readSeeker_38 : decode cX9_readSeeker 38 = .ok (.iconst 0, 1) := by decide +kernel
theorem dX9_readSeeker_39 : decode cX9_readSeeker 39 = .ok (.bipush 10, 2) := by decide +kernel
theorem dX9_readSeeker_41 : decode cX9_readSeeker 41 = .ok (.invokevirtual 56, 3) := by decide +kernel
theorem dX9_readSeeker_44 : decode cX9_readSeeker 44 = .ok (.istore 4, 2) := by decide +kernel
theorem dX9_readSeeker_46 : decode cX9_readSeeker 46 = .ok (.aload_n 0, 1) := by decide +kernel
theorem dX9_readSeeker_47 : decode cX9_readSeeker 47 = .ok (.bipush 59, 2) := by decide +kernel
theorem dX9_readSeeker_49 : decode cX9_readSeeker 49 = .ok (.invokevirtual 53, 3) := by decide +kernel
theorem dX9_readSeeker_52 : decode cX9_readSeeker 52 = .ok (.aload_n 0, 1) := by decide +kernel
theorem dX9_readSeeker_53 : decode cX9_readSeeker 53 = .ok (.getfield 22, 3) := by decide +kernel
theorem dX9_readSeeker_56 : decode cX9_readSeeker 56 = .ok (.ifCond .ne 33, 3) := by decide +kernel
theorem dX9_readSeeker_59 : decode cX9_readSeeker 59 = .ok (.aload_n 1, 1) := by decide +kernel
theorem dX9_readSeeker_60 : decode cX9_readSeeker 60 = .ok (.getfield 84, 3) := by decide +kernel
theorem dX9_readSeeker_63 : decode cX9_readSeeker 63 = .ok (.aload_n 1, 1) := by decide +kernel
theorem dX9_readSeeker_64 : decode cX9_readSeeker 64 = .ok (.getfield 81, 3) := by decide +kernel
theorem dX9_readSeeker_67 : decode cX9_readSeeker 67 = .ok (.iload_n 2, 1) := by decide +kernel
theorem dX9_readSeeker_68 : decode cX9_readSeeker 68 = .ok (.aload_n 1, 1) := by decide +kernel
theorem dX9_readSeeker_69 : decode cX9_readSeeker 69 = .ok (.getfield 81, 3) := by decide +kernel
theorem dX9_readSeeker_72 : decode cX9_readSeeker 72 = .ok (.iload_n 3, 1) := by decide +kernel
theorem dX9_readSeeker_73 : decode cX9_readSeeker 73 = .ok (.iload 4, 2) := by decide +kernel
theorem dX9_readSeeker_75 : decode cX9_readSeeker 75 = .ok (.invokestatic 88, 3) := by decide +kernel
theorem dX9_readSeeker_78 : decode cX9_readSeeker 78 = .ok (.aastore, 1) := by decide +kernel
theorem dX9_readSeeker_79 : decode cX9_readSeeker 79 = .ok (.aload_n 1, 1) := by decide +kernel
theorem dX9_readSeeker_80 : decode cX9_readSeeker 80 = .ok (.dup, 1) := by decide +kernel
theorem dX9_readSeeker_81 : decode cX9_readSeeker 81 = .ok (.getfield 81, 3) := by decide +kernel
theorem dX9_readSeeker_84 : decode cX9_readSeeker 84 = .ok (.iconst 1, 1) := by decide +kernel
theorem dX9_readSeeker_85 : decode cX9_readSeeker 85 = .ok (.iadd, 1) := by decide +kernel
theorem dX9_readSeeker_86 : decode cX9_readSeeker 86 = .ok (.putfield 81, 3) := by decide +kernel
theorem dX9_readSeeker_89 : decode cX9_readSeeker 89 = .ok (.return_, 1) := by decide +kernel
theorem dX9_seekerOf_0 : decode cX9_seekerOf 0 = .ok (.iload_n 0, 1) := by decide +kernel
theorem dX9_seekerOf_1 : decode cX9_seekerOf 1 = .ok (.lookupswitch 87 #[(98, 43), (108, 54), (109, 65), (116, 76)], 43) := by decide +kernel
theorem dX9_seekerOf_44 : decode cX9_seekerOf 44 = .ok (.new 92, 3) := by decide +kernel
theorem dX9_seekerOf_47 : decode cX9_seekerOf 47 = .ok (.dup, 1) := by decide +kernel
theorem dX9_seekerOf_48 : decode cX9_seekerOf 48 = .ok (.iload_n 1, 1) := by decide +kernel
theorem dX9_seekerOf_49 : decode cX9_seekerOf 49 = .ok (.iload_n 2, 1) := by decide +kernel
theorem dX9_seekerOf_50 : decode cX9_seekerOf 50 = .ok (.iload_n 3, 1) := by decide +kernel
theorem dX9_seekerOf_51 : decode cX9_seekerOf 51 = .ok (.invokespecial 94, 3) := by decide +kernel
theorem dX9_seekerOf_54 : decode cX9_seekerOf 54 = .ok (.areturn, 1) := by decide +kernel
theorem dX9_seekerOf_55 : decode cX9_seekerOf 55 = .ok (.new 97, 3) := by decide +kernel
theorem dX9_seekerOf_58 : decode cX9_seekerOf 58 = .ok (.dup, 1) := by decide +kernel
theorem dX9_seekerOf_59 : decode cX9_seekerOf 59 = .ok (.iload_n 1, 1) := by decide +kernel
theorem dX9_seekerOf_60 : decode cX9_seekerOf 60 = .ok (.iload_n 2, 1) := by decide +kernel
theorem dX9_seekerOf_61 : decode cX9_seekerOf 61 = .ok (.iload_n 3, 1) := by decide +kernel
theorem dX9_seekerOf_62 : decode cX9_seekerOf 62 = .ok (.invokespecial 99, 3) := by decide +kernel
theorem dX9_seekerOf_65 : decode cX9_seekerOf 65 = .ok (.areturn, 1) := by decide +kernel
theorem dX9_seekerOf_66 : decode cX9_seekerOf 66 = .ok (.new 100, 3) := by decide +kernel
theorem dX9_seekerOf_69 : decode cX9_seekerOf 69 = .ok (.dup, 1) := by decide +kernel
theorem dX9_seekerOf_70 : decode cX9_seekerOf 70 = .ok (.iload_n 1, 1) := by decide +kernel
theorem dX9_seekerOf_71 : decode cX9_seekerOf 71 = .ok (.iload_n 2, 1) := by decide +kernel
theorem dX9_seekerOf_72 : decode cX9_seekerOf 72 = .ok (.iload_n 3, 1) := by decide +kernel
theorem dX9_seekerOf_73 : decode cX9_seekerOf 73 = .ok (.invokespecial 102, 3) := by decide +kernel
theorem dX9_seekerOf_76 : decode cX9_seekerOf 76 = .ok (.areturn, 1) := by decide +kernel
theorem dX9_seekerOf_77 : decode cX9_seekerOf 77 = .ok (.new 103, 3) := by decide +kernel
theorem dX9_seekerOf_80 : decode cX9_seekerOf 80 = .ok (.dup, 1) := by decide +kernel
theorem dX9_seekerOf_81 : decode cX9_seekerOf 81 = .ok (.iload_n 1, 1) := by decide +kernel
theorem dX9_seekerOf_82 : decode cX9_seekerOf 82 = .ok (.iload_n 2, 1) := by decide +kernel
theorem dX9_seekerOf_83 : decode cX9_seekerOf 83 = .ok (.iload_n 3, 1) := by decide +kernel
theorem dX9_seekerOf_84 : decode cX9_seekerOf 84 = .ok (.invokespecial 105, 3) := by decide +kernel
theorem dX9_seekerOf_87 : decode cX9_seekerOf 87 = .ok (.areturn, 1) := by decide +kernel
theorem dX9_seekerOf_88 : decode cX9_seekerOf 88 = .ok (.new 106, 3) := by decide +kernel
theorem dX9_seekerOf_91 : decode cX9_seekerOf 91 = .ok (.dup, 1) := by decide +kernel
theorem dX9_seekerOf_92 : decode cX9_seekerOf 92 = .ok (.iload_n 1, 1) := by decide +kernel
theorem dX9_seekerOf_93 : decode cX9_seekerOf 93 = .ok (.iload_n 2, 1) := by decide +kernel
theorem dX9_seekerOf_94 : decode cX9_seekerOf 94 = .ok (.iload_n 3, 1) := by decide +kernel
theorem dX9_seekerOf_95 : decode cX9_seekerOf 95 = .ok (.invokespecial 108, 3) := by decide +kernel
theorem dX9_seekerOf_98 : decode cX9_seekerOf 98 = .ok (.areturn, 1) := by decide +kernel
theorem dX9_fail_0 : decode cX9_fail 0 = .ok (.aload_n 0, 1) := by decide +kernel
theorem dX9_fail_1 : decode cX9_fail 1 = .ok (.getfield 22, 3) := by decide +kernel
theorem dX9_fail_4 : decode cX9_fail 4 = .ok (.ifCond .ne 8, 3) := by decide +kernel
theorem dX9_fail_7 : decode cX9_fail 7 = .ok (.aload_n 0, 1) := by decide +kernel
theorem dX9_fail_8 : decode cX9_fail 8 = .ok (.iload_n 1, 1) := by decide +kernel
theorem dX9_fail_9 : decode cX9_fail 9 = .ok (.putfield 22, 3) := by decide +kernel
theorem dX9_fail_12 : decode cX9_fail 12 = .ok (.return_, 1) := by decide +kernel
theorem dX9_letterHere_0 : decode cX9_letterHere 0 = .ok (.aload_n 0, 1) := by decide +kernel
theorem dX9_letterHere_1 : decode cX9_letterHere 1 = .ok (.getfield 22, 3) := by decide +kernel
theorem dX9_letterHere_4 : decode cX9_letterHere 4 = .ok (.ifCond .ne 26, 3) := by decide +kernel
theorem dX9_letterHere_7 : decode cX9_letterHere 7 = .ok (.aload_n 0, 1) := by decide +kernel
theorem dX9_letterHere_8 : decode cX9_letterHere 8 = .ok (.getfield 19, 3) := by decide +kernel
theorem dX9_letterHere_11 : decode cX9_letterHere 11 = .ok (.aload_n 0, 1) := by decide +kernel
theorem dX9_letterHere_12 : decode cX9_letterHere 12 = .ok (.getfield 15, 3) := by decide +kernel
theorem dX9_letterHere_15 : decode cX9_letterHere 15 = .ok (.if_icmp .ge 15, 3) := by decide +kernel
theorem dX9_letterHere_18 : decode cX9_letterHere 18 = .ok (.aload_n 0, 1) := by decide +kernel
theorem dX9_letterHere_19 : decode cX9_letterHere 19 = .ok (.getfield 9, 3) := by decide +kernel
theorem dX9_letterHere_22 : decode cX9_letterHere 22 = .ok (.aload_n 0, 1) := by decide +kernel
theorem dX9_letterHere_23 : decode cX9_letterHere 23 = .ok (.getfield 19, 3) := by decide +kernel
theorem dX9_letterHere_26 : decode cX9_letterHere 26 = .ok (.iaload, 1) := by decide +kernel
theorem dX9_letterHere_27 : decode cX9_letterHere 27 = .ok (.goto 4, 3) := by decide +kernel
theorem dX9_letterHere_30 : decode cX9_letterHere 30 = .ok (.iconst (-1), 1) := by decide +kernel
theorem dX9_letterHere_31 : decode cX9_letterHere 31 = .ok (.ireturn, 1) := by decide +kernel
theorem dX9_takeSign_0 : decode cX9_takeSign 0 = .ok (.aload_n 0, 1) := by decide +kernel
theorem dX9_takeSign_1 : decode cX9_takeSign 1 = .ok (.getfield 22, 3) := by decide +kernel
theorem dX9_takeSign_4 : decode cX9_takeSign 4 = .ok (.ifCond .ne 24, 3) := by decide +kernel
theorem dX9_takeSign_7 : decode cX9_takeSign 7 = .ok (.aload_n 0, 1) := by decide +kernel
theorem dX9_takeSign_8 : decode cX9_takeSign 8 = .ok (.invokevirtual 35, 3) := by decide +kernel
theorem dX9_takeSign_11 : decode cX9_takeSign 11 = .ok (.iload_n 1, 1) := by decide +kernel
theorem dX9_takeSign_12 : decode cX9_takeSign 12 = .ok (.if_icmp .ne 16, 3) := by decide +kernel
theorem dX9_takeSign_15 : decode cX9_takeSign 15 = .ok (.aload_n 0, 1) := by decide +kernel
theorem dX9_takeSign_16 : decode cX9_takeSign 16 = .ok (.dup, 1) := by decide +kernel
theorem dX9_takeSign_17 : decode cX9_takeSign 17 = .ok (.getfield 19, 3) := by decide +kernel
theorem dX9_takeSign_20 : decode cX9_takeSign 20 = .ok (.iconst 1, 1) := by decide +kernel
theorem dX9_takeSign_21 : decode cX9_takeSign 21 = .ok (.iadd, 1) := by decide +kernel
theorem dX9_takeSign_22 : decode cX9_takeSign 22 = .ok (.putfield 19, 3) := by decide +kernel
theorem dX9_takeSign_25 : decode cX9_takeSign 25 = .ok (.goto 8, 3) := by decide +kernel
theorem dX9_takeSign_28 : decode cX9_takeSign 28 = .ok (.aload_n 0, 1) := by decide +kernel
theorem dX9_takeSign_29 : decode cX9_takeSign 29 = .ok (.iconst 1, 1) := by decide +kernel
theorem dX9_takeSign_30 : decode cX9_takeSign 30 = .ok (.invokevirtual 49, 3) := by decide +kernel
theorem dX9_takeSign_33 : decode cX9_takeSign 33 = .ok (.return_, 1) := by decide +kernel
theorem dX9_takeNumber_0 : decode cX9_takeNumber 0 = .ok (.aload_n 0, 1) := by decide +kernel
theorem dX9_takeNumber_1 : decode cX9_takeNumber 1 = .ok (.invokevirtual 109, 3) := by decide +kernel
theorem dX9_takeNumber_4 : decode cX9_takeNumber 4 = .ok (.istore_n 3, 1) := by decide +kernel
theorem dX9_takeNumber_5 : decode cX9_takeNumber 5 = .ok (.aload_n 0, 1) := by decide +kernel
theorem dX9_takeNumber_6 : decode cX9_takeNumber 6 = .ok (.getfield 22, 3) := by decide +kernel
theorem dX9_takeNumber_9 : decode cX9_takeNumber 9 = .ok (.ifCond .ne 13, 3) := by decide +kernel
theorem dX9_takeNumber_12 : decode cX9_takeNumber 12 = .ok (.iload_n 3, 1) := by decide +kernel
theorem dX9_takeNumber_13 : decode cX9_takeNumber 13 = .ok (.iconst 1, 1) := by decide +kernel
theorem dX9_takeNumber_14 : decode cX9_takeNumber 14 = .ok (.if_icmp .lt 8, 3) := by decide +kernel
theorem dX9_takeNumber_17 : decode cX9_takeNumber 17 = .ok (.iload_n 3, 1) := by decide +kernel
theorem dX9_takeNumber_18 : decode cX9_takeNumber 18 = .ok (.iconst 2, 1) := by decide +kernel
theorem dX9_takeNumber_19 : decode cX9_takeNumber 19 = .ok (.if_icmp .le 10, 3) := by decide +kernel
theorem dX9_takeNumber_22 : decode cX9_takeNumber 22 = .ok (.aload_n 0, 1) := by decide +kernel
theorem dX9_takeNumber_23 : decode cX9_takeNumber 23 = .ok (.iconst 1, 1) := by decide +kernel
theorem dX9_takeNumber_24 : decode cX9_takeNumber 24 = .ok (.invokevirtual 49, 3) := by decide +kernel
theorem dX9_takeNumber_27 : decode cX9_takeNumber 27 = .ok (.iconst 0, 1) := by decide +kernel
theorem dX9_takeNumber_28 : decode cX9_takeNumber 28 = .ok (.ireturn, 1) := by decide +kernel
theorem dX9_takeNumber_29 : decode cX9_takeNumber 29 = .ok (.iconst 0, 1) := by decide +kernel
theorem dX9_takeNumber_30 : decode cX9_takeNumber 30 = .ok (.istore 4, 2) := by decide +kernel
theorem dX9_takeNumber_32 : decode cX9_takeNumber 32 = .ok (.aload_n 0, 1) := by decide +kernel
theorem dX9_takeNumber_33 : decode cX9_takeNumber 33 = .ok (.getfield 19, 3) := by decide +kernel
theorem dX9_takeNumber_36 : decode cX9_takeNumber 36 = .ok (.istore 5, 2) := by decide +kernel
theorem dX9_takeNumber_38 : decode cX9_takeNumber 38 = .ok (.iload 5, 2) := by decide +kernel
theorem dX9_takeNumber_40 : decode cX9_takeNumber 40 = .ok (.aload_n 0, 1) := by decide +kernel
theorem dX9_takeNumber_41 : decode cX9_takeNumber 41 = .ok (.getfield 19, 3) := by decide +kernel
theorem dX9_takeNumber_44 : decode cX9_takeNumber 44 = .ok (.iload_n 3, 1) := by decide +kernel
theorem dX9_takeNumber_45 : decode cX9_takeNumber 45 = .ok (.iadd, 1) := by decide +kernel
theorem dX9_takeNumber_46 : decode cX9_takeNumber 46 = .ok (.if_icmp .ge 27, 3) := by decide +kernel
theorem dX9_takeNumber_49 : decode cX9_takeNumber 49 = .ok (.iload 4, 2) := by decide +kernel
theorem dX9_takeNumber_51 : decode cX9_takeNumber 51 = .ok (.bipush 10, 2) := by decide +kernel
theorem dX9_takeNumber_53 : decode cX9_takeNumber 53 = .ok (.imul, 1) := by decide +kernel
theorem dX9_takeNumber_54 : decode cX9_takeNumber 54 = .ok (.aload_n 0, 1) := by decide +kernel
theorem dX9_takeNumber_55 : decode cX9_takeNumber 55 = .ok (.getfield 9, 3) := by decide +kernel
theorem dX9_takeNumber_58 : decode cX9_takeNumber 58 = .ok (.iload 5, 2) := by decide +kernel
theorem dX9_takeNumber_60 : decode cX9_takeNumber 60 = .ok (.iaload, 1) := by decide +kernel
theorem dX9_takeNumber_61 : decode cX9_takeNumber 61 = .ok (.iadd, 1) := by decide +kernel
theorem dX9_takeNumber_62 : decode cX9_takeNumber 62 = .ok (.bipush 48, 2) := by decide +kernel
theorem dX9_takeNumber_64 : decode cX9_takeNumber 64 = .ok (.isub, 1) := by decide +kernel
theorem dX9_takeNumber_65 : decode cX9_takeNumber 65 = .ok (.istore 4, 2) := by decide +kernel
theorem dX9_takeNumber_67 : decode cX9_takeNumber 67 = .ok (.iinc 5 1, 3) := by decide +kernel
theorem dX9_takeNumber_70 : decode cX9_takeNumber 70 = .ok (.goto (-32), 3) := by decide +kernel
theorem dX9_takeNumber_73 : decode cX9_takeNumber 73 = .ok (.iload 4, 2) := by decide +kernel
theorem dX9_takeNumber_75 : decode cX9_takeNumber 75 = .ok (.iload_n 1, 1) := by decide +kernel
theorem dX9_takeNumber_76 : decode cX9_takeNumber 76 = .ok (.if_icmp .lt 9, 3) := by decide +kernel
theorem dX9_takeNumber_79 : decode cX9_takeNumber 79 = .ok (.iload 4, 2) := by decide +kernel
theorem dX9_takeNumber_81 : decode cX9_takeNumber 81 = .ok (.iload_n 2, 1) := by decide +kernel
theorem dX9_takeNumber_82 : decode cX9_takeNumber 82 = .ok (.if_icmp .le 10, 3) := by decide +kernel
theorem dX9_takeNumber_85 : decode cX9_takeNumber 85 = .ok (.aload_n 0, 1) := by decide +kernel
theorem dX9_takeNumber_86 : decode cX9_takeNumber 86 = .ok (.iconst 2, 1) := by decide +kernel
theorem dX9_takeNumber_87 : decode cX9_takeNumber 87 = .ok (.invokevirtual 49, 3) := by decide +kernel
theorem dX9_takeNumber_90 : decode cX9_takeNumber 90 = .ok (.iconst 0, 1) := by decide +kernel
theorem dX9_takeNumber_91 : decode cX9_takeNumber 91 = .ok (.ireturn, 1) := by decide +kernel
theorem dX9_takeNumber_92 : decode cX9_takeNumber 92 = .ok (.aload_n 0, 1) := by decide +kernel
theorem dX9_takeNumber_93 : decode cX9_takeNumber 93 = .ok (.dup, 1) := by decide +kernel
theorem dX9_takeNumber_94 : decode cX9_takeNumber 94 = .ok (.getfield 19, 3) := by decide +kernel
theorem dX9_takeNumber_97 : decode cX9_takeNumber 97 = .ok (.iload_n 3, 1) := by decide +kernel
theorem dX9_takeNumber_98 : decode cX9_takeNumber 98 = .ok (.iadd, 1) := by decide +kernel
theorem dX9_takeNumber_99 : decode cX9_takeNumber 99 = .ok (.putfield 19, 3) := by decide +kernel
theorem dX9_takeNumber_102 : decode cX9_takeNumber 102 = .ok (.iload 4, 2) := by decide +kernel
theorem dX9_takeNumber_104 : decode cX9_takeNumber 104 = .ok (.ireturn, 1) := by decide +kernel
theorem dX9_figuresHere_0 : decode cX9_figuresHere 0 = .ok (.aload_n 0, 1) := by decide +kernel
theorem dX9_figuresHere_1 : decode cX9_figuresHere 1 = .ok (.getfield 19, 3) := by decide +kernel
theorem dX9_figuresHere_4 : decode cX9_figuresHere 4 = .ok (.istore_n 1, 1) := by decide +kernel
theorem dX9_figuresHere_5 : decode cX9_figuresHere 5 = .ok (.iload_n 1, 1) := by decide +kernel
theorem dX9_figuresHere_6 : decode cX9_figuresHere 6 = .ok (.aload_n 0, 1) := by decide +kernel
theorem dX9_figuresHere_7 : decode cX9_figuresHere 7 = .ok (.getfield 15, 3) := by decide +kernel
theorem dX9_figuresHere_10 : decode cX9_figuresHere 10 = .ok (.if_icmp .ge 31, 3) := by decide +kernel
theorem dX9_figuresHere_13 : decode cX9_figuresHere 13 = .ok (.aload_n 0, 1) := by decide +kernel
theorem dX9_figuresHere_14 : decode cX9_figuresHere 14 = .ok (.getfield 9, 3) := by decide +kernel
theorem dX9_figuresHere_17 : decode cX9_figuresHere 17 = .ok (.iload_n 1, 1) := by decide +kernel
theorem dX9_figuresHere_18 : decode cX9_figuresHere 18 = .ok (.iaload, 1) := by decide +kernel
theorem dX9_figuresHere_19 : decode cX9_figuresHere 19 = .ok (.bipush 48, 2) := by decide +kernel
theorem dX9_figuresHere_21 : decode cX9_figuresHere 21 = .ok (.if_icmp .lt 20, 3) := by decide +kernel
theorem dX9_figuresHere_24 : decode cX9_figuresHere 24 = .ok (.aload_n 0, 1) := by decide +kernel
theorem dX9_figuresHere_25 : decode cX9_figuresHere 25 = .ok (.getfield 9, 3) := by decide +kernel
theorem dX9_figuresHere_28 : decode cX9_figuresHere 28 = .ok (.iload_n 1, 1) := by decide +kernel
theorem dX9_figuresHere_29 : decode cX9_figuresHere 29 = .ok (.iaload, 1) := by decide +kernel
theorem dX9_figuresHere_30 : decode cX9_figuresHere 30 = .ok (.bipush 57, 2) := by decide +kernel
theorem dX9_figuresHere_32 : decode cX9_figuresHere 32 = .ok (.if_icmp .gt 9, 3) := by decide +kernel
theorem dX9_figuresHere_35 : decode cX9_figuresHere 35 = .ok (.iinc 1 1, 3) := by decide +kernel
theorem dX9_figuresHere_38 : decode cX9_figuresHere 38 = .ok (.goto (-33), 3) := by decide +kernel
theorem dX9_figuresHere_41 : decode cX9_figuresHere 41 = .ok (.iload_n 1, 1) := by decide +kernel
theorem dX9_figuresHere_42 : decode cX9_figuresHere 42 = .ok (.aload_n 0, 1) := by decide +kernel
theorem dX9_figuresHere_43 : decode cX9_figuresHere 43 = .ok (.getfield 19, 3) := by decide +kernel
theorem dX9_figuresHere_46 : decode cX9_figuresHere 46 = .ok (.isub, 1) := by decide +kernel
theorem dX9_figuresHere_47 : decode cX9_figuresHere 47 = .ok (.ireturn, 1) := by decide +kernel
theorem dX9_isSort_0 : decode cX9_isSort 0 = .ok (.iload_n 0, 1) := by decide +kernel
theorem dX9_isSort_1 : decode cX9_isSort 1 = .ok (.bipush 117, 2) := by decide +kernel
theorem dX9_isSort_3 : decode cX9_isSort 3 = .ok (.if_icmp .eq 27, 3) := by decide +kernel
theorem dX9_isSort_6 : decode cX9_isSort 6 = .ok (.iload_n 0, 1) := by decide +kernel
theorem dX9_isSort_7 : decode cX9_isSort 7 = .ok (.bipush 98, 2) := by decide +kernel
theorem dX9_isSort_9 : decode cX9_isSort 9 = .ok (.if_icmp .eq 21, 3) := by decide +kernel
theorem dX9_isSort_12 : decode cX9_isSort 12 = .ok (.iload_n 0, 1) := by decide +kernel
theorem dX9_isSort_13 : decode cX9_isSort 13 = .ok (.bipush 108, 2) := by decide +kernel
theorem dX9_isSort_15 : decode cX9_isSort 15 = .ok (.if_icmp .eq 15, 3) := by decide +kernel
theorem dX9_isSort_18 : decode cX9_isSort 18 = .ok (.iload_n 0, 1) := by decide +kernel
theorem dX9_isSort_19 : decode cX9_isSort 19 = .ok (.bipush 109, 2) := by decide +kernel
theorem dX9_isSort_21 : decode cX9_isSort 21 = .ok (.if_icmp .eq 9, 3) := by decide +kernel
theorem dX9_isSort_24 : decode cX9_isSort 24 = .ok (.iload_n 0, 1) := by decide +kernel
theorem dX9_isSort_25 : decode cX9_isSort 25 = .ok (.bipush 116, 2) := by decide +kernel
theorem dX9_isSort_27 : decode cX9_isSort 27 = .ok (.if_icmp .ne 7, 3) := by decide +kernel
theorem dX9_isSort_30 : decode cX9_isSort 30 = .ok (.iconst 1, 1) := by decide +kernel
theorem dX9_isSort_31 : decode cX9_isSort 31 = .ok (.goto 4, 3) := by decide +kernel
theorem dX9_isSort_34 : decode cX9_isSort 34 = .ok (.iconst 0, 1) := by decide +kernel
theorem dX9_isSort_35 : decode cX9_isSort 35 = .ok (.ireturn, 1) := by decide +kernel
theorem dX10_init_0 : decode cX10_init 0 = .ok (.aload_n 0, 1) := by decide +kernel
theorem dX10_init_1 : decode cX10_init 1 = .ok (.invokespecial 3, 3) := by decide +kernel
theorem dX10_init_4 : decode cX10_init 4 = .ok (.aload_n 0, 1) := by decide +kernel
theorem dX10_init_5 : decode cX10_init 5 = .ok (.bipush 16, 2) := by decide +kernel
theorem dX10_init_7 : decode cX10_init 7 = .ok (.newarray .int, 2) := by decide +kernel
theorem dX10_init_9 : decode cX10_init 9 = .ok (.putfield 9, 3) := by decide +kernel
theorem dX10_init_12 : decode cX10_init 12 = .ok (.return_, 1) := by decide +kernel
theorem dX10_leave_0 : decode cX10_leave 0 = .ok (.aload_n 0, 1) := by decide +kernel
theorem dX10_leave_1 : decode cX10_leave 1 = .ok (.getfield 15, 3) := by decide +kernel
theorem dX10_leave_4 : decode cX10_leave 4 = .ok (.bipush 16, 2) := by decide +kernel
theorem dX10_leave_6 : decode cX10_leave 6 = .ok (.if_icmp .ge 23, 3) := by decide +kernel
theorem dX10_leave_9 : decode cX10_leave 9 = .ok (.aload_n 0, 1) := by decide +kernel
theorem dX10_leave_10 : decode cX10_leave 10 = .ok (.getfield 9, 3) := by decide +kernel
theorem dX10_leave_13 : decode cX10_leave 13 = .ok (.aload_n 0, 1) := by decide +kernel
theorem dX10_leave_14 : decode cX10_leave 14 = .ok (.getfield 15, 3) := by decide +kernel
theorem dX10_leave_17 : decode cX10_leave 17 = .ok (.iload_n 1, 1) := by decide +kernel
theorem dX10_leave_18 : decode cX10_leave 18 = .ok (.iastore, 1) := by decide +kernel
theorem dX10_leave_19 : decode cX10_leave 19 = .ok (.aload_n 0, 1) := by decide +kernel
theorem dX10_leave_20 : decode cX10_leave 20 = .ok (.dup, 1) := by decide +kernel
theorem dX10_leave_21 : decode cX10_leave 21 = .ok (.getfield 15, 3) := by decide +kernel
theorem dX10_leave_24 : decode cX10_leave 24 = .ok (.iconst 1, 1) := by decide +kernel
theorem dX10_leave_25 : decode cX10_leave 25 = .ok (.iadd, 1) := by decide +kernel
theorem dX10_leave_26 : decode cX10_leave 26 = .ok (.putfield 15, 3) := by decide +kernel
theorem dX10_leave_29 : decode cX10_leave 29 = .ok (.return_, 1) := by decide +kernel
theorem dX11_init_0 : decode cX11_init 0 = .ok (.aload_n 0, 1) := by decide +kernel
theorem dX11_init_1 : decode cX11_init 1 = .ok (.invokespecial 1, 3) := by decide +kernel
theorem dX11_init_4 : decode cX11_init 4 = .ok (.aload_n 0, 1) := by decide +kernel
theorem dX11_init_5 : decode cX11_init 5 = .ok (.bipush 8, 2) := by decide +kernel
theorem dX11_init_7 : decode cX11_init 7 = .ok (.anewarray 9, 3) := by decide +kernel
theorem dX11_init_10 : decode cX11_init 10 = .ok (.putfield 11, 3) := by decide +kernel
theorem dX11_init_13 : decode cX11_init 13 = .ok (.aload_n 0, 1) := by decide +kernel
theorem dX11_init_14 : decode cX11_init 14 = .ok (.new 15, 3) := by decide +kernel
theorem dX11_init_17 : decode cX11_init 17 = .ok (.dup, 1) := by decide +kernel
theorem dX11_init_18 : decode cX11_init 18 = .ok (.invokespecial 17, 3) := by decide +kernel
theorem dX11_init_21 : decode cX11_init 21 = .ok (.putfield 18, 3) := by decide +kernel
theorem dX11_init_24 : decode cX11_init 24 = .ok (.aload_n 0, 1) := by decide +kernel
theorem dX11_init_25 : decode cX11_init 25 = .ok (.new 22, 3) := by decide +kernel
theorem dX11_init_28 : decode cX11_init 28 = .ok (.dup, 1) := by decide +kernel
theorem dX11_init_29 : decode cX11_init 29 = .ok (.invokespecial 24, 3) := by decide +kernel
theorem dX11_init_32 : decode cX11_init 32 = .ok (.putfield 25, 3) := by decide +kernel
theorem dX11_init_35 : decode cX11_init 35 = .ok (.aload_n 0, 1) := by decide +kernel
theorem dX11_init_36 : decode cX11_init 36 = .ok (.iconst 2, 1) := by decide +kernel
theorem dX11_init_37 : decode cX11_init 37 = .ok (.anewarray 29, 3) := by decide +kernel
theorem dX11_init_40 : decode cX11_init 40 = .ok (.putfield 31, 3) := by decide +kernel
theorem dX11_init_43 : decode cX11_init 43 = .ok (.aload_n 0, 1) := by decide +kernel
theorem dX11_init_44 : decode cX11_init 44 = .ok (.bipush 24, 2) := by decide +kernel
theorem dX11_init_46 : decode cX11_init 46 = .ok (.anewarray 29, 3) := by decide +kernel
theorem dX11_init_49 : decode cX11_init 49 = .ok (.putfield 35, 3) := by decide +kernel
theorem dX11_init_52 : decode cX11_init 52 = .ok (.new 38, 3) := by decide +kernel
theorem dX11_init_55 : decode cX11_init 55 = .ok (.dup, 1) := by decide +kernel
theorem dX11_init_56 : decode cX11_init 56 = .ok (.invokespecial 40, 3) := by decide +kernel
theorem dX11_init_59 : decode cX11_init 59 = .ok (.astore_n 1, 1) := by decide +kernel
theorem dX11_init_60 : decode cX11_init 60 = .ok (.aload_n 0, 1) := by decide +kernel
theorem dX11_init_61 : decode cX11_init 61 = .ok (.new 29, 3) := by decide +kernel
theorem dX11_init_64 : decode cX11_init 64 = .ok (.dup, 1) := by decide +kernel
theorem dX11_init_65 : decode cX11_init 65 = .ok (.aload_n 1, 1) := by decide +kernel
theorem dX11_init_66 : decode cX11_init 66 = .ok (.invokespecial 41, 3) := by decide +kernel
theorem dX11_init_69 : decode cX11_init 69 = .ok (.putfield 44, 3) := by decide +kernel
theorem dX11_init_72 : decode cX11_init 72 = .ok (.aload_n 0, 1) := by decide +kernel
theorem dX11_init_73 : decode cX11_init 73 = .ok (.new 29, 3) := by decide +kernel
theorem dX11_init_76 : decode cX11_init 76 = .ok (.dup, 1) := by decide +kernel
theorem dX11_init_77 : decode cX11_init 77 = .ok (.aload_n 1, 1) := by decide +kernel
theorem dX11_init_78 : decode cX11_init 78 = .ok (.invokespecial 41, 3) := by decide +kernel
theorem dX11_init_81 : decode cX11_init 81 = .ok (.putfield 48, 3) := by decide +kernel
theorem dX11_init_84 : decode cX11_init 84 = .ok (.iconst 0, 1) := by decide +kernel
theorem dX11_init_85 : decode cX11_init 85 = .ok (.istore_n 2, 1) := by decide +kernel
theorem dX11_init_86 : decode cX11_init 86 = .ok (.iload_n 2, 1) := by decide +kernel
theorem dX11_init_87 : decode cX11_init 87 = .ok (.bipush 8, 2) := by decide +kernel
theorem dX11_init_89 : decode cX11_init 89 = .ok (.if_icmp .ge 22, 3) := by decide +kernel
theorem dX11_init_92 : decode cX11_init 92 = .ok (.aload_n 0, 1) := by decide +kernel
theorem dX11_init_93 : decode cX11_init 93 = .ok (.getfield 11, 3) := by decide +kernel
theorem dX11_init_96 : decode cX11_init 96 = .ok (.iload_n 2, 1) := by decide +kernel
theorem dX11_init_97 : decode cX11_init 97 = .ok (.new 9, 3) := by decide +kernel
theorem dX11_init_100 : decode cX11_init 100 = .ok (.dup, 1) := by decide +kernel
theorem dX11_init_101 : decode cX11_init 101 = .ok (.invokespecial 51, 3) := by decide +kernel
theorem dX11_init_104 : decode cX11_init 104 = .ok (.aastore, 1) := by decide +kernel
theorem dX11_init_105 : decode cX11_init 105 = .ok (.iinc 2 1, 3) := by decide +kernel
theorem dX11_init_108 : decode cX11_init 108 = .ok (.goto (-22), 3) := by decide +kernel
theorem dX11_init_111 : decode cX11_init 111 = .ok (.iconst 0, 1) := by decide +kernel
theorem dX11_init_112 : decode cX11_init 112 = .ok (.istore_n 2, 1) := by decide +kernel
theorem dX11_init_113 : decode cX11_init 113 = .ok (.iload_n 2, 1) := by decide +kernel
theorem dX11_init_114 : decode cX11_init 114 = .ok (.iconst 2, 1) := by decide +kernel
theorem dX11_init_115 : decode cX11_init 115 = .ok (.if_icmp .ge 23, 3) := by decide +kernel
theorem dX11_init_118 : decode cX11_init 118 = .ok (.aload_n 0, 1) := by decide +kernel
theorem dX11_init_119 : decode cX11_init 119 = .ok (.getfield 31, 3) := by decide +kernel
theorem dX11_init_122 : decode cX11_init 122 = .ok (.iload_n 2, 1) := by decide +kernel
theorem dX11_init_123 : decode cX11_init 123 = .ok (.new 29, 3) := by decide +kernel
theorem dX11_init_126 : decode cX11_init 126 = .ok (.dup, 1) := by decide +kernel
theorem dX11_init_127 : decode cX11_init 127 = .ok (.aload_n 1, 1) := by decide +kernel
theorem dX11_init_128 : decode cX11_init 128 = .ok (.invokespecial 41, 3) := by decide +kernel
theorem dX11_init_131 : decode cX11_init 131 = .ok (.aastore, 1) := by decide +kernel
theorem dX11_init_132 : decode cX11_init 132 = .ok (.iinc 2 1, 3) := by decide +kernel
theorem dX11_init_135 : decode cX11_init 135 = .ok (.goto (-22), 3) := by decide +kernel
theorem dX11_init_138 : decode cX11_init 138 = .ok (.iconst 0, 1) := by decide +kernel
theorem dX11_init_139 : decode cX11_init 139 = .ok (.istore_n 2, 1) := by decide +kernel
theorem dX11_init_140 : decode cX11_init 140 = .ok (.iload_n 2, 1) := by decide +kernel
theorem dX11_init_141 : decode cX11_init 141 = .ok (.bipush 24, 2) := by decide +kernel
theorem dX11_init_143 : decode cX11_init 143 = .ok (.if_icmp .ge 23, 3) := by decide +kernel
theorem dX11_init_146 : decode cX11_init 146 = .ok (.aload_n 0, 1) := by decide +kernel
theorem dX11_init_147 : decode cX11_init 147 = .ok (.getfield 35, 3) := by decide +kernel
theorem dX11_init_150 : decode cX11_init 150 = .ok (.iload_n 2, 1) := by decide +kernel
theorem dX11_init_151 : decode cX11_init 151 = .ok (.new 29, 3) := by decide +kernel
theorem dX11_init_154 : decode cX11_init 154 = .ok (.dup, 1) := by decide +kernel
theorem dX11_init_155 : decode cX11_init 155 = .ok (.aload_n 1, 1) := by decide +kernel
theorem dX11_init_156 : decode cX11_init 156 = .ok (.invokespecial 41, 3) := by decide +kernel
theorem dX11_init_159 : decode cX11_init 159 = .ok (.aastore, 1) := by decide +kernel
theorem dX11_init_160 : decode cX11_init 160 = .ok (.iinc 2 1, 3) := by decide +kernel
theorem dX11_init_163 : decode cX11_init 163 = .ok (.goto (-23), 3) := by decide +kernel
theorem dX11_init_166 : decode cX11_init 166 = .ok (.return_, 1) := by decide +kernel
theorem dX11_row_0 : decode cX11_row 0 = .ok (.aload_n 0, 1) := by decide +kernel
theorem dX11_row_1 : decode cX11_row 1 = .ok (.iload_n 1, 1) := by decide +kernel
theorem dX11_row_2 : decode cX11_row 2 = .ok (.invokevirtual 52, 3) := by decide +kernel
theorem dX11_row_5 : decode cX11_row 5 = .ok (.astore 4, 2) := by decide +kernel
theorem dX11_row_7 : decode cX11_row 7 = .ok (.aload 4, 2) := by decide +kernel
theorem dX11_row_9 : decode cX11_row 9 = .ok (.ifnull 18, 3) := by decide +kernel
theorem dX11_row_12 : decode cX11_row 12 = .ok (.iload_n 2, 1) := by decide +kernel
theorem dX11_row_13 : decode cX11_row 13 = .ok (.iconst 0, 1) := by decide +kernel
theorem dX11_row_14 : decode cX11_row 14 = .ok (.iconst 2, 1) := by decide +kernel
theorem dX11_row_15 : decode cX11_row 15 = .ok (.invokestatic 56, 3) := by decide +kernel
theorem dX11_row_18 : decode cX11_row 18 = .ok (.ifCond .eq 9, 3) := by decide +kernel
theorem dX11_row_21 : decode cX11_row 21 = .ok (.iload_n 3, 1) := by decide +kernel
theorem dX11_row_22 : decode cX11_row 22 = .ok (.bipush 40, 2) := by decide +kernel
theorem dX11_row_24 : decode cX11_row 24 = .ok (.if_icmp .le 6, 3) := by decide +kernel
theorem dX11_row_27 : decode cX11_row 27 = .ok (.ldc 60, 2) := by decide +kernel
theorem dX11_row_29 : decode cX11_row 29 = .ok (.ireturn, 1) := by decide +kernel
theorem dX11_row_30 : decode cX11_row 30 = .ok (.iload_n 3, 1) := by decide +kernel
theorem dX11_row_31 : decode cX11_row 31 = .ok (.ifCond .ge 9, 3) := by decide +kernel
theorem dX11_row_34 : decode cX11_row 34 = .ok (.aload_n 0, 1) := by decide +kernel
theorem dX11_row_35 : decode cX11_row 35 = .ok (.iconst 4, 1) := by decide +kernel
theorem dX11_row_36 : decode cX11_row 36 = .ok (.invokevirtual 61, 3) := by decide +kernel
theorem dX11_row_39 : decode cX11_row 39 = .ok (.ireturn, 1) := by decide +kernel
theorem dX11_row_40 : decode cX11_row 40 = .ok (.aload 4, 2) := by decide +kernel
theorem dX11_row_42 : decode cX11_row 42 = .ok (.iload_n 2, 1) := by decide +kernel
theorem dX11_row_43 : decode cX11_row 43 = .ok (.iload_n 3, 1) := by decide +kernel
theorem dX11_row_44 : decode cX11_row 44 = .ok (.invokevirtual 65, 3) := by decide +kernel
theorem dX11_row_47 : decode cX11_row 47 = .ok (.aload_n 0, 1) := by decide +kernel
theorem dX11_row_48 : decode cX11_row 48 = .ok (.iload_n 3, 1) := by decide +kernel
theorem dX11_row_49 : decode cX11_row 49 = .ok (.invokevirtual 69, 3) := by decide +kernel
theorem dX11_row_52 : decode cX11_row 52 = .ok (.ireturn, 1) := by decide +kernel
theorem dX11_set_0 : decode cX11_set 0 = .ok (.aload_n 0, 1) := by decide +kernel
theorem dX11_set_1 : decode cX11_set 1 = .ok (.iload_n 1, 1) := by decide +kernel
theorem dX11_set_2 : decode cX11_set 2 = .ok (.invokevirtual 52, 3) := by decide +kernel
theorem dX11_set_5 : decode cX11_set 5 = .ok (.astore 4, 2) := by decide +kernel
theorem dX11_set_7 : decode cX11_set 7 = .ok (.aload 4, 2) := by decide +kernel
theorem dX11_set_9 : decode cX11_set 9 = .ok (.ifnonnull 6, 3) := by decide +kernel
theorem dX11_set_12 : decode cX11_set 12 = .ok (.ldc 60, 2) := by decide +kernel
theorem dX11_set_14 : decode cX11_set 14 = .ok (.ireturn, 1) := by decide +kernel
theorem dX11_set_15 : decode cX11_set 15 = .ok (.aload 4, 2) := by decide +kernel
theorem dX11_set_17 : decode cX11_set 17 = .ok (.getfield 72, 3) := by decide +kernel
theorem dX11_set_20 : decode cX11_set 20 = .ok (.ifCond .eq 9, 3) := by decide +kernel
theorem dX11_set_23 : decode cX11_set 23 = .ok (.aload_n 0, 1) := by decide +kernel
theorem dX11_set_24 : decode cX11_set 24 = .ok (.iconst 1, 1) := by decide +kernel
theorem dX11_set_25 : decode cX11_set 25 = .ok (.invokevirtual 61, 3) := by decide +kernel
theorem dX11_set_28 : decode cX11_set 28 = .ok (.ireturn, 1) := by decide +kernel
theorem dX11_set_29 : decode cX11_set 29 = .ok (.aload 4, 2) := by decide +kernel
theorem dX11_set_31 : decode cX11_set 31 = .ok (.iload_n 2, 1) := by decide +kernel
theorem dX11_set_32 : decode cX11_set 32 = .ok (.iconst 1, 1) := by decide +kernel
theorem dX11_set_33 : decode cX11_set 33 = .ok (.invokevirtual 76, 3) := by decide +kernel
theorem dX11_set_36 : decode cX11_set 36 = .ok (.ifCond .ne 9, 3) := by decide +kernel
theorem dX11_set_39 : decode cX11_set 39 = .ok (.aload_n 0, 1) := by decide +kernel
theorem dX11_set_40 : decode cX11_set 40 = .ok (.iconst 2, 1) := by decide +kernel
theorem dX11_set_41 : decode cX11_set 41 = .ok (.invokevirtual 61, 3) := by decide +kernel
theorem dX11_set_44 : decode cX11_set 44 = .ok (.ireturn, 1) := by decide +kernel
theorem dX11_set_45 : decode cX11_set 45 = .ok (.aload_n 0, 1) := by decide +kernel
theorem dX11_set_46 : decode cX11_set 46 = .ok (.aload 4, 2) := by decide +kernel
theorem dX11_set_48 : decode cX11_set 48 = .ok (.iload_n 2, 1) := by decide +kernel
theorem dX11_set_49 : decode cX11_set 49 = .ok (.iload_n 3, 1) := by decide +kernel
theorem dX11_set_50 : decode cX11_set 50 = .ok (.invokevirtual 80, 3) := by decide +kernel
theorem dX11_set_53 : decode cX11_set 53 = .ok (.invokevirtual 69, 3) := by decide +kernel
theorem dX11_set_56 : decode cX11_set 56 = .ok (.ireturn, 1) := by decide +kernel
theorem dX11_copy_0 : decode cX11_copy 0 = .ok (.aload_n 0, 1) := by decide +kernel
theorem dX11_copy_1 : decode cX11_copy 1 = .ok (.iload_n 1, 1) := by decide +kernel
theorem dX11_copy_2 : decode cX11_copy 2 = .ok (.invokevirtual 52, 3) := by decide +kernel
theorem dX11_copy_5 : decode cX11_copy 5 = .ok (.astore 6, 2) := by decide +kernel
theorem dX11_copy_7 : decode cX11_copy 7 = .ok (.aload_n 0, 1) := by decide +kernel
theorem dX11_copy_8 : decode cX11_copy 8 = .ok (.iload_n 3, 1) := by decide +kernel
theorem dX11_copy_9 : decode cX11_copy 9 = .ok (.invokevirtual 52, 3) := by decide +kernel
theorem dX11_copy_12 : decode cX11_copy 12 = .ok (.astore 7, 2) := by decide +kernel
theorem dX11_copy_14 : decode cX11_copy 14 = .ok (.aload 6, 2) := by decide +kernel
theorem dX11_copy_16 : decode cX11_copy 16 = .ok (.ifnull 8, 3) := by decide +kernel
theorem dX11_copy_19 : decode cX11_copy 19 = .ok (.aload 7, 2) := by decide +kernel
theorem dX11_copy_21 : decode cX11_copy 21 = .ok (.ifnonnull 6, 3) := by decide +kernel
theorem dX11_copy_24 : decode cX11_copy 24 = .ok (.ldc 60, 2) := by decide +kernel
theorem dX11_copy_26 : decode cX11_copy 26 = .ok (.ireturn, 1) := by decide +kernel
theorem dX11_copy_27 : decode cX11_copy 27 = .ok (.aload 6, 2) := by decide +kernel
theorem dX11_copy_29 : decode cX11_copy 29 = .ok (.getfield 72, 3) := by decide +kernel
theorem dX11_copy_32 : decode cX11_copy 32 = .ok (.ifCond .ne 11, 3) := by decide +kernel
theorem dX11_copy_35 : decode cX11_copy 35 = .ok (.aload 7, 2) := by decide +kernel
theorem dX11_copy_37 : decode cX11_copy 37 = .ok (.getfield 72, 3) := by decide +kernel
theorem dX11_copy_40 : decode cX11_copy 40 = .ok (.ifCond .eq 9, 3) := by decide +kernel
theorem dX11_copy_43 : decode cX11_copy 43 = .ok (.aload_n 0, 1) := by decide +kernel
theorem dX11_copy_44 : decode cX11_copy 44 = .ok (.iconst 1, 1) := by decide +kernel
theorem dX11_copy_45 : decode cX11_copy 45 = .ok (.invokevirtual 61, 3) := by decide +kernel
theorem dX11_copy_48 : decode cX11_copy 48 = .ok (.ireturn, 1) := by decide +kernel
theorem dX11_copy_49 : decode cX11_copy 49 = .ok (.aload 6, 2) := by decide +kernel
theorem dX11_copy_51 : decode cX11_copy 51 = .ok (.getfield 84, 3) := by decide +kernel
theorem dX11_copy_54 : decode cX11_copy 54 = .ok (.aload 7, 2) := by decide +kernel
theorem dX11_copy_56 : decode cX11_copy 56 = .ok (.getfield 84, 3) := by decide +kernel
theorem dX11_copy_59 : decode cX11_copy 59 = .ok (.if_icmp .eq 9, 3) := by decide +kernel
theorem dX11_copy_62 : decode cX11_copy 62 = .ok (.aload_n 0, 1) := by decide +kernel
theorem dX11_copy_63 : decode cX11_copy 63 = .ok (.iconst 5, 1) := by decide +kernel
theorem dX11_copy_64 : decode cX11_copy 64 = .ok (.invokevirtual 61, 3) := by decide +kernel
theorem dX11_copy_67 : decode cX11_copy 67 = .ok (.ireturn, 1) := by decide +kernel
theorem dX11_copy_68 : decode cX11_copy 68 = .ok (.aload 6, 2) := by decide +kernel
theorem dX11_copy_70 : decode cX11_copy 70 = .ok (.iload_n 2, 1) := by decide +kernel
theorem dX11_copy_71 : decode cX11_copy 71 = .ok (.iload 5, 2) := by decide +kernel
theorem dX11_copy_73 : decode cX11_copy 73 = .ok (.invokevirtual 76, 3) := by decide +kernel
theorem dX11_copy_76 : decode cX11_copy 76 = .ok (.ifCond .eq 15, 3) := by decide +kernel
theorem dX11_copy_79 : decode cX11_copy 79 = .ok (.aload 7, 2) := by decide +kernel
theorem dX11_copy_81 : decode cX11_copy 81 = .ok (.iload 4, 2) := by decide +kernel
theorem dX11_copy_83 : decode cX11_copy 83 = .ok (.iload 5, 2) := by decide +kernel
theorem dX11_copy_85 : decode cX11_copy 85 = .ok (.invokevirtual 76, 3) := by decide +kernel
theorem dX11_copy_88 : decode cX11_copy 88 = .ok (.ifCond .ne 9, 3) := by decide +kernel
theorem dX11_copy_91 : decode cX11_copy 91 = .ok (.aload_n 0, 1) := by decide +kernel
theorem dX11_copy_92 : decode cX11_copy 92 = .ok (.iconst 2, 1) := by decide +kernel
theorem dX11_copy_93 : decode cX11_copy 93 = .ok (.invokevirtual 61, 3) := by decide +kernel
theorem dX11_copy_96 : decode cX11_copy 96 = .ok (.ireturn, 1) := by decide +kernel
theorem dX11_copy_97 : decode cX11_copy 97 = .ok (.aload 6, 2) := by decide +kernel
theorem dX11_copy_99 : decode cX11_copy 99 = .ok (.getfield 88, 3) := by decide +kernel
theorem dX11_copy_102 : decode cX11_copy 102 = .ok (.iload_n 2, 1) := by decide +kernel
theorem dX11_copy_103 : decode cX11_copy 103 = .ok (.aload 7, 2) := by decide +kernel
theorem dX11_copy_105 : decode cX11_copy 105 = .ok (.getfield 88, 3) := by decide +kernel
theorem dX11_copy_108 : decode cX11_copy 108 = .ok (.iload 4, 2) := by decide +kernel
theorem dX11_copy_110 : decode cX11_copy 110 = .ok (.iload 5, 2) := by decide +kernel
theorem dX11_copy_112 : decode cX11_copy 112 = .ok (.invokestatic 92, 3) := by decide +kernel
theorem dX11_copy_115 : decode cX11_copy 115 = .ok (.aload_n 0, 1) := by decide +kernel
theorem dX11_copy_116 : decode cX11_copy 116 = .ok (.iload 5, 2) := by decide +kernel
theorem dX11_copy_118 : decode cX11_copy 118 = .ok (.invokevirtual 69, 3) := by decide +kernel
theorem dX11_copy_121 : decode cX11_copy 121 = .ok (.ireturn, 1) := by decide +kernel
theorem dX11_drop_0 : decode cX11_drop 0 = .ok (.aload_n 0, 1) := by decide +kernel
theorem dX11_drop_1 : decode cX11_drop 1 = .ok (.iload_n 1, 1) := by decide +kernel
theorem dX11_drop_2 : decode cX11_drop 2 = .ok (.invokevirtual 52, 3) := by decide +kernel
theorem dX11_drop_5 : decode cX11_drop 5 = .ok (.astore_n 2, 1) := by decide +kernel
theorem dX11_drop_6 : decode cX11_drop 6 = .ok (.aload_n 2, 1) := by decide +kernel
theorem dX11_drop_7 : decode cX11_drop 7 = .ok (.ifnonnull 6, 3) := by decide +kernel
theorem dX11_drop_10 : decode cX11_drop 10 = .ok (.ldc 60, 2) := by decide +kernel
theorem dX11_drop_12 : decode cX11_drop 12 = .ok (.ireturn, 1) := by decide +kernel
theorem dX11_drop_13 : decode cX11_drop 13 = .ok (.aload_n 2, 1) := by decide +kernel
theorem dX11_drop_14 : decode cX11_drop 14 = .ok (.getfield 72, 3) := by decide +kernel
theorem dX11_drop_17 : decode cX11_drop 17 = .ok (.ifCond .eq 9, 3) := by decide +kernel
theorem dX11_drop_20 : decode cX11_drop 20 = .ok (.aload_n 0, 1) := by decide +kernel
theorem dX11_drop_21 : decode cX11_drop 21 = .ok (.iconst 1, 1) := by decide +kernel
theorem dX11_drop_22 : decode cX11_drop 22 = .ok (.invokevirtual 61, 3) := by decide +kernel
theorem dX11_drop_25 : decode cX11_drop 25 = .ok (.ireturn, 1) := by decide +kernel
theorem dX11_drop_26 : decode cX11_drop 26 = .ok (.aload_n 2, 1) := by decide +kernel
theorem dX11_drop_27 : decode cX11_drop 27 = .ok (.iconst 1, 1) := by decide +kernel
theorem dX11_drop_28 : decode cX11_drop 28 = .ok (.putfield 72, 3) := by decide +kernel
theorem dX11_drop_31 : decode cX11_drop 31 = .ok (.aload_n 0, 1) := by decide +kernel
theorem dX11_drop_32 : decode cX11_drop 32 = .ok (.aload_n 2, 1) := by decide +kernel
theorem dX11_drop_33 : decode cX11_drop 33 = .ok (.getfield 98, 3) := by decide +kernel
theorem dX11_drop_36 : decode cX11_drop 36 = .ok (.invokevirtual 69, 3) := by decide +kernel
theorem dX11_drop_39 : decode cX11_drop 39 = .ok (.ireturn, 1) := by decide +kernel
theorem dX11_feed_0 : decode cX11_feed 0 = .ok (.iload_n 1, 1) := by decide +kernel
theorem dX11_feed_1 : decode cX11_feed 1 = .ok (.iconst 0, 1) := by decide +kernel
theorem dX11_feed_2 : decode cX11_feed 2 = .ok (.sipush 255, 3) := by decide +kernel
theorem dX11_feed_5 : decode cX11_feed 5 = .ok (.invokestatic 56, 3) := by decide +kernel
theorem dX11_feed_8 : decode cX11_feed 8 = .ok (.ifCond .ne 6, 3) := by decide +kernel
theorem dX11_feed_11 : decode cX11_feed 11 = .ok (.ldc 60, 2) := by decide +kernel
theorem dX11_feed_13 : decode cX11_feed 13 = .ok (.ireturn, 1) := by decide +kernel
theorem dX11_feed_14 : decode cX11_feed 14 = .ok (.aload_n 0, 1) := by decide +kernel
theorem dX11_feed_15 : decode cX11_feed 15 = .ok (.getfield 18, 3) := by decide +kernel
theorem dX11_feed_18 : decode cX11_feed 18 = .ok (.getfield 101, 3) := by decide +kernel
theorem dX11_feed_21 : decode cX11_feed 21 = .ok (.bipush 120, 2) := by decide +kernel
theorem dX11_feed_23 : decode cX11_feed 23 = .ok (.if_icmp .lt 6, 3) := by decide +kernel
theorem dX11_feed_26 : decode cX11_feed 26 = .ok (.ldc 102, 2) := by decide +kernel
theorem dX11_feed_28 : decode cX11_feed 28 = .ok (.ireturn, 1) := by decide +kernel
theorem dX11_feed_29 : decode cX11_feed 29 = .ok (.aload_n 0, 1) := by decide +kernel
theorem dX11_feed_30 : decode cX11_feed 30 = .ok (.getfield 18, 3) := by decide +kernel
theorem dX11_feed_33 : decode cX11_feed 33 = .ok (.iload_n 1, 1) := by decide +kernel
theorem dX11_feed_34 : decode cX11_feed 34 = .ok (.invokevirtual 103, 3) := by decide +kernel
theorem dX11_feed_37 : decode cX11_feed 37 = .ok (.aload_n 0, 1) := by decide +kernel
theorem dX11_feed_38 : decode cX11_feed 38 = .ok (.getfield 18, 3) := by decide +kernel
theorem dX11_feed_41 : decode cX11_feed 41 = .ok (.getfield 101, 3) := by decide +kernel
theorem dX11_feed_44 : decode cX11_feed 44 = .ok (.ireturn, 1) := by decide +kernel
theorem dX11_roll_0 : decode cX11_roll 0 = .ok (.aload_n 0, 1) := by decide +kernel
theorem dX11_roll_1 : decode cX11_roll 1 = .ok (.getfield 18, 3) := by decide +kernel
theorem dX11_roll_4 : decode cX11_roll 4 = .ok (.invokevirtual 107, 3) := by decide +kernel
theorem dX11_roll_7 : decode cX11_roll 7 = .ok (.astore_n 1, 1) := by decide +kernel
theorem dX11_roll_8 : decode cX11_roll 8 = .ok (.aload_n 0, 1) := by decide +kernel
theorem dX11_roll_9 : decode cX11_roll 9 = .ok (.getfield 18, 3) := by decide +kernel
theorem dX11_roll_12 : decode cX11_roll 12 = .ok (.iconst 0, 1) := by decide +kernel
theorem dX11_roll_13 : decode cX11_roll 13 = .ok (.putfield 101, 3) := by decide +kernel
theorem dX11_roll_16 : decode cX11_roll 16 = .ok (.aload_n 1, 1) := by decide +kernel
theorem dX11_roll_17 : decode cX11_roll 17 = .ok (.ifnonnull 25, 3) := by decide +kernel
theorem dX11_roll_20 : decode cX11_roll 20 = .ok (.aload_n 0, 1) := by decide +kernel
theorem dX11_roll_21 : decode cX11_roll 21 = .ok (.aload_n 0, 1) := by decide +kernel
theorem dX11_roll_22 : decode cX11_roll 22 = .ok (.getfield 18, 3) := by decide +kernel
theorem dX11_roll_25 : decode cX11_roll 25 = .ok (.getfield 111, 3) := by decide +kernel
theorem dX11_roll_28 : decode cX11_roll 28 = .ok (.putfield 114, 3) := by decide +kernel
theorem dX11_roll_31 : decode cX11_roll 31 = .ok (.ldc 117, 2) := by decide +kernel
theorem dX11_roll_33 : decode cX11_roll 33 = .ok (.aload_n 0, 1) := by decide +kernel
theorem dX11_roll_34 : decode cX11_roll 34 = .ok (.getfield 18, 3) := by decide +kernel
theorem dX11_roll_37 : decode cX11_roll 37 = .ok (.getfield 118, 3) := by decide +kernel
theorem dX11_roll_40 : decode cX11_roll 40 = .ok (.isub, 1) := by decide +kernel
theorem dX11_roll_41 : decode cX11_roll 41 = .ok (.ireturn, 1) := by decide +kernel
theorem dX11_roll_42 : decode cX11_roll 42 = .ok (.aload_n 0, 1) := by decide +kernel
theorem dX11_roll_43 : decode cX11_roll 43 = .ok (.getfield 44, 3) := by decide +kernel
theorem dX11_roll_46 : decode cX11_roll 46 = .ok (.aload_n 1, 1) := by decide +kernel
theorem dX11_roll_47 : decode cX11_roll 47 = .ok (.invokevirtual 121, 3) := by decide +kernel
theorem dX11_roll_50 : decode cX11_roll 50 = .ok (.aload_n 0, 1) := by decide +kernel
theorem dX11_roll_51 : decode cX11_roll 51 = .ok (.invokevirtual 124, 3) := by decide +kernel
theorem dX11_roll_54 : decode cX11_roll 54 = .ok (.aload_n 1, 1) := by decide +kernel
theorem dX11_roll_55 : decode cX11_roll 55 = .ok (.getfield 127, 3) := by decide +kernel
theorem dX11_roll_58 : decode cX11_roll 58 = .ok (.ireturn, 1) := by decide +kernel
theorem dX11_fault_0 : decode cX11_fault 0 = .ok (.aload_n 0, 1) := by decide +kernel
theorem dX11_fault_1 : decode cX11_fault 1 = .ok (.getfield 114, 3) := by decide +kernel
theorem dX11_fault_4 : decode cX11_fault 4 = .ok (.ireturn, 1) := by decide +kernel
theorem dX11_undo_0 : decode cX11_undo 0 = .ok (.aload_n 0, 1) := by decide +kernel
theorem dX11_undo_1 : decode cX11_undo 1 = .ok (.getfield 130, 3) := by decide +kernel
theorem dX11_undo_4 : decode cX11_undo 4 = .ok (.iconst 1, 1) := by decide +kernel
theorem dX11_undo_5 : decode cX11_undo 5 = .ok (.if_icmp .ge 6, 3) := by decide +kernel
theorem dX11_undo_8 : decode cX11_undo 8 = .ok (.ldc 133, 2) := by decide +kernel
theorem dX11_undo_10 : decode cX11_undo 10 = .ok (.ireturn, 1) := by decide +kernel
theorem dX11_undo_11 : decode cX11_undo 11 = .ok (.aload_n 0, 1) := by decide +kernel
theorem dX11_undo_12 : decode cX11_undo 12 = .ok (.dup, 1) := by decide +kernel
theorem dX11_undo_13 : decode cX11_undo 13 = .ok (.getfield 130, 3) := by decide +kernel
theorem dX11_undo_16 : decode cX11_undo 16 = .ok (.iconst 1, 1) := by decide +kernel
theorem dX11_undo_17 : decode cX11_undo 17 = .ok (.isub, 1) := by decide +kernel
theorem dX11_undo_18 : decode cX11_undo 18 = .ok (.putfield 130, 3) := by decide +kernel
theorem dX11_undo_21 : decode cX11_undo 21 = .ok (.aload_n 0, 1) := by decide +kernel
theorem dX11_undo_22 : decode cX11_undo 22 = .ok (.getfield 44, 3) := by decide +kernel
theorem dX11_undo_25 : decode cX11_undo 25 = .ok (.aload_n 0, 1) := by decide +kernel
theorem dX11_undo_26 : decode cX11_undo 26 = .ok (.getfield 35, 3) := by decide +kernel
theorem dX11_undo_29 : decode cX11_undo 29 = .ok (.aload_n 0, 1) := by decide +kernel
theorem dX11_undo_30 : decode cX11_undo 30 = .ok (.getfield 134, 3) := by decide +kernel
theorem dX11_undo_33 : decode cX11_undo 33 = .ok (.aload_n 0, 1) := by decide +kernel
theorem dX11_undo_34 : decode cX11_undo 34 = .ok (.getfield 130, 3) := by decide +kernel
theorem dX11_undo_37 : decode cX11_undo 37 = .ok (.iadd, 1) := by decide +kernel
theorem dX11_undo_38 : decode cX11_undo 38 = .ok (.bipush 24, 2) := by decide +kernel
theorem dX11_undo_40 : decode cX11_undo 40 = .ok (.irem, 1) := by decide +kernel
theorem dX11_undo_41 : decode cX11_undo 41 = .ok (.aaload, 1) := by decide +kernel
theorem dX11_undo_42 : decode cX11_undo 42 = .ok (.invokevirtual 137, 3) := by decide +kernel
theorem dX11_undo_45 : decode cX11_undo 45 = .ok (.aload_n 0, 1) := by decide +kernel
theorem dX11_undo_46 : decode cX11_undo 46 = .ok (.getfield 130, 3) := by decide +kernel
theorem dX11_undo_49 : decode cX11_undo 49 = .ok (.ireturn, 1) := by decide +kernel
theorem dX11_touch_0 : decode cX11_touch 0 = .ok (.aload_n 0, 1) := by decide +kernel
theorem dX11_touch_1 : decode cX11_touch 1 = .ok (.iload_n 1, 1) := by decide +kernel
theorem dX11_touch_2 : decode cX11_touch 2 = .ok (.invokevirtual 141, 3) := by decide +kernel
theorem dX11_touch_5 : decode cX11_touch 5 = .ok (.astore_n 3, 1) := by decide +kernel
theorem dX11_touch_6 : decode cX11_touch 6 = .ok (.aload_n 3, 1) := by decide +kernel
theorem dX11_touch_7 : decode cX11_touch 7 = .ok (.ifnull 12, 3) := by decide +kernel
theorem dX11_touch_10 : decode cX11_touch 10 = .ok (.iload_n 2, 1) := by decide +kernel
theorem dX11_touch_11 : decode cX11_touch 11 = .ok (.iconst 0, 1) := by decide +kernel
theorem dX11_touch_12 : decode cX11_touch 12 = .ok (.iconst 1, 1) := by decide +kernel
theorem dX11_touch_13 : decode cX11_touch 13 = .ok (.invokestatic 56, 3) := by decide +kernel
theorem dX11_touch_16 : decode cX11_touch 16 = .ok (.ifCond .ne 6, 3) := by decide +kernel
theorem dX11_touch_19 : decode cX11_touch 19 = .ok (.ldc 60, 2) := by decide +kernel
theorem dX11_touch_21 : decode cX11_touch 21 = .ok (.ireturn, 1) := by decide +kernel
theorem dX11_touch_22 : decode cX11_touch 22 = .ok (.aload_n 0, 1) := by decide +kernel
theorem dX11_touch_23 : decode cX11_touch 23 = .ok (.getfield 48, 3) := by decide +kernel
theorem dX11_touch_26 : decode cX11_touch 26 = .ok (.aload_n 0, 1) := by decide +kernel
theorem dX11_touch_27 : decode cX11_touch 27 = .ok (.getfield 44, 3) := by decide +kernel
theorem dX11_touch_30 : decode cX11_touch 30 = .ok (.invokevirtual 137, 3) := by decide +kernel
theorem dX11_touch_33 : decode cX11_touch 33 = .ok (.aload_n 0, 1) := by decide +kernel
theorem dX11_touch_34 : decode cX11_touch 34 = .ok (.getfield 48, 3) := by decide +kernel
theorem dX11_touch_37 : decode cX11_touch 37 = .ok (.aload_n 3, 1) := by decide +kernel
theorem dX11_touch_38 : decode cX11_touch 38 = .ok (.iload_n 2, 1) := by decide +kernel
theorem dX11_touch_39 : decode cX11_touch 39 = .ok (.invokevirtual 145, 3) := by decide +kernel
theorem dX11_touch_42 : decode cX11_touch 42 = .ok (.aload_n 0, 1) := by decide +kernel
theorem dX11_touch_43 : decode cX11_touch 43 = .ok (.getfield 48, 3) := by decide +kernel
theorem dX11_touch_46 : decode cX11_touch 46 = .ok (.invokevirtual 149, 3) := by decide +kernel
theorem dX11_touch_49 : decode cX11_touch 49 = .ok (.lconst 0, 1) := by decide +kernel
theorem dX11_touch_50 : decode cX11_touch 50 = .ok (.lcmp, 1) := by decide +kernel
theorem dX11_touch_51 : decode cX11_touch 51 = .ok (.ifCond .ne 6, 3) := by decide +kernel
theorem dX11_touch_54 : decode cX11_touch 54 = .ok (.ldc 133, 2) := by decide +kernel
theorem dX11_touch_56 : decode cX11_touch 56 = .ok (.ireturn, 1) := by decide +kernel
theorem dX11_touch_57 : decode cX11_touch 57 = .ok (.aload_n 0, 1) := by decide +kernel
theorem dX11_touch_58 : decode cX11_touch 58 = .ok (.getfield 44, 3) := by decide +kernel
theorem dX11_touch_61 : decode cX11_touch 61 = .ok (.getfield 153, 3) := by decide +kernel
theorem dX11_touch_64 : decode cX11_touch 64 = .ok (.bipush 10, 2) := by decide +kernel
theorem dX11_touch_66 : decode cX11_touch 66 = .ok (.if_icmp .lt 6, 3) := by decide +kernel
theorem dX11_touch_69 : decode cX11_touch 69 = .ok (.ldc 102, 2) := by decide +kernel
theorem dX11_touch_71 : decode cX11_touch 71 = .ok (.ireturn, 1) := by decide +kernel
theorem dX11_touch_72 : decode cX11_touch 72 = .ok (.aload_n 0, 1) := by decide +kernel
theorem dX11_touch_73 : decode cX11_touch 73 = .ok (.invokevirtual 156, 3) := by decide +kernel
theorem dX11_touch_76 : decode cX11_touch 76 = .ok (.aload_n 0, 1) := by decide +kernel
theorem dX11_touch_77 : decode cX11_touch 77 = .ok (.getfield 44, 3) := by decide +kernel
theorem dX11_touch_80 : decode cX11_touch 80 = .ok (.aload_n 0, 1) := by decide +kernel
theorem dX11_touch_81 : decode cX11_touch 81 = .ok (.getfield 48, 3) := by decide +kernel
theorem dX11_touch_84 : decode cX11_touch 84 = .ok (.invokevirtual 137, 3) := by decide +kernel
theorem dX11_touch_87 : decode cX11_touch 87 = .ok (.aload_n 0, 1) := by decide +kernel
theorem dX11_touch_88 : decode cX11_touch 88 = .ok (.getfield 44, 3) := by decide +kernel
theorem dX11_touch_91 : decode cX11_touch 91 = .ok (.getfield 153, 3) := by decide +kernel
theorem dX11_touch_94 : decode cX11_touch 94 = .ok (.ireturn, 1) := by decide +kernel
theorem dX11_go_0 : decode cX11_go 0 = .ok (.aload_n 0, 1) := by decide +kernel
theorem dX11_go_1 : decode cX11_go 1 = .ok (.invokevirtual 159, 3) := by decide +kernel
theorem dX11_go_4 : decode cX11_go 4 = .ok (.ifCond .eq 6, 3) := by decide +kernel
theorem dX11_go_7 : decode cX11_go 7 = .ok (.ldc 133, 2) := by decide +kernel
theorem dX11_go_9 : decode cX11_go 9 = .ok (.ireturn, 1) := by decide +kernel
theorem dX11_go_10 : decode cX11_go 10 = .ok (.iload_n 1, 1) := by decide +kernel
theorem dX11_go_11 : decode cX11_go 11 = .ok (.iconst 1, 1) := by decide +kernel
theorem dX11_go_12 : decode cX11_go 12 = .ok (.bipush 12, 2) := by decide +kernel
theorem dX11_go_14 : decode cX11_go 14 = .ok (.invokestatic 56, 3) := by decide +kernel
theorem dX11_go_17 : decode cX11_go 17 = .ok (.ifCond .ne 6, 3) := by decide +kernel
theorem dX11_go_20 : decode cX11_go 20 = .ok (.ldc 60, 2) := by decide +kernel
theorem dX11_go_22 : decode cX11_go 22 = .ok (.ireturn, 1) := by decide +kernel
theorem dX11_go_23 : decode cX11_go 23 = .ok (.aload_n 0, 1) := by decide +kernel
theorem dX11_go_24 : decode cX11_go 24 = .ok (.invokevirtual 156, 3) := by decide +kernel
theorem dX11_go_27 : decode cX11_go 27 = .ok (.aload_n 0, 1) := by decide +kernel
theorem dX11_go_28 : decode cX11_go 28 = .ok (.getfield 44, 3) := by decide +kernel
theorem dX11_go_31 : decode cX11_go 31 = .ok (.iload_n 1, 1) := by decide +kernel
theorem dX11_go_32 : decode cX11_go 32 = .ok (.invokevirtual 163, 3) := by decide +kernel
theorem dX11_go_35 : decode cX11_go 35 = .ok (.aload_n 0, 1) := by decide +kernel
theorem dX11_go_36 : decode cX11_go 36 = .ok (.getfield 44, 3) := by decide +kernel
theorem dX11_go_39 : decode cX11_go 39 = .ok (.getfield 166, 3) := by decide +kernel
theorem dX11_go_42 : decode cX11_go 42 = .ok (.ireturn, 1) := by decide +kernel
theorem dX11_over_0 : decode cX11_over 0 = .ok (.aload_n 0, 1) := by decide +kernel
theorem dX11_over_1 : decode cX11_over 1 = .ok (.invokevirtual 159, 3) := by decide +kernel
theorem dX11_over_4 : decode cX11_over 4 = .ok (.ifCond .eq 6, 3) := by decide +kernel
theorem dX11_over_7 : decode cX11_over 7 = .ok (.ldc 133, 2) := by decide +kernel
theorem dX11_over_9 : decode cX11_over 9 = .ok (.ireturn, 1) := by decide +kernel
theorem dX11_over_10 : decode cX11_over 10 = .ok (.aload_n 0, 1) := by decide +kernel
theorem dX11_over_11 : decode cX11_over 11 = .ok (.invokevirtual 156, 3) := by decide +kernel
theorem dX11_over_14 : decode cX11_over 14 = .ok (.aload_n 0, 1) := by decide +kernel
theorem dX11_over_15 : decode cX11_over 15 = .ok (.getfield 44, 3) := by decide +kernel
theorem dX11_over_18 : decode cX11_over 18 = .ok (.invokevirtual 169, 3) := by decide +kernel
theorem dX11_over_21 : decode cX11_over 21 = .ok (.aload_n 0, 1) := by decide +kernel
theorem dX11_over_22 : decode cX11_over 22 = .ok (.getfield 44, 3) := by decide +kernel
theorem dX11_over_25 : decode cX11_over 25 = .ok (.getfield 172, 3) := by decide +kernel
theorem dX11_over_28 : decode cX11_over 28 = .ok (.ireturn, 1) := by decide +kernel
theorem dX11_seek_0 : decode cX11_seek 0 = .ok (.aload_n 0, 1) := by decide +kernel
theorem dX11_seek_1 : decode cX11_seek 1 = .ok (.iload_n 1, 1) := by decide +kernel
theorem dX11_seek_2 : decode cX11_seek 2 = .ok (.invokevirtual 141, 3) := by decide +kernel
theorem dX11_seek_5 : decode cX11_seek 5 = .ok (.astore_n 2, 1) := by decide +kernel
theorem dX11_seek_6 : decode cX11_seek 6 = .ok (.aload_n 2, 1) := by decide +kernel
theorem dX11_seek_7 : decode cX11_seek 7 = .ok (.ifnonnull 6, 3) := by decide +kernel
theorem dX11_seek_10 : decode cX11_seek 10 = .ok (.ldc 60, 2) := by decide +kernel
theorem dX11_seek_12 : decode cX11_seek 12 = .ok (.ireturn, 1) := by decide +kernel
theorem dX11_seek_13 : decode cX11_seek 13 = .ok (.aload_n 0, 1) := by decide +kernel
theorem dX11_seek_14 : decode cX11_seek 14 = .ok (.invokevirtual 156, 3) := by decide +kernel
theorem dX11_seek_17 : decode cX11_seek 17 = .ok (.aload_n 0, 1) := by decide +kernel
theorem dX11_seek_18 : decode cX11_seek 18 = .ok (.getfield 44, 3) := by decide +kernel
theorem dX11_seek_21 : decode cX11_seek 21 = .ok (.aload_n 2, 1) := by decide +kernel
theorem dX11_seek_22 : decode cX11_seek 22 = .ok (.aload_n 0, 1) := by decide +kernel
theorem dX11_seek_23 : decode cX11_seek 23 = .ok (.getfield 44, 3) := by decide +kernel
theorem dX11_seek_26 : decode cX11_seek 26 = .ok (.invokevirtual 175, 3) := by decide +kernel
theorem dX11_seek_29 : decode cX11_seek 29 = .ok (.invokevirtual 181, 3) := by decide +kernel
theorem dX11_seek_32 : decode cX11_seek 32 = .ok (.aload_n 0, 1) := by decide +kernel
theorem dX11_seek_33 : decode cX11_seek 33 = .ok (.getfield 44, 3) := by decide +kernel
theorem dX11_seek_36 : decode cX11_seek 36 = .ok (.getfield 166, 3) := by decide +kernel
theorem dX11_seek_39 : decode cX11_seek 39 = .ok (.ireturn, 1) := by decide +kernel
theorem dX11_fold_0 : decode cX11_fold 0 = .ok (.aload_n 0, 1) := by decide +kernel
theorem dX11_fold_1 : decode cX11_fold 1 = .ok (.invokevirtual 159, 3) := by decide +kernel
theorem dX11_fold_4 : decode cX11_fold 4 = .ok (.ifCond .eq 6, 3) := by decide +kernel
theorem dX11_fold_7 : decode cX11_fold 7 = .ok (.ldc 133, 2) := by decide +kernel
theorem dX11_fold_9 : decode cX11_fold 9 = .ok (.ireturn, 1) := by decide +kernel
theorem dX11_fold_10 : decode cX11_fold 10 = .ok (.aload_n 0, 1) := by decide +kernel
theorem dX11_fold_11 : decode cX11_fold 11 = .ok (.iload_n 1, 1) := by decide +kernel
theorem dX11_fold_12 : decode cX11_fold 12 = .ok (.invokevirtual 184, 3) := by decide +kernel
theorem dX11_fold_15 : decode cX11_fold 15 = .ok (.ifCond .ne 6, 3) := by decide +kernel
theorem dX11_fold_18 : decode cX11_fold 18 = .ok (.ldc 60, 2) := by decide +kernel
theorem dX11_fold_20 : decode cX11_fold 20 = .ok (.ireturn, 1) := by decide +kernel
theorem dX11_fold_21 : decode cX11_fold 21 = .ok (.aload_n 0, 1) := by decide +kernel
theorem dX11_fold_22 : decode cX11_fold 22 = .ok (.invokevirtual 156, 3) := by decide +kernel
theorem dX11_fold_25 : decode cX11_fold 25 = .ok (.aload_n 0, 1) := by decide +kernel
theorem dX11_fold_26 : decode cX11_fold 26 = .ok (.getfield 44, 3) := by decide +kernel
theorem dX11_fold_29 : decode cX11_fold 29 = .ok (.getfield 188, 3) := by decide +kernel
theorem dX11_fold_32 : decode cX11_fold 32 = .ok (.istore_n 2, 1) := by decide +kernel
theorem dX11_fold_33 : decode cX11_fold 33 = .ok (.aload_n 0, 1) := by decide +kernel
theorem dX11_fold_34 : decode cX11_fold 34 = .ok (.getfield 44, 3) := by decide +kernel
theorem dX11_fold_37 : decode cX11_fold 37 = .ok (.iload_n 1, 1) := by decide +kernel
theorem dX11_fold_38 : decode cX11_fold 38 = .ok (.putfield 188, 3) := by decide +kernel
theorem dX11_fold_41 : decode cX11_fold 41 = .ok (.iload_n 2, 1) := by decide +kernel
theorem dX11_fold_42 : decode cX11_fold 42 = .ok (.ireturn, 1) := by decide +kernel
theorem dX11_nail_0 : decode cX11_nail 0 = .ok (.aload_n 0, 1) := by decide +kernel
theorem dX11_nail_1 : decode cX11_nail 1 = .ok (.invokevirtual 159, 3) := by decide +kernel
theorem dX11_nail_4 : decode cX11_nail 4 = .ok (.ifCond .eq 6, 3) := by decide +kernel
theorem dX11_nail_7 : decode cX11_nail 7 = .ok (.ldc 133, 2) := by decide +kernel
theorem dX11_nail_9 : decode cX11_nail 9 = .ok (.ireturn, 1) := by decide +kernel
theorem dX11_nail_10 : decode cX11_nail 10 = .ok (.iload_n 1, 1) := by decide +kernel
theorem dX11_nail_11 : decode cX11_nail 11 = .ok (.tableswitch 85 0 5 #[37, 45, 53, 61, 69, 77], 37) := by decide +kernel
theorem dX11_nail_48 : decode cX11_nail 48 = .ok (.aload_n 0, 1) := by decide +kernel
theorem dX11_nail_49 : decode cX11_nail 49 = .ok (.getfield 44, 3) := by decide +kernel
theorem dX11_nail_52 : decode cX11_nail 52 = .ok (.getfield 166, 3) := by decide +kernel
theorem dX11_nail_55 : decode cX11_nail 55 = .ok (.ireturn, 1) := by decide +kernel
theorem dX11_nail_56 : decode cX11_nail 56 = .ok (.aload_n 0, 1) := by decide +kernel
theorem dX11_nail_57 : decode cX11_nail 57 = .ok (.getfield 44, 3) := by decide +kernel
theorem dX11_nail_60 : decode cX11_nail 60 = .ok (.getfield 172, 3) := by decide +kernel
theorem dX11_nail_63 : decode cX11_nail 63 = .ok (.ireturn, 1) := by decide +kernel
theorem dX11_nail_64 : decode cX11_nail 64 = .ok (.aload_n 0, 1) := by decide +kernel
theorem dX11_nail_65 : decode cX11_nail 65 = .ok (.getfield 44, 3) := by decide +kernel
theorem dX11_nail_68 : decode cX11_nail 68 = .ok (.getfield 191, 3) := by decide +kernel
theorem dX11_nail_71 : decode cX11_nail 71 = .ok (.ireturn, 1) := by decide +kernel
theorem dX11_nail_72 : decode cX11_nail 72 = .ok (.aload_n 0, 1) := by decide +kernel
theorem dX11_nail_73 : decode cX11_nail 73 = .ok (.getfield 44, 3) := by decide +kernel
theorem dX11_nail_76 : decode cX11_nail 76 = .ok (.getfield 153, 3) := by decide +kernel
theorem dX11_nail_79 : decode cX11_nail 79 = .ok (.ireturn, 1) := by decide +kernel
theorem dX11_nail_80 : decode cX11_nail 80 = .ok (.aload_n 0, 1) := by decide +kernel
theorem dX11_nail_81 : decode cX11_nail 81 = .ok (.getfield 44, 3) := by decide +kernel
theorem dX11_nail_84 : decode cX11_nail 84 = .ok (.getfield 194, 3) := by decide +kernel
theorem dX11_nail_87 : decode cX11_nail 87 = .ok (.ireturn, 1) := by decide +kernel
theorem dX11_nail_88 : decode cX11_nail 88 = .ok (.aload_n 0, 1) := by decide +kernel
theorem dX11_nail_89 : decode cX11_nail 89 = .ok (.getfield 44, 3) := by decide +kernel
theorem dX11_nail_92 : decode cX11_nail 92 = .ok (.getfield 188, 3) := by decide +kernel
theorem dX11_nail_95 : decode cX11_nail 95 = .ok (.ireturn, 1) := by decide +kernel
theorem dX11_nail_96 : decode cX11_nail 96 = .ok (.ldc 60, 2) := by decide +kernel
theorem dX11_nail_98 : decode cX11_nail 98 = .ok (.ireturn, 1) := by decide +kernel
theorem dX11_place_0 : decode cX11_place 0 = .ok (.aload_n 0, 1) := by decide +kernel
theorem dX11_place_1 : decode cX11_place 1 = .ok (.iload_n 1, 1) := by decide +kernel
theorem dX11_place_2 : decode cX11_place 2 = .ok (.invokevirtual 184, 3) := by decide +kernel
theorem dX11_place_5 : decode cX11_place 5 = .ok (.ifCond .eq 12, 3) := by decide +kernel
theorem dX11_place_8 : decode cX11_place 8 = .ok (.iload_n 2, 1) := by decide +kernel
theorem dX11_place_9 : decode cX11_place 9 = .ok (.iconst 0, 1) := by decide +kernel
theorem dX11_place_10 : decode cX11_place 10 = .ok (.iconst 1, 1) := by decide +kernel
theorem dX11_place_11 : decode cX11_place 11 = .ok (.invokestatic 56, 3) := by decide +kernel
theorem dX11_place_14 : decode cX11_place 14 = .ok (.ifCond .ne 6, 3) := by decide +kernel
theorem dX11_place_17 : decode cX11_place 17 = .ok (.ldc 60, 2) := by decide +kernel
theorem dX11_place_19 : decode cX11_place 19 = .ok (.ireturn, 1) := by decide +kernel
theorem dX11_place_20 : decode cX11_place 20 = .ok (.iload_n 2, 1) := by decide +kernel
theorem dX11_place_21 : decode cX11_place 21 = .ok (.ifCond .ne 18, 3) := by decide +kernel
theorem dX11_place_24 : decode cX11_place 24 = .ok (.aload_n 0, 1) := by decide +kernel
theorem dX11_place_25 : decode cX11_place 25 = .ok (.getfield 44, 3) := by decide +kernel
theorem dX11_place_28 : decode cX11_place 28 = .ok (.getfield 197, 3) := by decide +kernel
theorem dX11_place_31 : decode cX11_place 31 = .ok (.getfield 201, 3) := by decide +kernel
theorem dX11_place_34 : decode cX11_place 34 = .ok (.iload_n 1, 1) := by decide +kernel
theorem dX11_place_35 : decode cX11_place 35 = .ok (.iaload, 1) := by decide +kernel
theorem dX11_place_36 : decode cX11_place 36 = .ok (.goto 15, 3) := by decide +kernel
theorem dX11_place_39 : decode cX11_place 39 = .ok (.aload_n 0, 1) := by decide +kernel
theorem dX11_place_40 : decode cX11_place 40 = .ok (.getfield 44, 3) := by decide +kernel
theorem dX11_place_43 : decode cX11_place 43 = .ok (.getfield 197, 3) := by decide +kernel
theorem dX11_place_46 : decode cX11_place 46 = .ok (.getfield 204, 3) := by decide +kernel
theorem dX11_place_49 : decode cX11_place 49 = .ok (.iload_n 1, 1) := by decide +kernel
theorem dX11_place_50 : decode cX11_place 50 = .ok (.iaload, 1) := by decide +kernel
theorem dX11_place_51 : decode cX11_place 51 = .ok (.ireturn, 1) := by decide +kernel
theorem dX11_seeker_0 : decode cX11_seeker 0 = .ok (.aload_n 0, 1) := by decide +kernel
theorem dX11_seeker_1 : decode cX11_seeker 1 = .ok (.iload_n 1, 1) := by decide +kernel
theorem dX11_seeker_2 : decode cX11_seeker 2 = .ok (.invokevirtual 141, 3) := by decide +kernel
theorem dX11_seeker_5 : decode cX11_seeker 5 = .ok (.astore_n 3, 1) := by decide +kernel
theorem dX11_seeker_6 : decode cX11_seeker 6 = .ok (.aload_n 3, 1) := by decide +kernel
theorem dX11_seeker_7 : decode cX11_seeker 7 = .ok (.ifnonnull 6, 3) := by decide +kernel
theorem dX11_seeker_10 : decode cX11_seeker 10 = .ok (.ldc 60, 2) := by decide +kernel
theorem dX11_seeker_12 : decode cX11_seeker 12 = .ok (.ireturn, 1) := by decide +kernel
theorem dX11_seeker_13 : decode cX11_seeker 13 = .ok (.iload_n 2, 1) := by decide +kernel
theorem dX11_seeker_14 : decode cX11_seeker 14 = .ok (.tableswitch 61 0 3 #[30, 35, 40, 52], 30) := by decide +kernel
theorem dX11_seeker_44 : decode cX11_seeker 44 = .ok (.aload_n 3, 1) := by decide +kernel
theorem dX11_seeker_45 : decode cX11_seeker 45 = .ok (.getfield 207, 3) := by decide +kernel
theorem dX11_seeker_48 : decode cX11_seeker 48 = .ok (.ireturn, 1) := by decide +kernel
theorem dX11_seeker_49 : decode cX11_seeker 49 = .ok (.aload_n 3, 1) := by decide +kernel
theorem dX11_seeker_50 : decode cX11_seeker 50 = .ok (.getfield 210, 3) := by decide +kernel
theorem dX11_seeker_53 : decode cX11_seeker 53 = .ok (.ireturn, 1) := by decide +kernel
theorem dX11_seeker_54 : decode cX11_seeker 54 = .ok (.aload_n 3, 1) := by decide +kernel
theorem dX11_seeker_55 : decode cX11_seeker 55 = .ok (.aload_n 0, 1) := by decide +kernel
theorem dX11_seeker_56 : decode cX11_seeker 56 = .ok (.getfield 44, 3) := by decide +kernel
theorem dX11_seeker_59 : decode cX11_seeker 59 = .ok (.getfield 172, 3) := by decide +kernel
theorem dX11_seeker_62 : decode cX11_seeker 62 = .ok (.invokevirtual 213, 3) := by decide +kernel
theorem dX11_seeker_65 : decode cX11_seeker 65 = .ok (.ireturn, 1) := by decide +kernel
theorem dX11_seeker_66 : decode cX11_seeker 66 = .ok (.aload_n 3, 1) := by decide +kernel
theorem dX11_seeker_67 : decode cX11_seeker 67 = .ok (.aload_n 0, 1) := by decide +kernel
theorem dX11_seeker_68 : decode cX11_seeker 68 = .ok (.getfield 44, 3) := by decide +kernel
theorem dX11_seeker_71 : decode cX11_seeker 71 = .ok (.invokevirtual 175, 3) := by decide +kernel
theorem dX11_seeker_74 : decode cX11_seeker 74 = .ok (.ireturn, 1) := by decide +kernel
theorem dX11_seeker_75 : decode cX11_seeker 75 = .ok (.ldc 60, 2) := by decide +kernel
theorem dX11_seeker_77 : decode cX11_seeker 77 = .ok (.ireturn, 1) := by decide +kernel
theorem dX11_likelihood_0 : decode cX11_likelihood 0 = .ok (.aload_n 0, 1) := by decide +kernel
theorem dX11_likelihood_1 : decode cX11_likelihood 1 = .ok (.iload_n 1, 1) := by decide +kernel
theorem dX11_likelihood_2 : decode cX11_likelihood 2 = .ok (.invokevirtual 216, 3) := by decide +kernel
theorem dX11_likelihood_5 : decode cX11_likelihood 5 = .ok (.ifCond .ne 7, 3) := by decide +kernel
theorem dX11_likelihood_8 : decode cX11_likelihood 8 = .ok (.ldc2_w 219, 3) := by decide +kernel
theorem dX11_likelihood_11 : decode cX11_likelihood 11 = .ok (.lreturn, 1) := by decide +kernel
theorem dX11_likelihood_12 : decode cX11_likelihood 12 = .ok (.aload_n 0, 1) := by decide +kernel
theorem dX11_likelihood_13 : decode cX11_likelihood 13 = .ok (.getfield 44, 3) := by decide +kernel
theorem dX11_likelihood_16 : decode cX11_likelihood 16 = .ok (.getfield 221, 3) := by decide +kernel
theorem dX11_likelihood_19 : decode cX11_likelihood 19 = .ok (.iload_n 1, 1) := by decide +kernel
theorem dX11_likelihood_20 : decode cX11_likelihood 20 = .ok (.laload, 1) := by decide +kernel
theorem dX11_likelihood_21 : decode cX11_likelihood 21 = .ok (.lreturn, 1) := by decide +kernel
theorem dX11_likely_0 : decode cX11_likely 0 = .ok (.aload_n 0, 1) := by decide +kernel
theorem dX11_likely_1 : decode cX11_likely 1 = .ok (.iload_n 1, 1) := by decide +kernel
theorem dX11_likely_2 : decode cX11_likely 2 = .ok (.invokevirtual 216, 3) := by decide +kernel
theorem dX11_likely_5 : decode cX11_likely 5 = .ok (.ifCond .eq 12, 3) := by decide +kernel
theorem dX11_likely_8 : decode cX11_likely 8 = .ok (.iload_n 2, 1) := by decide +kernel
theorem dX11_likely_9 : decode cX11_likely 9 = .ok (.iconst 0, 1) := by decide +kernel
theorem dX11_likely_10 : decode cX11_likely 10 = .ok (.iconst 1, 1) := by decide +kernel
theorem dX11_likely_11 : decode cX11_likely 11 = .ok (.invokestatic 56, 3) := by decide +kernel
theorem dX11_likely_14 : decode cX11_likely 14 = .ok (.ifCond .ne 7, 3) := by decide +kernel
theorem dX11_likely_17 : decode cX11_likely 17 = .ok (.ldc2_w 219, 3) := by decide +kernel
theorem dX11_likely_20 : decode cX11_likely 20 = .ok (.lreturn, 1) := by decide +kernel
theorem dX11_likely_21 : decode cX11_likely 21 = .ok (.aload_n 0, 1) := by decide +kernel
theorem dX11_likely_22 : decode cX11_likely 22 = .ok (.getfield 44, 3) := by decide +kernel
theorem dX11_likely_25 : decode cX11_likely 25 = .ok (.getfield 221, 3) := by decide +kernel
theorem dX11_likely_28 : decode cX11_likely 28 = .ok (.iload_n 1, 1) := by decide +kernel
theorem dX11_likely_29 : decode cX11_likely 29 = .ok (.laload, 1) := by decide +kernel
theorem dX11_likely_30 : decode cX11_likely 30 = .ok (.aload_n 0, 1) := by decide +kernel
theorem dX11_likely_31 : decode cX11_likely 31 = .ok (.getfield 44, 3) := by decide +kernel
theorem dX11_likely_34 : decode cX11_likely 34 = .ok (.invokevirtual 149, 3) := by decide +kernel
theorem dX11_likely_37 : decode cX11_likely 37 = .ok (.iload_n 2, 1) := by decide +kernel
theorem dX11_likely_38 : decode cX11_likely 38 = .ok (.invokestatic 225, 3) := by decide +kernel
theorem dX11_likely_41 : decode cX11_likely 41 = .ok (.lreturn, 1) := by decide +kernel
theorem dX11_felt_0 : decode cX11_felt 0 = .ok (.aload_n 0, 1) := by decide +kernel
theorem dX11_felt_1 : decode cX11_felt 1 = .ok (.iload_n 1, 1) := by decide +kernel
theorem dX11_felt_2 : decode cX11_felt 2 = .ok (.invokevirtual 141, 3) := by decide +kernel
theorem dX11_felt_5 : decode cX11_felt 5 = .ok (.astore_n 3, 1) := by decide +kernel
theorem dX11_felt_6 : decode cX11_felt 6 = .ok (.aload_n 3, 1) := by decide +kernel
theorem dX11_felt_7 : decode cX11_felt 7 = .ok (.ifnull 12, 3) := by decide +kernel
theorem dX11_felt_10 : decode cX11_felt 10 = .ok (.iload_n 2, 1) := by decide +kernel
theorem dX11_felt_11 : decode cX11_felt 11 = .ok (.iconst 0, 1) := by decide +kernel
theorem dX11_felt_12 : decode cX11_felt 12 = .ok (.iconst 1, 1) := by decide +kernel
theorem dX11_felt_13 : decode cX11_felt 13 = .ok (.invokestatic 56, 3) := by decide +kernel
theorem dX11_felt_16 : decode cX11_felt 16 = .ok (.ifCond .ne 7, 3) := by decide +kernel
theorem dX11_felt_19 : decode cX11_felt 19 = .ok (.ldc2_w 219, 3) := by decide +kernel
theorem dX11_felt_22 : decode cX11_felt 22 = .ok (.lreturn, 1) := by decide +kernel
theorem dX11_felt_23 : decode cX11_felt 23 = .ok (.aload_n 0, 1) := by decide +kernel
theorem dX11_felt_24 : decode cX11_felt 24 = .ok (.getfield 44, 3) := by decide +kernel
theorem dX11_felt_27 : decode cX11_felt 27 = .ok (.invokevirtual 149, 3) := by decide +kernel
theorem dX11_felt_30 : decode cX11_felt 30 = .ok (.lstore 4, 2) := by decide +kernel
theorem dX11_felt_32 : decode cX11_felt 32 = .ok (.aload_n 0, 1) := by decide +kernel
theorem dX11_felt_33 : decode cX11_felt 33 = .ok (.getfield 44, 3) := by decide +kernel
theorem dX11_felt_36 : decode cX11_felt 36 = .ok (.getfield 221, 3) := by decide +kernel
theorem dX11_felt_39 : decode cX11_felt 39 = .ok (.aload_n 0, 1) := by decide +kernel
theorem dX11_felt_40 : decode cX11_felt 40 = .ok (.getfield 44, 3) := by decide +kernel
theorem dX11_felt_43 : decode cX11_felt 43 = .ok (.getfield 166, 3) := by decide +kernel
theorem dX11_felt_46 : decode cX11_felt 46 = .ok (.laload, 1) := by decide +kernel
theorem dX11_felt_47 : decode cX11_felt 47 = .ok (.lstore 6, 2) := by decide +kernel
theorem dX11_felt_49 : decode cX11_felt 49 = .ok (.lload 6, 2) := by decide +kernel
theorem dX11_felt_51 : decode cX11_felt 51 = .ok (.aload_n 3, 1) := by decide +kernel
theorem dX11_felt_52 : decode cX11_felt 52 = .ok (.aload_n 0, 1) := by decide +kernel
theorem dX11_felt_53 : decode cX11_felt 53 = .ok (.getfield 44, 3) := by decide +kernel
theorem dX11_felt_56 : decode cX11_felt 56 = .ok (.getfield 172, 3) := by decide +kernel
theorem dX11_felt_59 : decode cX11_felt 59 = .ok (.invokevirtual 213, 3) := by decide +kernel
theorem dX11_felt_62 : decode cX11_felt 62 = .ok (.i2l, 1) := by decide +kernel
theorem dX11_felt_63 : decode cX11_felt 63 = .ok (.lmul, 1) := by decide +kernel
theorem dX11_felt_64 : decode cX11_felt 64 = .ok (.lload 4, 2) := by decide +kernel
theorem dX11_felt_66 : decode cX11_felt 66 = .ok (.lload 6, 2) := by decide +kernel
theorem dX11_felt_68 : decode cX11_felt 68 = .ok (.lsub, 1) := by decide +kernel
theorem dX11_felt_69 : decode cX11_felt 69 = .ok (.aload_n 0, 1) := by decide +kernel
theorem dX11_felt_70 : decode cX11_felt 70 = .ok (.getfield 44, 3) := by decide +kernel
theorem dX11_felt_73 : decode cX11_felt 73 = .ok (.getfield 197, 3) := by decide +kernel
theorem dX11_felt_76 : decode cX11_felt 76 = .ok (.getfield 204, 3) := by decide +kernel
theorem dX11_felt_79 : decode cX11_felt 79 = .ok (.aload_n 0, 1) := by decide +kernel
theorem dX11_felt_80 : decode cX11_felt 80 = .ok (.getfield 44, 3) := by decide +kernel
theorem dX11_felt_83 : decode cX11_felt 83 = .ok (.getfield 166, 3) := by decide +kernel
theorem dX11_felt_86 : decode cX11_felt 86 = .ok (.iaload, 1) := by decide +kernel
theorem dX11_felt_87 : decode cX11_felt 87 = .ok (.i2l, 1) := by decide +kernel
theorem dX11_felt_88 : decode cX11_felt 88 = .ok (.lmul, 1) := by decide +kernel
theorem dX11_felt_89 : decode cX11_felt 89 = .ok (.ladd, 1) := by decide +kernel
theorem dX11_felt_90 : decode cX11_felt 90 = .ok (.lstore 8, 2) := by decide +kernel
theorem dX11_felt_92 : decode cX11_felt 92 = .ok (.lload 8, 2) := by decide +kernel
theorem dX11_felt_94 : decode cX11_felt 94 = .ok (.ldc2_w 229, 3) := by decide +kernel
theorem dX11_felt_97 : decode cX11_felt 97 = .ok (.lload 4, 2) := by decide +kernel
theorem dX11_felt_99 : decode cX11_felt 99 = .ok (.lmul, 1) := by decide +kernel
theorem dX11_felt_100 : decode cX11_felt 100 = .ok (.iload_n 2, 1) := by decide +kernel
theorem dX11_felt_101 : decode cX11_felt 101 = .ok (.invokestatic 225, 3) := by decide +kernel
theorem dX11_felt_104 : decode cX11_felt 104 = .ok (.lreturn, 1) := by decide +kernel
theorem dX11_surest_0 : decode cX11_surest 0 = .ok (.aload_n 0, 1) := by decide +kernel
theorem dX11_surest_1 : decode cX11_surest 1 = .ok (.invokevirtual 159, 3) := by decide +kernel
theorem dX11_surest_4 : decode cX11_surest 4 = .ok (.ifCond .eq 6, 3) := by decide +kernel
theorem dX11_surest_7 : decode cX11_surest 7 = .ok (.ldc 133, 2) := by decide +kernel
theorem dX11_surest_9 : decode cX11_surest 9 = .ok (.ireturn, 1) := by decide +kernel
theorem dX11_surest_10 : decode cX11_surest 10 = .ok (.aload_n 0, 1) := by decide +kernel
theorem dX11_surest_11 : decode cX11_surest 11 = .ok (.getfield 44, 3) := by decide +kernel
theorem dX11_surest_14 : decode cX11_surest 14 = .ok (.ldc 231, 2) := by decide +kernel
theorem dX11_surest_16 : decode cX11_surest 16 = .ok (.invokevirtual 232, 3) := by decide +kernel
theorem dX11_surest_19 : decode cX11_surest 19 = .ok (.ireturn, 1) := by decide +kernel
theorem dX11_mean_0 : decode cX11_mean 0 = .ok (.aload_n 0, 1) := by decide +kernel
theorem dX11_mean_1 : decode cX11_mean 1 = .ok (.iload_n 1, 1) := by decide +kernel
theorem dX11_mean_2 : decode cX11_mean 2 = .ok (.invokevirtual 141, 3) := by decide +kernel
theorem dX11_mean_5 : decode cX11_mean 5 = .ok (.astore 6, 2) := by decide +kernel
theorem dX11_mean_7 : decode cX11_mean 7 = .ok (.aload 6, 2) := by decide +kernel
theorem dX11_mean_9 : decode cX11_mean 9 = .ok (.ifnull 38, 3) := by decide +kernel
theorem dX11_mean_12 : decode cX11_mean 12 = .ok (.aload_n 0, 1) := by decide +kernel
theorem dX11_mean_13 : decode cX11_mean 13 = .ok (.iload_n 2, 1) := by decide +kernel
theorem dX11_mean_14 : decode cX11_mean 14 = .ok (.invokevirtual 184, 3) := by decide +kernel
theorem dX11_mean_17 : decode cX11_mean 17 = .ok (.ifCond .eq 30, 3) := by decide +kernel
theorem dX11_mean_20 : decode cX11_mean 20 = .ok (.iload_n 3, 1) := by decide +kernel
theorem dX11_mean_21 : decode cX11_mean 21 = .ok (.invokestatic 235, 3) := by decide +kernel
theorem dX11_mean_24 : decode cX11_mean 24 = .ok (.ifCond .eq 23, 3) := by decide +kernel
theorem dX11_mean_27 : decode cX11_mean 27 = .ok (.iload 4, 2) := by decide +kernel
theorem dX11_mean_29 : decode cX11_mean 29 = .ok (.iconst 1, 1) := by decide +kernel
theorem dX11_mean_30 : decode cX11_mean 30 = .ok (.iconst 3, 1) := by decide +kernel
theorem dX11_mean_31 : decode cX11_mean 31 = .ok (.invokestatic 56, 3) := by decide +kernel
theorem dX11_mean_34 : decode cX11_mean 34 = .ok (.ifCond .eq 13, 3) := by decide +kernel
theorem dX11_mean_37 : decode cX11_mean 37 = .ok (.iload 5, 2) := by decide +kernel
theorem dX11_mean_39 : decode cX11_mean 39 = .ok (.iconst 0, 1) := by decide +kernel
theorem dX11_mean_40 : decode cX11_mean 40 = .ok (.iconst 1, 1) := by decide +kernel
theorem dX11_mean_41 : decode cX11_mean 41 = .ok (.invokestatic 56, 3) := by decide +kernel
theorem dX11_mean_44 : decode cX11_mean 44 = .ok (.ifCond .ne 7, 3) := by decide +kernel
theorem dX11_mean_47 : decode cX11_mean 47 = .ok (.ldc2_w 219, 3) := by decide +kernel
theorem dX11_mean_50 : decode cX11_mean 50 = .ok (.lreturn, 1) := by decide +kernel
theorem dX11_mean_51 : decode cX11_mean 51 = .ok (.aload_n 0, 1) := by decide +kernel
theorem dX11_mean_52 : decode cX11_mean 52 = .ok (.getfield 44, 3) := by decide +kernel
theorem dX11_mean_55 : decode cX11_mean 55 = .ok (.aload 6, 2) := by decide +kernel
theorem dX11_mean_57 : decode cX11_mean 57 = .ok (.iload_n 2, 1) := by decide +kernel
theorem dX11_mean_58 : decode cX11_mean 58 = .ok (.iload_n 3, 1) := by decide +kernel
theorem dX11_mean_59 : decode cX11_mean 59 = .ok (.iload 4, 2) := by decide +kernel
theorem dX11_mean_61 : decode cX11_mean 61 = .ok (.invokevirtual 238, 3) := by decide +kernel
theorem dX11_mean_64 : decode cX11_mean 64 = .ok (.aload_n 0, 1) := by decide +kernel
theorem dX11_mean_65 : decode cX11_mean 65 = .ok (.getfield 44, 3) := by decide +kernel
theorem dX11_mean_68 : decode cX11_mean 68 = .ok (.invokevirtual 149, 3) := by decide +kernel
theorem dX11_mean_71 : decode cX11_mean 71 = .ok (.iload 4, 2) := by decide +kernel
theorem dX11_mean_73 : decode cX11_mean 73 = .ok (.invokestatic 242, 3) := by decide +kernel
theorem dX11_mean_76 : decode cX11_mean 76 = .ok (.lmul, 1) := by decide +kernel
theorem dX11_mean_77 : decode cX11_mean 77 = .ok (.iload 5, 2) := by decide +kernel
theorem dX11_mean_79 : decode cX11_mean 79 = .ok (.invokestatic 225, 3) := by decide +kernel
theorem dX11_mean_82 : decode cX11_mean 82 = .ok (.lreturn, 1) := by decide +kernel
theorem dX11_begin_0 : decode cX11_begin 0 = .ok (.aload_n 0, 1) := by decide +kernel
theorem dX11_begin_1 : decode cX11_begin 1 = .ok (.iload_n 1, 1) := by decide +kernel
theorem dX11_begin_2 : decode cX11_begin 2 = .ok (.invokevirtual 141, 3) := by decide +kernel
theorem dX11_begin_5 : decode cX11_begin 5 = .ok (.astore_n 3, 1) := by decide +kernel
theorem dX11_begin_6 : decode cX11_begin 6 = .ok (.aload_n 3, 1) := by decide +kernel
theorem dX11_begin_7 : decode cX11_begin 7 = .ok (.ifnull 12, 3) := by decide +kernel
theorem dX11_begin_10 : decode cX11_begin 10 = .ok (.iload_n 2, 1) := by decide +kernel
theorem dX11_begin_11 : decode cX11_begin 11 = .ok (.iconst 1, 1) := by decide +kernel
theorem dX11_begin_12 : decode cX11_begin 12 = .ok (.iconst 3, 1) := by decide +kernel
theorem dX11_begin_13 : decode cX11_begin 13 = .ok (.invokestatic 56, 3) := by decide +kernel
theorem dX11_begin_16 : decode cX11_begin 16 = .ok (.ifCond .ne 6, 3) := by decide +kernel
theorem dX11_begin_19 : decode cX11_begin 19 = .ok (.ldc 60, 2) := by decide +kernel
theorem dX11_begin_21 : decode cX11_begin 21 = .ok (.ireturn, 1) := by decide +kernel
theorem dX11_begin_22 : decode cX11_begin 22 = .ok (.iconst 0, 1) := by decide +kernel
theorem dX11_begin_23 : decode cX11_begin 23 = .ok (.istore 4, 2) := by decide +kernel
theorem dX11_begin_25 : decode cX11_begin 25 = .ok (.aload_n 0, 1) := by decide +kernel
theorem dX11_begin_26 : decode cX11_begin 26 = .ok (.getfield 44, 3) := by decide +kernel
theorem dX11_begin_29 : decode cX11_begin 29 = .ok (.aload_n 3, 1) := by decide +kernel
theorem dX11_begin_30 : decode cX11_begin 30 = .ok (.iconst 0, 1) := by decide +kernel
theorem dX11_begin_31 : decode cX11_begin 31 = .ok (.iconst 1, 1) := by decide +kernel
theorem dX11_begin_32 : decode cX11_begin 32 = .ok (.iload_n 2, 1) := by decide +kernel
theorem dX11_begin_33 : decode cX11_begin 33 = .ok (.invokevirtual 238, 3) := by decide +kernel
theorem dX11_begin_36 : decode cX11_begin 36 = .ok (.lstore 5, 2) := by decide +kernel
theorem dX11_begin_38 : decode cX11_begin 38 = .ok (.iconst 1, 1) := by decide +kernel
theorem dX11_begin_39 : decode cX11_begin 39 = .ok (.istore 7, 2) := by decide +kernel
theorem dX11_begin_41 : decode cX11_begin 41 = .ok (.iload 7, 2) := by decide +kernel
theorem dX11_begin_43 : decode cX11_begin 43 = .ok (.iconst 2, 1) := by decide +kernel
theorem dX11_begin_44 : decode cX11_begin 44 = .ok (.aload_n 0, 1) := by decide +kernel
theorem dX11_begin_45 : decode cX11_begin 45 = .ok (.getfield 44, 3) := by decide +kernel
theorem dX11_begin_48 : decode cX11_begin 48 = .ok (.getfield 197, 3) := by decide +kernel
theorem dX11_begin_51 : decode cX11_begin 51 = .ok (.getfield 127, 3) := by decide +kernel
theorem dX11_begin_54 : decode cX11_begin 54 = .ok (.imul, 1) := by decide +kernel
theorem dX11_begin_55 : decode cX11_begin 55 = .ok (.if_icmp .ge 52, 3) := by decide +kernel
theorem dX11_begin_58 : decode cX11_begin 58 = .ok (.aload_n 0, 1) := by decide +kernel
theorem dX11_begin_59 : decode cX11_begin 59 = .ok (.getfield 44, 3) := by decide +kernel
theorem dX11_begin_62 : decode cX11_begin 62 = .ok (.aload_n 3, 1) := by decide +kernel
theorem dX11_begin_63 : decode cX11_begin 63 = .ok (.iload 7, 2) := by decide +kernel
theorem dX11_begin_65 : decode cX11_begin 65 = .ok (.iconst 2, 1) := by decide +kernel
theorem dX11_begin_66 : decode cX11_begin 66 = .ok (.idiv, 1) := by decide +kernel
theorem dX11_begin_67 : decode cX11_begin 67 = .ok (.iload 7, 2) := by decide +kernel
theorem dX11_begin_69 : decode cX11_begin 69 = .ok (.iconst 2, 1) := by decide +kernel
theorem dX11_begin_70 : decode cX11_begin 70 = .ok (.irem, 1) := by decide +kernel
theorem dX11_begin_71 : decode cX11_begin 71 = .ok (.ifCond .ne 7, 3) := by decide +kernel
theorem dX11_begin_74 : decode cX11_begin 74 = .ok (.iconst 1, 1) := by decide +kernel
theorem dX11_begin_75 : decode cX11_begin 75 = .ok (.goto 4, 3) := by decide +kernel
theorem dX11_begin_78 : decode cX11_begin 78 = .ok (.iconst (-1), 1) := by decide +kernel
theorem dX11_begin_79 : decode cX11_begin 79 = .ok (.iload_n 2, 1) := by decide +kernel
theorem dX11_begin_80 : decode cX11_begin 80 = .ok (.invokevirtual 238, 3) := by decide +kernel
theorem dX11_begin_83 : decode cX11_begin 83 = .ok (.lstore 8, 2) := by decide +kernel
theorem dX11_begin_85 : decode cX11_begin 85 = .ok (.lload 8, 2) := by decide +kernel
theorem dX11_begin_87 : decode cX11_begin 87 = .ok (.lload 5, 2) := by decide +kernel
theorem dX11_begin_89 : decode cX11_begin 89 = .ok (.lcmp, 1) := by decide +kernel
theorem dX11_begin_90 : decode cX11_begin 90 = .ok (.ifCond .ge 11, 3) := by decide +kernel
theorem dX11_begin_93 : decode cX11_begin 93 = .ok (.lload 8, 2) := by decide +kernel
theorem dX11_begin_95 : decode cX11_begin 95 = .ok (.lstore 5, 2) := by decide +kernel
theorem dX11_begin_97 : decode cX11_begin 97 = .ok (.iload 7, 2) := by decide +kernel
theorem dX11_begin_99 : decode cX11_begin 99 = .ok (.istore 4, 2) := by decide +kernel
theorem dX11_begin_101 : decode cX11_begin 101 = .ok (.iinc 7 1, 3) := by decide +kernel
theorem dX11_begin_104 : decode cX11_begin 104 = .ok (.goto (-63), 3) := by decide +kernel
theorem dX11_begin_107 : decode cX11_begin 107 = .ok (.iload 4, 2) := by decide +kernel
theorem dX11_begin_109 : decode cX11_begin 109 = .ok (.ireturn, 1) := by decide +kernel
theorem dX11_noEnd_0 : decode cX11_noEnd 0 = .ok (.aload_n 0, 1) := by decide +kernel
theorem dX11_noEnd_1 : decode cX11_noEnd 1 = .ok (.iload_n 1, 1) := by decide +kernel
theorem dX11_noEnd_2 : decode cX11_noEnd 2 = .ok (.invokevirtual 141, 3) := by decide +kernel
theorem dX11_noEnd_5 : decode cX11_noEnd 5 = .ok (.astore 4, 2) := by decide +kernel
theorem dX11_noEnd_7 : decode cX11_noEnd 7 = .ok (.aload 4, 2) := by decide +kernel
theorem dX11_noEnd_9 : decode cX11_noEnd 9 = .ok (.ifnull 20, 3) := by decide +kernel
theorem dX11_noEnd_12 : decode cX11_noEnd 12 = .ok (.iload_n 2, 1) := by decide +kernel
theorem dX11_noEnd_13 : decode cX11_noEnd 13 = .ok (.invokestatic 235, 3) := by decide +kernel
theorem dX11_noEnd_16 : decode cX11_noEnd 16 = .ok (.ifCond .eq 13, 3) := by decide +kernel
theorem dX11_noEnd_19 : decode cX11_noEnd 19 = .ok (.iload_n 3, 1) := by decide +kernel
theorem dX11_noEnd_20 : decode cX11_noEnd 20 = .ok (.iconst 0, 1) := by decide +kernel
theorem dX11_noEnd_21 : decode cX11_noEnd 21 = .ok (.bipush 99, 2) := by decide +kernel
theorem dX11_noEnd_23 : decode cX11_noEnd 23 = .ok (.invokestatic 56, 3) := by decide +kernel
theorem dX11_noEnd_26 : decode cX11_noEnd 26 = .ok (.ifCond .ne 6, 3) := by decide +kernel
theorem dX11_noEnd_29 : decode cX11_noEnd 29 = .ok (.ldc 60, 2) := by decide +kernel
theorem dX11_noEnd_31 : decode cX11_noEnd 31 = .ok (.ireturn, 1) := by decide +kernel
theorem dX11_noEnd_32 : decode cX11_noEnd 32 = .ok (.aload_n 0, 1) := by decide +kernel
theorem dX11_noEnd_33 : decode cX11_noEnd 33 = .ok (.getfield 44, 3) := by decide +kernel
theorem dX11_noEnd_36 : decode cX11_noEnd 36 = .ok (.getfield 221, 3) := by decide +kernel
theorem dX11_noEnd_39 : decode cX11_noEnd 39 = .ok (.aload_n 0, 1) := by decide +kernel
theorem dX11_noEnd_40 : decode cX11_noEnd 40 = .ok (.getfield 44, 3) := by decide +kernel
theorem dX11_noEnd_43 : decode cX11_noEnd 43 = .ok (.getfield 197, 3) := by decide +kernel
theorem dX11_noEnd_46 : decode cX11_noEnd 46 = .ok (.getfield 127, 3) := by decide +kernel
theorem dX11_noEnd_49 : decode cX11_noEnd 49 = .ok (.laload, 1) := by decide +kernel
theorem dX11_noEnd_50 : decode cX11_noEnd 50 = .ok (.lstore 5, 2) := by decide +kernel
theorem dX11_noEnd_52 : decode cX11_noEnd 52 = .ok (.aload_n 0, 1) := by decide +kernel
theorem dX11_noEnd_53 : decode cX11_noEnd 53 = .ok (.getfield 44, 3) := by decide +kernel
theorem dX11_noEnd_56 : decode cX11_noEnd 56 = .ok (.invokevirtual 149, 3) := by decide +kernel
theorem dX11_noEnd_59 : decode cX11_noEnd 59 = .ok (.lload 5, 2) := by decide +kernel
theorem dX11_noEnd_61 : decode cX11_noEnd 61 = .ok (.lsub, 1) := by decide +kernel
theorem dX11_noEnd_62 : decode cX11_noEnd 62 = .ok (.lstore 7, 2) := by decide +kernel
theorem dX11_noEnd_64 : decode cX11_noEnd 64 = .ok (.bipush 10, 2) := by decide +kernel
theorem dX11_noEnd_66 : decode cX11_noEnd 66 = .ok (.aload 4, 2) := by decide +kernel
theorem dX11_noEnd_68 : decode cX11_noEnd 68 = .ok (.iload_n 2, 1) := by decide +kernel
theorem dX11_noEnd_69 : decode cX11_noEnd 69 = .ok (.invokevirtual 213, 3) := by decide +kernel
theorem dX11_noEnd_72 : decode cX11_noEnd 72 = .ok (.isub, 1) := by decide +kernel
theorem dX11_noEnd_73 : decode cX11_noEnd 73 = .ok (.istore 9, 2) := by decide +kernel
theorem dX11_noEnd_75 : decode cX11_noEnd 75 = .ok (.iconst 0, 1) := by decide +kernel
theorem dX11_noEnd_76 : decode cX11_noEnd 76 = .ok (.istore 10, 2) := by decide +kernel
theorem dX11_noEnd_78 : decode cX11_noEnd 78 = .ok (.iload 10, 2) := by decide +kernel
theorem dX11_noEnd_80 : decode cX11_noEnd 80 = .ok (.iconst 4, 1) := by decide +kernel
theorem dX11_noEnd_81 : decode cX11_noEnd 81 = .ok (.if_icmp .gt 46, 3) := by decide +kernel
theorem dX11_noEnd_84 : decode cX11_noEnd 84 = .ok (.ldc2_w 246, 3) := by decide +kernel
theorem dX11_noEnd_87 : decode cX11_noEnd 87 = .ok (.lload 7, 2) := by decide +kernel
theorem dX11_noEnd_89 : decode cX11_noEnd 89 = .ok (.lmul, 1) := by decide +kernel
theorem dX11_noEnd_90 : decode cX11_noEnd 90 = .ok (.iload_n 3, 1) := by decide +kernel
theorem dX11_noEnd_91 : decode cX11_noEnd 91 = .ok (.i2l, 1) := by decide +kernel
theorem dX11_noEnd_92 : decode cX11_noEnd 92 = .ok (.lload 7, 2) := by decide +kernel
theorem dX11_noEnd_94 : decode cX11_noEnd 94 = .ok (.lload 5, 2) := by decide +kernel
theorem dX11_noEnd_96 : decode cX11_noEnd 96 = .ok (.ladd, 1) := by decide +kernel
theorem dX11_noEnd_97 : decode cX11_noEnd 97 = .ok (.lmul, 1) := by decide +kernel
theorem dX11_noEnd_98 : decode cX11_noEnd 98 = .ok (.lcmp, 1) := by decide +kernel
theorem dX11_noEnd_99 : decode cX11_noEnd 99 = .ok (.ifCond .gt 6, 3) := by decide +kernel
theorem dX11_noEnd_102 : decode cX11_noEnd 102 = .ok (.iload 10, 2) := by decide +kernel
theorem dX11_noEnd_104 : decode cX11_noEnd 104 = .ok (.ireturn, 1) := by decide +kernel
theorem dX11_noEnd_105 : decode cX11_noEnd 105 = .ok (.lload 7, 2) := by decide +kernel
theorem dX11_noEnd_107 : decode cX11_noEnd 107 = .ok (.iload 9, 2) := by decide +kernel
theorem dX11_noEnd_109 : decode cX11_noEnd 109 = .ok (.i2l, 1) := by decide +kernel
theorem dX11_noEnd_110 : decode cX11_noEnd 110 = .ok (.lmul, 1) := by decide +kernel
theorem dX11_noEnd_111 : decode cX11_noEnd 111 = .ok (.lstore 7, 2) := by decide +kernel
theorem dX11_noEnd_113 : decode cX11_noEnd 113 = .ok (.lload 5, 2) := by decide +kernel
theorem dX11_noEnd_115 : decode cX11_noEnd 115 = .ok (.ldc2_w 229, 3) := by decide +kernel
theorem dX11_noEnd_118 : decode cX11_noEnd 118 = .ok (.lmul, 1) := by decide +kernel
theorem dX11_noEnd_119 : decode cX11_noEnd 119 = .ok (.lstore 5, 2) := by decide +kernel
theorem dX11_noEnd_121 : decode cX11_noEnd 121 = .ok (.iinc 10 1, 3) := by decide +kernel
theorem dX11_noEnd_124 : decode cX11_noEnd 124 = .ok (.goto (-46), 3) := by decide +kernel
theorem dX11_noEnd_127 : decode cX11_noEnd 127 = .ok (.ldc 231, 2) := by decide +kernel
theorem dX11_noEnd_129 : decode cX11_noEnd 129 = .ok (.ireturn, 1) := by decide +kernel
theorem dX11_width_0 : decode cX11_width 0 = .ok (.iload_n 1, 1) := by decide +kernel
theorem dX11_width_1 : decode cX11_width 1 = .ok (.iload_n 2, 1) := by decide +kernel
theorem dX11_width_2 : decode cX11_width 2 = .ok (.iload_n 3, 1) := by decide +kernel
theorem dX11_width_3 : decode cX11_width 3 = .ok (.invokestatic 248, 3) := by decide +kernel
theorem dX11_width_6 : decode cX11_width 6 = .ok (.ifCond .eq 14, 3) := by decide +kernel
theorem dX11_width_9 : decode cX11_width 9 = .ok (.iload 4, 2) := by decide +kernel
theorem dX11_width_11 : decode cX11_width 11 = .ok (.iconst 0, 1) := by decide +kernel
theorem dX11_width_12 : decode cX11_width 12 = .ok (.bipush 40, 2) := by decide +kernel
theorem dX11_width_14 : decode cX11_width 14 = .ok (.invokestatic 56, 3) := by decide +kernel
theorem dX11_width_17 : decode cX11_width 17 = .ok (.ifCond .ne 6, 3) := by decide +kernel
theorem dX11_width_20 : decode cX11_width 20 = .ok (.ldc 60, 2) := by decide +kernel
theorem dX11_width_22 : decode cX11_width 22 = .ok (.ireturn, 1) := by decide +kernel
theorem dX11_width_23 : decode cX11_width 23 = .ok (.iload_n 1, 1) := by decide +kernel
theorem dX11_width_24 : decode cX11_width 24 = .ok (.iload_n 2, 1) := by decide +kernel
theorem dX11_width_25 : decode cX11_width 25 = .ok (.iload_n 3, 1) := by decide +kernel
theorem dX11_width_26 : decode cX11_width 26 = .ok (.iload 4, 2) := by decide +kernel
theorem dX11_width_28 : decode cX11_width 28 = .ok (.invokestatic 251, 3) := by decide +kernel
theorem dX11_width_31 : decode cX11_width 31 = .ok (.ireturn, 1) := by decide +kernel
theorem dX11_lost_0 : decode cX11_lost 0 = .ok (.iload_n 1, 1) := by decide +kernel
theorem dX11_lost_1 : decode cX11_lost 1 = .ok (.iload_n 2, 1) := by decide +kernel
theorem dX11_lost_2 : decode cX11_lost 2 = .ok (.iload_n 3, 1) := by decide +kernel
theorem dX11_lost_3 : decode cX11_lost 3 = .ok (.invokestatic 248, 3) := by decide +kernel
theorem dX11_lost_6 : decode cX11_lost 6 = .ok (.ifCond .ne 6, 3) := by decide +kernel
theorem dX11_lost_9 : decode cX11_lost 9 = .ok (.ldc 60, 2) := by decide +kernel
theorem dX11_lost_11 : decode cX11_lost 11 = .ok (.ireturn, 1) := by decide +kernel
theorem dX11_lost_12 : decode cX11_lost 12 = .ok (.iconst 0, 1) := by decide +kernel
theorem dX11_lost_13 : decode cX11_lost 13 = .ok (.istore 4, 2) := by decide +kernel
theorem dX11_lost_15 : decode cX11_lost 15 = .ok (.iconst 0, 1) := by decide +kernel
theorem dX11_lost_16 : decode cX11_lost 16 = .ok (.istore 5, 2) := by decide +kernel
theorem dX11_lost_18 : decode cX11_lost 18 = .ok (.iload 5, 2) := by decide +kernel
theorem dX11_lost_20 : decode cX11_lost 20 = .ok (.bipush 20, 2) := by decide +kernel
theorem dX11_lost_22 : decode cX11_lost 22 = .ok (.if_icmp .ge 44, 3) := by decide +kernel
theorem dX11_lost_25 : decode cX11_lost 25 = .ok (.iload_n 1, 1) := by decide +kernel
theorem dX11_lost_26 : decode cX11_lost 26 = .ok (.iload_n 2, 1) := by decide +kernel
theorem dX11_lost_27 : decode cX11_lost 27 = .ok (.iload_n 3, 1) := by decide +kernel
theorem dX11_lost_28 : decode cX11_lost 28 = .ok (.iload 5, 2) := by decide +kernel
theorem dX11_lost_30 : decode cX11_lost 30 = .ok (.invokestatic 251, 3) := by decide +kernel
theorem dX11_lost_33 : decode cX11_lost 33 = .ok (.istore 6, 2) := by decide +kernel
theorem dX11_lost_35 : decode cX11_lost 35 = .ok (.iload 6, 2) := by decide +kernel
theorem dX11_lost_37 : decode cX11_lost 37 = .ok (.ifCond .le 29, 3) := by decide +kernel
theorem dX11_lost_40 : decode cX11_lost 40 = .ok (.iload 6, 2) := by decide +kernel
theorem dX11_lost_42 : decode cX11_lost 42 = .ok (.bipush 20, 2) := by decide +kernel
theorem dX11_lost_44 : decode cX11_lost 44 = .ok (.if_icmp .lt 6, 3) := by decide +kernel
theorem dX11_lost_47 : decode cX11_lost 47 = .ok (.goto 19, 3) := by decide +kernel
theorem dX11_lost_50 : decode cX11_lost 50 = .ok (.iload 4, 2) := by decide +kernel
theorem dX11_lost_52 : decode cX11_lost 52 = .ok (.bipush 20, 2) := by decide +kernel
theorem dX11_lost_54 : decode cX11_lost 54 = .ok (.iload 6, 2) := by decide +kernel
theorem dX11_lost_56 : decode cX11_lost 56 = .ok (.isub, 1) := by decide +kernel
theorem dX11_lost_57 : decode cX11_lost 57 = .ok (.iadd, 1) := by decide +kernel
theorem dX11_lost_58 : decode cX11_lost 58 = .ok (.istore 4, 2) := by decide +kernel
theorem dX11_lost_60 : decode cX11_lost 60 = .ok (.iinc 5 1, 3) := by decide +kernel
theorem dX11_lost_63 : decode cX11_lost 63 = .ok (.goto (-45), 3) := by decide +kernel
theorem dX11_lost_66 : decode cX11_lost 66 = .ok (.iload 4, 2) := by decide +kernel
theorem dX11_lost_68 : decode cX11_lost 68 = .ok (.ireturn, 1) := by decide +kernel
theorem dX11_pays_0 : decode cX11_pays 0 = .ok (.aload_n 0, 1) := by decide +kernel
theorem dX11_pays_1 : decode cX11_pays 1 = .ok (.iload_n 1, 1) := by decide +kernel
theorem dX11_pays_2 : decode cX11_pays 2 = .ok (.invokevirtual 141, 3) := by decide +kernel
theorem dX11_pays_5 : decode cX11_pays 5 = .ok (.astore_n 3, 1) := by decide +kernel
theorem dX11_pays_6 : decode cX11_pays 6 = .ok (.aload_n 3, 1) := by decide +kernel
theorem dX11_pays_7 : decode cX11_pays 7 = .ok (.ifnull 13, 3) := by decide +kernel
theorem dX11_pays_10 : decode cX11_pays 10 = .ok (.iload_n 2, 1) := by decide +kernel
theorem dX11_pays_11 : decode cX11_pays 11 = .ok (.iconst 0, 1) := by decide +kernel
theorem dX11_pays_12 : decode cX11_pays 12 = .ok (.bipush 99, 2) := by decide +kernel
theorem dX11_pays_14 : decode cX11_pays 14 = .ok (.invokestatic 56, 3) := by decide +kernel
theorem dX11_pays_17 : decode cX11_pays 17 = .ok (.ifCond .ne 6, 3) := by decide +kernel
theorem dX11_pays_20 : decode cX11_pays 20 = .ok (.ldc 60, 2) := by decide +kernel
theorem dX11_pays_22 : decode cX11_pays 22 = .ok (.ireturn, 1) := by decide +kernel
theorem dX11_pays_23 : decode cX11_pays 23 = .ok (.ldc2_w 229, 3) := by decide +kernel
theorem dX11_pays_26 : decode cX11_pays 26 = .ok (.aload_n 0, 1) := by decide +kernel
theorem dX11_pays_27 : decode cX11_pays 27 = .ok (.getfield 44, 3) := by decide +kernel
theorem dX11_pays_30 : decode cX11_pays 30 = .ok (.invokevirtual 149, 3) := by decide +kernel
theorem dX11_pays_33 : decode cX11_pays 33 = .ok (.lmul, 1) := by decide +kernel
theorem dX11_pays_34 : decode cX11_pays 34 = .ok (.lstore 4, 2) := by decide +kernel
theorem dX11_pays_36 : decode cX11_pays 36 = .ok (.aload_n 0, 1) := by decide +kernel
theorem dX11_pays_37 : decode cX11_pays 37 = .ok (.getfield 44, 3) := by decide +kernel
theorem dX11_pays_40 : decode cX11_pays 40 = .ok (.aload_n 3, 1) := by decide +kernel
theorem dX11_pays_41 : decode cX11_pays 41 = .ok (.iconst 0, 1) := by decide +kernel
theorem dX11_pays_42 : decode cX11_pays 42 = .ok (.iconst 1, 1) := by decide +kernel
theorem dX11_pays_43 : decode cX11_pays 43 = .ok (.iconst 1, 1) := by decide +kernel
theorem dX11_pays_44 : decode cX11_pays 44 = .ok (.invokevirtual 238, 3) := by decide +kernel
theorem dX11_pays_47 : decode cX11_pays 47 = .ok (.lload 4, 2) := by decide +kernel
theorem dX11_pays_49 : decode cX11_pays 49 = .ok (.lsub, 1) := by decide +kernel
theorem dX11_pays_50 : decode cX11_pays 50 = .ok (.lstore 6, 2) := by decide +kernel
theorem dX11_pays_52 : decode cX11_pays 52 = .ok (.iconst 0, 1) := by decide +kernel
theorem dX11_pays_53 : decode cX11_pays 53 = .ok (.istore 8, 2) := by decide +kernel
theorem dX11_pays_55 : decode cX11_pays 55 = .ok (.iload 8, 2) := by decide +kernel
theorem dX11_pays_57 : decode cX11_pays 57 = .ok (.bipush 99, 2) := by decide +kernel
theorem dX11_pays_59 : decode cX11_pays 59 = .ok (.if_icmp .gt 27, 3) := by decide +kernel
theorem dX11_pays_62 : decode cX11_pays 62 = .ok (.iload 8, 2) := by decide +kernel
theorem dX11_pays_64 : decode cX11_pays 64 = .ok (.i2l, 1) := by decide +kernel
theorem dX11_pays_65 : decode cX11_pays 65 = .ok (.lload 6, 2) := by decide +kernel
theorem dX11_pays_67 : decode cX11_pays 67 = .ok (.lmul, 1) := by decide +kernel
theorem dX11_pays_68 : decode cX11_pays 68 = .ok (.iload_n 2, 1) := by decide +kernel
theorem dX11_pays_69 : decode cX11_pays 69 = .ok (.i2l, 1) := by decide +kernel
theorem dX11_pays_70 : decode cX11_pays 70 = .ok (.lload 4, 2) := by decide +kernel
theorem dX11_pays_72 : decode cX11_pays 72 = .ok (.lmul, 1) := by decide +kernel
theorem dX11_pays_73 : decode cX11_pays 73 = .ok (.lcmp, 1) := by decide +kernel
theorem dX11_pays_74 : decode cX11_pays 74 = .ok (.ifCond .lt 6, 3) := by decide +kernel
theorem dX11_pays_77 : decode cX11_pays 77 = .ok (.iload 8, 2) := by decide +kernel
theorem dX11_pays_79 : decode cX11_pays 79 = .ok (.ireturn, 1) := by decide +kernel
theorem dX11_pays_80 : decode cX11_pays 80 = .ok (.iinc 8 1, 3) := by decide +kernel
theorem dX11_pays_83 : decode cX11_pays 83 = .ok (.goto (-28), 3) := by decide +kernel
theorem dX11_pays_86 : decode cX11_pays 86 = .ok (.ldc 231, 2) := by decide +kernel
theorem dX11_pays_88 : decode cX11_pays 88 = .ok (.ireturn, 1) := by decide +kernel
theorem dX11_whose_0 : decode cX11_whose 0 = .ok (.aload_n 0, 1) := by decide +kernel
theorem dX11_whose_1 : decode cX11_whose 1 = .ok (.invokevirtual 159, 3) := by decide +kernel
theorem dX11_whose_4 : decode cX11_whose 4 = .ok (.ifCond .eq 6, 3) := by decide +kernel
theorem dX11_whose_7 : decode cX11_whose 7 = .ok (.ldc 133, 2) := by decide +kernel
theorem dX11_whose_9 : decode cX11_whose 9 = .ok (.ireturn, 1) := by decide +kernel
theorem dX11_whose_10 : decode cX11_whose 10 = .ok (.aload_n 0, 1) := by decide +kernel
theorem dX11_whose_11 : decode cX11_whose 11 = .ok (.iload_n 1, 1) := by decide +kernel
theorem dX11_whose_12 : decode cX11_whose 12 = .ok (.invokevirtual 52, 3) := by decide +kernel
theorem dX11_whose_15 : decode cX11_whose 15 = .ok (.astore 4, 2) := by decide +kernel
theorem dX11_whose_17 : decode cX11_whose 17 = .ok (.aload 4, 2) := by decide +kernel
theorem dX11_whose_19 : decode cX11_whose 19 = .ok (.ifnull 13, 3) := by decide +kernel
theorem dX11_whose_22 : decode cX11_whose 22 = .ok (.iload_n 3, 1) := by decide +kernel
theorem dX11_whose_23 : decode cX11_whose 23 = .ok (.iconst 1, 1) := by decide +kernel
theorem dX11_whose_24 : decode cX11_whose 24 = .ok (.bipush 6, 2) := by decide +kernel
theorem dX11_whose_26 : decode cX11_whose 26 = .ok (.invokestatic 56, 3) := by decide +kernel
theorem dX11_whose_29 : decode cX11_whose 29 = .ok (.ifCond .ne 6, 3) := by decide +kernel
theorem dX11_whose_32 : decode cX11_whose 32 = .ok (.ldc 60, 2) := by decide +kernel
theorem dX11_whose_34 : decode cX11_whose 34 = .ok (.ireturn, 1) := by decide +kernel
theorem dX11_whose_35 : decode cX11_whose 35 = .ok (.aload 4, 2) := by decide +kernel
theorem dX11_whose_37 : decode cX11_whose 37 = .ok (.getfield 72, 3) := by decide +kernel
theorem dX11_whose_40 : decode cX11_whose 40 = .ok (.ifCond .eq 9, 3) := by decide +kernel
theorem dX11_whose_43 : decode cX11_whose 43 = .ok (.aload_n 0, 1) := by decide +kernel
theorem dX11_whose_44 : decode cX11_whose 44 = .ok (.iconst 1, 1) := by decide +kernel
theorem dX11_whose_45 : decode cX11_whose 45 = .ok (.invokevirtual 61, 3) := by decide +kernel
theorem dX11_whose_48 : decode cX11_whose 48 = .ok (.ireturn, 1) := by decide +kernel
theorem dX11_whose_49 : decode cX11_whose 49 = .ok (.aload 4, 2) := by decide +kernel
theorem dX11_whose_51 : decode cX11_whose 51 = .ok (.iload_n 2, 1) := by decide +kernel
theorem dX11_whose_52 : decode cX11_whose 52 = .ok (.iload_n 3, 1) := by decide +kernel
theorem dX11_whose_53 : decode cX11_whose 53 = .ok (.invokevirtual 76, 3) := by decide +kernel
theorem dX11_whose_56 : decode cX11_whose 56 = .ok (.ifCond .ne 9, 3) := by decide +kernel
theorem dX11_whose_59 : decode cX11_whose 59 = .ok (.aload_n 0, 1) := by decide +kernel
theorem dX11_whose_60 : decode cX11_whose 60 = .ok (.iconst 2, 1) := by decide +kernel
theorem dX11_whose_61 : decode cX11_whose 61 = .ok (.invokevirtual 61, 3) := by decide +kernel
theorem dX11_whose_64 : decode cX11_whose 64 = .ok (.ireturn, 1) := by decide +kernel
theorem dX11_whose_65 : decode cX11_whose 65 = .ok (.aload 4, 2) := by decide +kernel
theorem dX11_whose_67 : decode cX11_whose 67 = .ok (.iload_n 2, 1) := by decide +kernel
theorem dX11_whose_68 : decode cX11_whose 68 = .ok (.iload_n 3, 1) := by decide +kernel
theorem dX11_whose_69 : decode cX11_whose 69 = .ok (.aload_n 0, 1) := by decide +kernel
theorem dX11_whose_70 : decode cX11_whose 70 = .ok (.getfield 44, 3) := by decide +kernel
theorem dX11_whose_73 : decode cX11_whose 73 = .ok (.getfield 197, 3) := by decide +kernel
theorem dX11_whose_76 : decode cX11_whose 76 = .ok (.getfield 127, 3) := by decide +kernel
theorem dX11_whose_79 : decode cX11_whose 79 = .ok (.iconst 1, 1) := by decide +kernel
theorem dX11_whose_80 : decode cX11_whose 80 = .ok (.isub, 1) := by decide +kernel
theorem dX11_whose_81 : decode cX11_whose 81 = .ok (.invokevirtual 255, 3) := by decide +kernel
theorem dX11_whose_84 : decode cX11_whose 84 = .ok (.ifCond .ne 6, 3) := by decide +kernel
theorem dX11_whose_87 : decode cX11_whose 87 = .ok (.ldc 60, 2) := by decide +kernel
theorem dX11_whose_89 : decode cX11_whose 89 = .ok (.ireturn, 1) := by decide +kernel
theorem dX11_whose_90 : decode cX11_whose 90 = .ok (.iconst 0, 1) := by decide +kernel
theorem dX11_whose_91 : decode cX11_whose 91 = .ok (.istore 5, 2) := by decide +kernel
theorem dX11_whose_93 : decode cX11_whose 93 = .ok (.iconst 0, 1) := by decide +kernel
theorem dX11_whose_94 : decode cX11_whose 94 = .ok (.istore 6, 2) := by decide +kernel
theorem dX11_whose_96 : decode cX11_whose 96 = .ok (.iload 6, 2) := by decide +kernel
theorem dX11_whose_98 : decode cX11_whose 98 = .ok (.aload_n 0, 1) := by decide +kernel
theorem dX11_whose_99 : decode cX11_whose 99 = .ok (.getfield 44, 3) := by decide +kernel
theorem dX11_whose_102 : decode cX11_whose 102 = .ok (.getfield 197, 3) := by decide +kernel
theorem dX11_whose_105 : decode cX11_whose 105 = .ok (.getfield 258, 3) := by decide +kernel
theorem dX11_whose_108 : decode cX11_whose 108 = .ok (.if_icmp .ge 35, 3) := by decide +kernel
theorem dX11_whose_111 : decode cX11_whose 111 = .ok (.aload_n 0, 1) := by decide +kernel
theorem dX11_whose_112 : decode cX11_whose 112 = .ok (.aload_n 0, 1) := by decide +kernel
theorem dX11_whose_113 : decode cX11_whose 113 = .ok (.iload 6, 2) := by decide +kernel
theorem dX11_whose_115 : decode cX11_whose 115 = .ok (.invokevirtual 141, 3) := by decide +kernel
theorem dX11_whose_118 : decode cX11_whose 118 = .ok (.aload 4, 2) := by decide +kernel
theorem dX11_whose_120 : decode cX11_whose 120 = .ok (.iload_n 2, 1) := by decide +kernel
theorem dX11_whose_121 : decode cX11_whose 121 = .ok (.iload_n 3, 1) := by decide +kernel
theorem dX11_whose_122 : decode cX11_whose 122 = .ok (.invokevirtual 261, 3) := by decide +kernel
theorem dX11_whose_125 : decode cX11_whose 125 = .ok (.ifCond .eq 12, 3) := by decide +kernel
theorem dX11_whose_128 : decode cX11_whose 128 = .ok (.iload 5, 2) := by decide +kernel
theorem dX11_whose_130 : decode cX11_whose 130 = .ok (.iconst 1, 1) := by decide +kernel
theorem dX11_whose_131 : decode cX11_whose 131 = .ok (.iload 6, 2) := by decide +kernel
theorem dX11_whose_133 : decode cX11_whose 133 = .ok (.ishl, 1) := by decide +kernel
theorem dX11_whose_134 : decode cX11_whose 134 = .ok (.ior, 1) := by decide +kernel
theorem dX11_whose_135 : decode cX11_whose 135 = .ok (.istore 5, 2) := by decide +kernel
theorem dX11_whose_137 : decode cX11_whose 137 = .ok (.iinc 6 1, 3) := by decide +kernel
theorem dX11_whose_140 : decode cX11_whose 140 = .ok (.goto (-44), 3) := by decide +kernel
theorem dX11_whose_143 : decode cX11_whose 143 = .ok (.aload_n 0, 1) := by decide +kernel
theorem dX11_whose_144 : decode cX11_whose 144 = .ok (.iload 5, 2) := by decide +kernel
theorem dX11_whose_146 : decode cX11_whose 146 = .ok (.invokevirtual 69, 3) := by decide +kernel
theorem dX11_whose_149 : decode cX11_whose 149 = .ok (.ireturn, 1) := by decide +kernel
theorem dX11_rule_0 : decode cX11_rule 0 = .ok (.aload_n 0, 1) := by decide +kernel
theorem dX11_rule_1 : decode cX11_rule 1 = .ok (.iload_n 1, 1) := by decide +kernel
theorem dX11_rule_2 : decode cX11_rule 2 = .ok (.invokevirtual 141, 3) := by decide +kernel
theorem dX11_rule_5 : decode cX11_rule 5 = .ok (.astore 6, 2) := by decide +kernel
theorem dX11_rule_7 : decode cX11_rule 7 = .ok (.aload_n 0, 1) := by decide +kernel
theorem dX11_rule_8 : decode cX11_rule 8 = .ok (.iload_n 2, 1) := by decide +kernel
theorem dX11_rule_9 : decode cX11_rule 9 = .ok (.invokevirtual 52, 3) := by decide +kernel
theorem dX11_rule_12 : decode cX11_rule 12 = .ok (.astore 7, 2) := by decide +kernel
theorem dX11_rule_14 : decode cX11_rule 14 = .ok (.aload 6, 2) := by decide +kernel
theorem dX11_rule_16 : decode cX11_rule 16 = .ok (.ifnull 39, 3) := by decide +kernel
theorem dX11_rule_19 : decode cX11_rule 19 = .ok (.aload 7, 2) := by decide +kernel
theorem dX11_rule_21 : decode cX11_rule 21 = .ok (.ifnull 34, 3) := by decide +kernel
theorem dX11_rule_24 : decode cX11_rule 24 = .ok (.iload_n 3, 1) := by decide +kernel
theorem dX11_rule_25 : decode cX11_rule 25 = .ok (.iconst 1, 1) := by decide +kernel
theorem dX11_rule_26 : decode cX11_rule 26 = .ok (.bipush 8, 2) := by decide +kernel
theorem dX11_rule_28 : decode cX11_rule 28 = .ok (.invokestatic 56, 3) := by decide +kernel
theorem dX11_rule_31 : decode cX11_rule 31 = .ok (.ifCond .eq 24, 3) := by decide +kernel
theorem dX11_rule_34 : decode cX11_rule 34 = .ok (.iload 4, 2) := by decide +kernel
theorem dX11_rule_36 : decode cX11_rule 36 = .ok (.iconst 1, 1) := by decide +kernel
theorem dX11_rule_37 : decode cX11_rule 37 = .ok (.bipush 6, 2) := by decide +kernel
theorem dX11_rule_39 : decode cX11_rule 39 = .ok (.invokestatic 56, 3) := by decide +kernel
theorem dX11_rule_42 : decode cX11_rule 42 = .ok (.ifCond .eq 13, 3) := by decide +kernel
theorem dX11_rule_45 : decode cX11_rule 45 = .ok (.iload 5, 2) := by decide +kernel
theorem dX11_rule_47 : decode cX11_rule 47 = .ok (.iconst 0, 1) := by decide +kernel
theorem dX11_rule_48 : decode cX11_rule 48 = .ok (.iconst 2, 1) := by decide +kernel
theorem dX11_rule_49 : decode cX11_rule 49 = .ok (.invokestatic 56, 3) := by decide +kernel
theorem dX11_rule_52 : decode cX11_rule 52 = .ok (.ifCond .ne 7, 3) := by decide +kernel
theorem dX11_rule_55 : decode cX11_rule 55 = .ok (.ldc2_w 219, 3) := by decide +kernel
theorem dX11_rule_58 : decode cX11_rule 58 = .ok (.lreturn, 1) := by decide +kernel
theorem dX11_rule_59 : decode cX11_rule 59 = .ok (.aload 7, 2) := by decide +kernel
theorem dX11_rule_61 : decode cX11_rule 61 = .ok (.getfield 72, 3) := by decide +kernel
theorem dX11_rule_64 : decode cX11_rule 64 = .ok (.ifCond .eq 10, 3) := by decide +kernel
theorem dX11_rule_67 : decode cX11_rule 67 = .ok (.aload_n 0, 1) := by decide +kernel
theorem dX11_rule_68 : decode cX11_rule 68 = .ok (.iconst 1, 1) := by decide +kernel
theorem dX11_rule_69 : decode cX11_rule 69 = .ok (.invokevirtual 61, 3) := by decide +kernel
theorem dX11_rule_72 : decode cX11_rule 72 = .ok (.i2l, 1) := by decide +kernel
theorem dX11_rule_73 : decode cX11_rule 73 = .ok (.lreturn, 1) := by decide +kernel
theorem dX11_rule_74 : decode cX11_rule 74 = .ok (.aload 7, 2) := by decide +kernel
theorem dX11_rule_76 : decode cX11_rule 76 = .ok (.iconst 0, 1) := by decide +kernel
theorem dX11_rule_77 : decode cX11_rule 77 = .ok (.iload_n 3, 1) := by decide +kernel
theorem dX11_rule_78 : decode cX11_rule 78 = .ok (.invokevirtual 76, 3) := by decide +kernel
theorem dX11_rule_81 : decode cX11_rule 81 = .ok (.ifCond .ne 10, 3) := by decide +kernel
theorem dX11_rule_84 : decode cX11_rule 84 = .ok (.aload_n 0, 1) := by decide +kernel
theorem dX11_rule_85 : decode cX11_rule 85 = .ok (.iconst 2, 1) := by decide +kernel
theorem dX11_rule_86 : decode cX11_rule 86 = .ok (.invokevirtual 61, 3) := by decide +kernel
theorem dX11_rule_89 : decode cX11_rule 89 = .ok (.i2l, 1) := by decide +kernel
theorem dX11_rule_90 : decode cX11_rule 90 = .ok (.lreturn, 1) := by decide +kernel
theorem dX11_rule_91 : decode cX11_rule 91 = .ok (.aload 7, 2) := by decide +kernel
theorem dX11_rule_93 : decode cX11_rule 93 = .ok (.iconst 0, 1) := by decide +kernel
theorem dX11_rule_94 : decode cX11_rule 94 = .ok (.iload_n 3, 1) := by decide +kernel
theorem dX11_rule_95 : decode cX11_rule 95 = .ok (.iconst 3, 1) := by decide +kernel
theorem dX11_rule_96 : decode cX11_rule 96 = .ok (.invokevirtual 255, 3) := by decide +kernel
theorem dX11_rule_99 : decode cX11_rule 99 = .ok (.ifCond .ne 7, 3) := by decide +kernel
theorem dX11_rule_102 : decode cX11_rule 102 = .ok (.ldc2_w 219, 3) := by decide +kernel
theorem dX11_rule_105 : decode cX11_rule 105 = .ok (.lreturn, 1) := by decide +kernel
theorem dX11_rule_106 : decode cX11_rule 106 = .ok (.aload_n 0, 1) := by decide +kernel
theorem dX11_rule_107 : decode cX11_rule 107 = .ok (.iconst 0, 1) := by decide +kernel
theorem dX11_rule_108 : decode cX11_rule 108 = .ok (.putfield 265, 3) := by decide +kernel
theorem dX11_rule_111 : decode cX11_rule 111 = .ok (.aload_n 0, 1) := by decide +kernel
theorem dX11_rule_112 : decode cX11_rule 112 = .ok (.aload 6, 2) := by decide +kernel
theorem dX11_rule_114 : decode cX11_rule 114 = .ok (.aload 7, 2) := by decide +kernel
theorem dX11_rule_116 : decode cX11_rule 116 = .ok (.iload_n 3, 1) := by decide +kernel
theorem dX11_rule_117 : decode cX11_rule 117 = .ok (.iload 4, 2) := by decide +kernel
theorem dX11_rule_119 : decode cX11_rule 119 = .ok (.invokevirtual 268, 3) := by decide +kernel
theorem dX11_rule_122 : decode cX11_rule 122 = .ok (.iload 5, 2) := by decide +kernel
theorem dX11_rule_124 : decode cX11_rule 124 = .ok (.iconst 2, 1) := by decide +kernel
theorem dX11_rule_125 : decode cX11_rule 125 = .ok (.if_icmp .ne 20, 3) := by decide +kernel
theorem dX11_rule_128 : decode cX11_rule 128 = .ok (.aload_n 0, 1) := by decide +kernel
theorem dX11_rule_129 : decode cX11_rule 129 = .ok (.getfield 48, 3) := by decide +kernel
theorem dX11_rule_132 : decode cX11_rule 132 = .ok (.getfield 191, 3) := by decide +kernel
theorem dX11_rule_135 : decode cX11_rule 135 = .ok (.aload_n 0, 1) := by decide +kernel
theorem dX11_rule_136 : decode cX11_rule 136 = .ok (.getfield 44, 3) := by decide +kernel
theorem dX11_rule_139 : decode cX11_rule 139 = .ok (.getfield 191, 3) := by decide +kernel
theorem dX11_rule_142 : decode cX11_rule 142 = .ok (.isub, 1) := by decide +kernel
theorem dX11_rule_143 : decode cX11_rule 143 = .ok (.i2l, 1) := by decide +kernel
theorem dX11_rule_144 : decode cX11_rule 144 = .ok (.lreturn, 1) := by decide +kernel
theorem dX11_rule_145 : decode cX11_rule 145 = .ok (.aload_n 0, 1) := by decide +kernel
theorem dX11_rule_146 : decode cX11_rule 146 = .ok (.getfield 44, 3) := by decide +kernel
theorem dX11_rule_149 : decode cX11_rule 149 = .ok (.invokevirtual 149, 3) := by decide +kernel
theorem dX11_rule_152 : decode cX11_rule 152 = .ok (.iload 4, 2) := by decide +kernel
theorem dX11_rule_154 : decode cX11_rule 154 = .ok (.invokestatic 242, 3) := by decide +kernel
theorem dX11_rule_157 : decode cX11_rule 157 = .ok (.lmul, 1) := by decide +kernel
theorem dX11_rule_158 : decode cX11_rule 158 = .ok (.lstore 8, 2) := by decide +kernel
theorem dX11_rule_160 : decode cX11_rule 160 = .ok (.lload 8, 2) := by decide +kernel
theorem dX11_rule_162 : decode cX11_rule 162 = .ok (.aload_n 0, 1) := by decide +kernel
theorem dX11_rule_163 : decode cX11_rule 163 = .ok (.getfield 48, 3) := by decide +kernel
theorem dX11_rule_166 : decode cX11_rule 166 = .ok (.invokevirtual 149, 3) := by decide +kernel
theorem dX11_rule_169 : decode cX11_rule 169 = .ok (.lsub, 1) := by decide +kernel
theorem dX11_rule_170 : decode cX11_rule 170 = .ok (.lload 8, 2) := by decide +kernel
theorem dX11_rule_172 : decode cX11_rule 172 = .ok (.iload 5, 2) := by decide +kernel
theorem dX11_rule_174 : decode cX11_rule 174 = .ok (.invokestatic 225, 3) := by decide +kernel
theorem dX11_rule_177 : decode cX11_rule 177 = .ok (.lreturn, 1) := by decide +kernel
theorem dX11_search_0 : decode cX11_search 0 = .ok (.aload_n 0, 1) := by decide +kernel
theorem dX11_search_1 : decode cX11_search 1 = .ok (.iload_n 1, 1) := by decide +kernel
theorem dX11_search_2 : decode cX11_search 2 = .ok (.invokevirtual 141, 3) := by decide +kernel
theorem dX11_search_5 : decode cX11_search 5 = .ok (.astore 4, 2) := by decide +kernel
theorem dX11_search_7 : decode cX11_search 7 = .ok (.aload 4, 2) := by decide +kernel
theorem dX11_search_9 : decode cX11_search 9 = .ok (.ifnull 23, 3) := by decide +kernel
theorem dX11_search_12 : decode cX11_search 12 = .ok (.iload_n 2, 1) := by decide +kernel
theorem dX11_search_13 : decode cX11_search 13 = .ok (.iconst 1, 1) := by decide +kernel
theorem dX11_search_14 : decode cX11_search 14 = .ok (.ldc_w 272, 3) := by decide +kernel
theorem dX11_search_17 : decode cX11_search 17 = .ok (.invokestatic 56, 3) := by decide +kernel
theorem dX11_search_20 : decode cX11_search 20 = .ok (.ifCond .eq 12, 3) := by decide +kernel
theorem dX11_search_23 : decode cX11_search 23 = .ok (.iload_n 3, 1) := by decide +kernel
theorem dX11_search_24 : decode cX11_search 24 = .ok (.iconst 0, 1) := by decide +kernel
theorem dX11_search_25 : decode cX11_search 25 = .ok (.iconst 1, 1) := by decide +kernel
theorem dX11_search_26 : decode cX11_search 26 = .ok (.invokestatic 56, 3) := by decide +kernel
theorem dX11_search_29 : decode cX11_search 29 = .ok (.ifCond .ne 6, 3) := by decide +kernel
theorem dX11_search_32 : decode cX11_search 32 = .ok (.ldc 60, 2) := by decide +kernel
theorem dX11_search_34 : decode cX11_search 34 = .ok (.ireturn, 1) := by decide +kernel
theorem dX11_search_35 : decode cX11_search 35 = .ok (.aload_n 0, 1) := by decide +kernel
theorem dX11_search_36 : decode cX11_search 36 = .ok (.getfield 44, 3) := by decide +kernel
theorem dX11_search_39 : decode cX11_search 39 = .ok (.getfield 197, 3) := by decide +kernel
theorem dX11_search_42 : decode cX11_search 42 = .ok (.astore 5, 2) := by decide +kernel
theorem dX11_search_44 : decode cX11_search 44 = .ok (.iload_n 2, 1) := by decide +kernel
theorem dX11_search_45 : decode cX11_search 45 = .ok (.i2l, 1) := by decide +kernel
theorem dX11_search_46 : decode cX11_search 46 = .ok (.invokestatic 273, 3) := by decide +kernel
theorem dX11_search_49 : decode cX11_search 49 = .ok (.lstore 6, 2) := by decide +kernel
theorem dX11_search_51 : decode cX11_search 51 = .ok (.aload 5, 2) := by decide +kernel
theorem dX11_search_53 : decode cX11_search 53 = .ok (.lload 6, 2) := by decide +kernel
theorem dX11_search_55 : decode cX11_search 55 = .ok (.invokevirtual 277, 3) := by decide +kernel
theorem dX11_search_58 : decode cX11_search 58 = .ok (.istore 8, 2) := by decide +kernel
theorem dX11_search_60 : decode cX11_search 60 = .ok (.iconst 0, 1) := by decide +kernel
theorem dX11_search_61 : decode cX11_search 61 = .ok (.istore 9, 2) := by decide +kernel
theorem dX11_search_63 : decode cX11_search 63 = .ok (.iload 9, 2) := by decide +kernel
theorem dX11_search_65 : decode cX11_search 65 = .ok (.bipush 40, 2) := by decide +kernel
theorem dX11_search_67 : decode cX11_search 67 = .ok (.if_icmp .ge 88, 3) := by decide +kernel
theorem dX11_search_70 : decode cX11_search 70 = .ok (.aload 5, 2) := by decide +kernel
theorem dX11_search_72 : decode cX11_search 72 = .ok (.iload 9, 2) := by decide +kernel
theorem dX11_search_74 : decode cX11_search 74 = .ok (.invokevirtual 281, 3) := by decide +kernel
theorem dX11_search_77 : decode cX11_search 77 = .ok (.istore 10, 2) := by decide +kernel
theorem dX11_search_79 : decode cX11_search 79 = .ok (.lload 6, 2) := by decide +kernel
theorem dX11_search_81 : decode cX11_search 81 = .ok (.invokestatic 273, 3) := by decide +kernel
theorem dX11_search_84 : decode cX11_search 84 = .ok (.lstore 6, 2) := by decide +kernel
theorem dX11_search_86 : decode cX11_search 86 = .ok (.iload 10, 2) := by decide +kernel
theorem dX11_search_88 : decode cX11_search 88 = .ok (.iload 8, 2) := by decide +kernel
theorem dX11_search_90 : decode cX11_search 90 = .ok (.if_icmp .ne 12, 3) := by decide +kernel
theorem dX11_search_93 : decode cX11_search 93 = .ok (.aload 4, 2) := by decide +kernel
theorem dX11_search_95 : decode cX11_search 95 = .ok (.iconst 1, 1) := by decide +kernel
theorem dX11_search_96 : decode cX11_search 96 = .ok (.invokevirtual 213, 3) := by decide +kernel
theorem dX11_search_99 : decode cX11_search 99 = .ok (.goto 11, 3) := by decide +kernel
theorem dX11_search_102 : decode cX11_search 102 = .ok (.aload 5, 2) := by decide +kernel
theorem dX11_search_104 : decode cX11_search 104 = .ok (.getfield 204, 3) := by decide +kernel
theorem dX11_search_107 : decode cX11_search 107 = .ok (.iload 10, 2) := by decide +kernel
theorem dX11_search_109 : decode cX11_search 109 = .ok (.iaload, 1) := by decide +kernel
theorem dX11_search_110 : decode cX11_search 110 = .ok (.istore 11, 2) := by decide +kernel
theorem dX11_search_112 : decode cX11_search 112 = .ok (.lload 6, 2) := by decide +kernel
theorem dX11_search_114 : decode cX11_search 114 = .ok (.ldc2_w 229, 3) := by decide +kernel
theorem dX11_search_117 : decode cX11_search 117 = .ok (.lrem, 1) := by decide +kernel
theorem dX11_search_118 : decode cX11_search 118 = .ok (.iload 11, 2) := by decide +kernel
theorem dX11_search_120 : decode cX11_search 120 = .ok (.i2l, 1) := by decide +kernel
theorem dX11_search_121 : decode cX11_search 121 = .ok (.lcmp, 1) := by decide +kernel
theorem dX11_search_122 : decode cX11_search 122 = .ok (.ifCond .ge 27, 3) := by decide +kernel
theorem dX11_search_125 : decode cX11_search 125 = .ok (.iload_n 3, 1) := by decide +kernel
theorem dX11_search_126 : decode cX11_search 126 = .ok (.ifCond .ne 10, 3) := by decide +kernel
theorem dX11_search_129 : decode cX11_search 129 = .ok (.iload 9, 2) := by decide +kernel
theorem dX11_search_131 : decode cX11_search 131 = .ok (.iconst 1, 1) := by decide +kernel
theorem dX11_search_132 : decode cX11_search 132 = .ok (.iadd, 1) := by decide +kernel
theorem dX11_search_133 : decode cX11_search 133 = .ok (.goto 15, 3) := by decide +kernel
theorem dX11_search_136 : decode cX11_search 136 = .ok (.iload 10, 2) := by decide +kernel
theorem dX11_search_138 : decode cX11_search 138 = .ok (.iload 8, 2) := by decide +kernel
theorem dX11_search_140 : decode cX11_search 140 = .ok (.if_icmp .ne 7, 3) := by decide +kernel
theorem dX11_search_143 : decode cX11_search 143 = .ok (.iconst 1, 1) := by decide +kernel
theorem dX11_search_144 : decode cX11_search 144 = .ok (.goto 4, 3) := by decide +kernel
theorem dX11_search_147 : decode cX11_search 147 = .ok (.iconst 0, 1) := by decide +kernel
theorem dX11_search_148 : decode cX11_search 148 = .ok (.ireturn, 1) := by decide +kernel
theorem dX11_search_149 : decode cX11_search 149 = .ok (.iinc 9 1, 3) := by decide +kernel
theorem dX11_search_152 : decode cX11_search 152 = .ok (.goto (-89), 3) := by decide +kernel
theorem dX11_search_155 : decode cX11_search 155 = .ok (.ldc 231, 2) := by decide +kernel
theorem dX11_search_157 : decode cX11_search 157 = .ok (.ireturn, 1) := by decide +kernel
theorem dX11_image_0 : decode cX11_image 0 = .ok (.iload_n 1, 1) := by decide +kernel
theorem dX11_image_1 : decode cX11_image 1 = .ok (.iconst 0, 1) := by decide +kernel
theorem dX11_image_2 : decode cX11_image 2 = .ok (.iconst 1, 1) := by decide +kernel
theorem dX11_image_3 : decode cX11_image 3 = .ok (.invokestatic 56, 3) := by decide +kernel
theorem dX11_image_6 : decode cX11_image 6 = .ok (.ifCond .ne 6, 3) := by decide +kernel
theorem dX11_image_9 : decode cX11_image 9 = .ok (.ldc 60, 2) := by decide +kernel
theorem dX11_image_11 : decode cX11_image 11 = .ok (.ireturn, 1) := by decide +kernel
theorem dX11_image_12 : decode cX11_image 12 = .ok (.aload_n 0, 1) := by decide +kernel
theorem dX11_image_13 : decode cX11_image 13 = .ok (.invokevirtual 159, 3) := by decide +kernel
theorem dX11_image_16 : decode cX11_image 16 = .ok (.ifCond .eq 6, 3) := by decide +kernel
theorem dX11_image_19 : decode cX11_image 19 = .ok (.ldc 133, 2) := by decide +kernel
theorem dX11_image_21 : decode cX11_image 21 = .ok (.ireturn, 1) := by decide +kernel
theorem dX11_image_22 : decode cX11_image 22 = .ok (.aload_n 0, 1) := by decide +kernel
theorem dX11_image_23 : decode cX11_image 23 = .ok (.getfield 31, 3) := by decide +kernel
theorem dX11_image_26 : decode cX11_image 26 = .ok (.iload_n 1, 1) := by decide +kernel
theorem dX11_image_27 : decode cX11_image 27 = .ok (.aaload, 1) := by decide +kernel
theorem dX11_image_28 : decode cX11_image 28 = .ok (.aload_n 0, 1) := by decide +kernel
theorem dX11_image_29 : decode cX11_image 29 = .ok (.getfield 44, 3) := by decide +kernel
theorem dX11_image_32 : decode cX11_image 32 = .ok (.invokevirtual 137, 3) := by decide +kernel
theorem dX11_image_35 : decode cX11_image 35 = .ok (.iconst 1, 1) := by decide +kernel
theorem dX11_image_36 : decode cX11_image 36 = .ok (.ireturn, 1) := by decide +kernel
theorem dX11_restore_0 : decode cX11_restore 0 = .ok (.iload_n 1, 1) := by decide +kernel
theorem dX11_restore_1 : decode cX11_restore 1 = .ok (.iconst 0, 1) := by decide +kernel
theorem dX11_restore_2 : decode cX11_restore 2 = .ok (.iconst 1, 1) := by decide +kernel
theorem dX11_restore_3 : decode cX11_restore 3 = .ok (.invokestatic 56, 3) := by decide +kernel
theorem dX11_restore_6 : decode cX11_restore 6 = .ok (.ifCond .ne 6, 3) := by decide +kernel
theorem dX11_restore_9 : decode cX11_restore 9 = .ok (.ldc 60, 2) := by decide +kernel
theorem dX11_restore_11 : decode cX11_restore 11 = .ok (.ireturn, 1) := by decide +kernel
theorem dX11_restore_12 : decode cX11_restore 12 = .ok (.aload_n 0, 1) := by decide +kernel
theorem dX11_restore_13 : decode cX11_restore 13 = .ok (.getfield 31, 3) := by decide +kernel
theorem dX11_restore_16 : decode cX11_restore 16 = .ok (.iload_n 1, 1) := by decide +kernel
theorem dX11_restore_17 : decode cX11_restore 17 = .ok (.aaload, 1) := by decide +kernel
theorem dX11_restore_18 : decode cX11_restore 18 = .ok (.getfield 197, 3) := by decide +kernel
theorem dX11_restore_21 : decode cX11_restore 21 = .ok (.getfield 127, 3) := by decide +kernel
theorem dX11_restore_24 : decode cX11_restore 24 = .ok (.ifCond .ne 6, 3) := by decide +kernel
theorem dX11_restore_27 : decode cX11_restore 27 = .ok (.ldc 133, 2) := by decide +kernel
theorem dX11_restore_29 : decode cX11_restore 29 = .ok (.ireturn, 1) := by decide +kernel
theorem dX11_restore_30 : decode cX11_restore 30 = .ok (.aload_n 0, 1) := by decide +kernel
theorem dX11_restore_31 : decode cX11_restore 31 = .ok (.getfield 44, 3) := by decide +kernel
theorem dX11_restore_34 : decode cX11_restore 34 = .ok (.aload_n 0, 1) := by decide +kernel
theorem dX11_restore_35 : decode cX11_restore 35 = .ok (.getfield 31, 3) := by decide +kernel
theorem dX11_restore_38 : decode cX11_restore 38 = .ok (.iload_n 1, 1) := by decide +kernel
theorem dX11_restore_39 : decode cX11_restore 39 = .ok (.aaload, 1) := by decide +kernel
theorem dX11_restore_40 : decode cX11_restore 40 = .ok (.invokevirtual 137, 3) := by decide +kernel
theorem dX11_restore_43 : decode cX11_restore 43 = .ok (.aload_n 0, 1) := by decide +kernel
theorem dX11_restore_44 : decode cX11_restore 44 = .ok (.invokevirtual 124, 3) := by decide +kernel
theorem dX11_restore_47 : decode cX11_restore 47 = .ok (.iconst 1, 1) := by decide +kernel
theorem dX11_restore_48 : decode cX11_restore 48 = .ok (.ireturn, 1) := by decide +kernel
theorem dX11_kind_0 : decode cX11_kind 0 = .ok (.aload_n 0, 1) := by decide +kernel
theorem dX11_kind_1 : decode cX11_kind 1 = .ok (.iload_n 1, 1) := by decide +kernel
theorem dX11_kind_2 : decode cX11_kind 2 = .ok (.invokevirtual 141, 3) := by decide +kernel
theorem dX11_kind_5 : decode cX11_kind 5 = .ok (.astore_n 2, 1) := by decide +kernel
theorem dX11_kind_6 : decode cX11_kind 6 = .ok (.aload_n 2, 1) := by decide +kernel
theorem dX11_kind_7 : decode cX11_kind 7 = .ok (.ifnonnull 8, 3) := by decide +kernel
theorem dX11_kind_10 : decode cX11_kind 10 = .ok (.ldc 60, 2) := by decide +kernel
theorem dX11_kind_12 : decode cX11_kind 12 = .ok (.goto 7, 3) := by decide +kernel
theorem dX11_kind_15 : decode cX11_kind 15 = .ok (.aload_n 2, 1) := by decide +kernel
theorem dX11_kind_16 : decode cX11_kind 16 = .ok (.invokevirtual 284, 3) := by decide +kernel
theorem dX11_kind_19 : decode cX11_kind 19 = .ok (.ireturn, 1) := by decide +kernel
theorem dX11_as_0 : decode cX11_as 0 = .ok (.aload_n 0, 1) := by decide +kernel
theorem dX11_as_1 : decode cX11_as 1 = .ok (.iload_n 1, 1) := by decide +kernel
theorem dX11_as_2 : decode cX11_as 2 = .ok (.invokevirtual 141, 3) := by decide +kernel
theorem dX11_as_5 : decode cX11_as 5 = .ok (.astore_n 3, 1) := by decide +kernel
theorem dX11_as_6 : decode cX11_as 6 = .ok (.aload_n 3, 1) := by decide +kernel
theorem dX11_as_7 : decode cX11_as 7 = .ok (.ifnull 12, 3) := by decide +kernel
theorem dX11_as_10 : decode cX11_as 10 = .ok (.iload_n 2, 1) := by decide +kernel
theorem dX11_as_11 : decode cX11_as 11 = .ok (.iconst 0, 1) := by decide +kernel
theorem dX11_as_12 : decode cX11_as 12 = .ok (.iconst 5, 1) := by decide +kernel
theorem dX11_as_13 : decode cX11_as 13 = .ok (.invokestatic 56, 3) := by decide +kernel
theorem dX11_as_16 : decode cX11_as 16 = .ok (.ifCond .ne 6, 3) := by decide +kernel
theorem dX11_as_19 : decode cX11_as 19 = .ok (.ldc 60, 2) := by decide +kernel
theorem dX11_as_21 : decode cX11_as 21 = .ok (.ireturn, 1) := by decide +kernel
theorem dX11_as_22 : decode cX11_as 22 = .ok (.aload_n 3, 1) := by decide +kernel
theorem dX11_as_23 : decode cX11_as 23 = .ok (.iload_n 2, 1) := by decide +kernel
theorem dX11_as_24 : decode cX11_as 24 = .ok (.invokestatic 288, 3) := by decide +kernel
theorem dX11_as_27 : decode cX11_as 27 = .ok (.ifCond .ne 9, 3) := by decide +kernel
theorem dX11_as_30 : decode cX11_as 30 = .ok (.aload_n 0, 1) := by decide +kernel
theorem dX11_as_31 : decode cX11_as 31 = .ok (.iconst 3, 1) := by decide +kernel
theorem dX11_as_32 : decode cX11_as 32 = .ok (.invokevirtual 61, 3) := by decide +kernel
theorem dX11_as_35 : decode cX11_as 35 = .ok (.ireturn, 1) := by decide +kernel
theorem dX11_as_36 : decode cX11_as 36 = .ok (.aload_n 0, 1) := by decide +kernel
theorem dX11_as_37 : decode cX11_as 37 = .ok (.aload_n 3, 1) := by decide +kernel
theorem dX11_as_38 : decode cX11_as 38 = .ok (.getfield 292, 3) := by decide +kernel
theorem dX11_as_41 : decode cX11_as 41 = .ok (.invokevirtual 69, 3) := by decide +kernel
theorem dX11_as_44 : decode cX11_as 44 = .ok (.ireturn, 1) := by decide +kernel
theorem dX11_ask_0 : decode cX11_ask 0 = .ok (.aload_n 0, 1) := by decide +kernel
theorem dX11_ask_1 : decode cX11_ask 1 = .ok (.iload_n 1, 1) := by decide +kernel
theorem dX11_ask_2 : decode cX11_ask 2 = .ok (.invokevirtual 141, 3) := by decide +kernel
theorem dX11_ask_5 : decode cX11_ask 5 = .ok (.astore_n 3, 1) := by decide +kernel
theorem dX11_ask_6 : decode cX11_ask 6 = .ok (.aload_n 3, 1) := by decide +kernel
theorem dX11_ask_7 : decode cX11_ask 7 = .ok (.ifnull 12, 3) := by decide +kernel
theorem dX11_ask_10 : decode cX11_ask 10 = .ok (.iload_n 2, 1) := by decide +kernel
theorem dX11_ask_11 : decode cX11_ask 11 = .ok (.iconst 0, 1) := by decide +kernel
theorem dX11_ask_12 : decode cX11_ask 12 = .ok (.iconst 1, 1) := by decide +kernel
theorem dX11_ask_13 : decode cX11_ask 13 = .ok (.invokestatic 56, 3) := by decide +kernel
theorem dX11_ask_16 : decode cX11_ask 16 = .ok (.ifCond .ne 6, 3) := by decide +kernel
theorem dX11_ask_19 : decode cX11_ask 19 = .ok (.ldc 60, 2) := by decide +kernel
theorem dX11_ask_21 : decode cX11_ask 21 = .ok (.ireturn, 1) := by decide +kernel
theorem dX11_ask_22 : decode cX11_ask 22 = .ok (.aload_n 0, 1) := by decide +kernel
theorem dX11_ask_23 : decode cX11_ask 23 = .ok (.getfield 25, 3) := by decide +kernel
theorem dX11_ask_26 : decode cX11_ask 26 = .ok (.iconst 0, 1) := by decide +kernel
theorem dX11_ask_27 : decode cX11_ask 27 = .ok (.putfield 295, 3) := by decide +kernel
theorem dX11_ask_30 : decode cX11_ask 30 = .ok (.iload_n 2, 1) := by decide +kernel
theorem dX11_ask_31 : decode cX11_ask 31 = .ok (.ifCond .ne 14, 3) := by decide +kernel
theorem dX11_ask_34 : decode cX11_ask 34 = .ok (.aload_n 3, 1) := by decide +kernel
theorem dX11_ask_35 : decode cX11_ask 35 = .ok (.aload_n 0, 1) := by decide +kernel
theorem dX11_ask_36 : decode cX11_ask 36 = .ok (.getfield 25, 3) := by decide +kernel
theorem dX11_ask_39 : decode cX11_ask 39 = .ok (.invokevirtual 296, 3) := by decide +kernel
theorem dX11_ask_42 : decode cX11_ask 42 = .ok (.goto 11, 3) := by decide +kernel
theorem dX11_ask_45 : decode cX11_ask 45 = .ok (.aload_n 3, 1) := by decide +kernel
theorem dX11_ask_46 : decode cX11_ask 46 = .ok (.aload_n 0, 1) := by decide +kernel
theorem dX11_ask_47 : decode cX11_ask 47 = .ok (.getfield 25, 3) := by decide +kernel
theorem dX11_ask_50 : decode cX11_ask 50 = .ok (.invokevirtual 300, 3) := by decide +kernel
theorem dX11_ask_53 : decode cX11_ask 53 = .ok (.ireturn, 1) := by decide +kernel
theorem dX11_trace_0 : decode cX11_trace 0 = .ok (.iload_n 1, 1) := by decide +kernel
theorem dX11_trace_1 : decode cX11_trace 1 = .ok (.iconst 0, 1) := by decide +kernel
theorem dX11_trace_2 : decode cX11_trace 2 = .ok (.aload_n 0, 1) := by decide +kernel
theorem dX11_trace_3 : decode cX11_trace 3 = .ok (.getfield 25, 3) := by decide +kernel
theorem dX11_trace_6 : decode cX11_trace 6 = .ok (.getfield 295, 3) := by decide +kernel
theorem dX11_trace_9 : decode cX11_trace 9 = .ok (.iconst 1, 1) := by decide +kernel
theorem dX11_trace_10 : decode cX11_trace 10 = .ok (.isub, 1) := by decide +kernel
theorem dX11_trace_11 : decode cX11_trace 11 = .ok (.invokestatic 56, 3) := by decide +kernel
theorem dX11_trace_14 : decode cX11_trace 14 = .ok (.ifCond .eq 15, 3) := by decide +kernel
theorem dX11_trace_17 : decode cX11_trace 17 = .ok (.aload_n 0, 1) := by decide +kernel
theorem dX11_trace_18 : decode cX11_trace 18 = .ok (.getfield 25, 3) := by decide +kernel
theorem dX11_trace_21 : decode cX11_trace 21 = .ok (.getfield 303, 3) := by decide +kernel
theorem dX11_trace_24 : decode cX11_trace 24 = .ok (.iload_n 1, 1) := by decide +kernel
theorem dX11_trace_25 : decode cX11_trace 25 = .ok (.iaload, 1) := by decide +kernel
theorem dX11_trace_26 : decode cX11_trace 26 = .ok (.goto 5, 3) := by decide +kernel
theorem dX11_trace_29 : decode cX11_trace 29 = .ok (.ldc 231, 2) := by decide +kernel
theorem dX11_trace_31 : decode cX11_trace 31 = .ok (.ireturn, 1) := by decide +kernel
theorem dX11_count_0 : decode cX11_count 0 = .ok (.iload_n 1, 1) := by decide +kernel
theorem dX11_count_1 : decode cX11_count 1 = .ok (.tableswitch 90 0 5 #[39, 44, 55, 66, 77, 82], 39) := by decide +kernel
theorem dX11_count_40 : decode cX11_count 40 = .ok (.aload_n 0, 1) := by decide +kernel
theorem dX11_count_41 : decode cX11_count 41 = .ok (.invokevirtual 306, 3) := by decide +kernel
theorem dX11_count_44 : decode cX11_count 44 = .ok (.ireturn, 1) := by decide +kernel
theorem dX11_count_45 : decode cX11_count 45 = .ok (.aload_n 0, 1) := by decide +kernel
theorem dX11_count_46 : decode cX11_count 46 = .ok (.getfield 44, 3) := by decide +kernel
theorem dX11_count_49 : decode cX11_count 49 = .ok (.getfield 197, 3) := by decide +kernel
theorem dX11_count_52 : decode cX11_count 52 = .ok (.getfield 127, 3) := by decide +kernel
theorem dX11_count_55 : decode cX11_count 55 = .ok (.ireturn, 1) := by decide +kernel
theorem dX11_count_56 : decode cX11_count 56 = .ok (.aload_n 0, 1) := by decide +kernel
theorem dX11_count_57 : decode cX11_count 57 = .ok (.getfield 44, 3) := by decide +kernel
theorem dX11_count_60 : decode cX11_count 60 = .ok (.getfield 197, 3) := by decide +kernel
theorem dX11_count_63 : decode cX11_count 63 = .ok (.getfield 309, 3) := by decide +kernel
theorem dX11_count_66 : decode cX11_count 66 = .ok (.ireturn, 1) := by decide +kernel
theorem dX11_count_67 : decode cX11_count 67 = .ok (.aload_n 0, 1) := by decide +kernel
theorem dX11_count_68 : decode cX11_count 68 = .ok (.getfield 44, 3) := by decide +kernel
theorem dX11_count_71 : decode cX11_count 71 = .ok (.getfield 197, 3) := by decide +kernel
theorem dX11_count_74 : decode cX11_count 74 = .ok (.getfield 258, 3) := by decide +kernel
theorem dX11_count_77 : decode cX11_count 77 = .ok (.ireturn, 1) := by decide +kernel
theorem dX11_count_78 : decode cX11_count 78 = .ok (.aload_n 0, 1) := by decide +kernel
theorem dX11_count_79 : decode cX11_count 79 = .ok (.getfield 130, 3) := by decide +kernel
theorem dX11_count_82 : decode cX11_count 82 = .ok (.ireturn, 1) := by decide +kernel
theorem dX11_count_83 : decode cX11_count 83 = .ok (.aload_n 0, 1) := by decide +kernel
theorem dX11_count_84 : decode cX11_count 84 = .ok (.getfield 18, 3) := by decide +kernel
theorem dX11_count_87 : decode cX11_count 87 = .ok (.getfield 101, 3) := by decide +kernel
theorem dX11_count_90 : decode cX11_count 90 = .ok (.ireturn, 1) := by decide +kernel
theorem dX11_count_91 : decode cX11_count 91 = .ok (.ldc 60, 2) := by decide +kernel
theorem dX11_count_93 : decode cX11_count 93 = .ok (.ireturn, 1) := by decide +kernel
theorem dX11_status_0 : decode cX11_status 0 = .ok (.aload_n 0, 1) := by decide +kernel
theorem dX11_status_1 : decode cX11_status 1 = .ok (.getfield 265, 3) := by decide +kernel
theorem dX11_status_4 : decode cX11_status 4 = .ok (.ireturn, 1) := by decide +kernel
theorem dX11_finding_0 : decode cX11_finding 0 = .ok (.aload_n 0, 1) := by decide +kernel
theorem dX11_finding_1 : decode cX11_finding 1 = .ok (.iload_n 1, 1) := by decide +kernel
theorem dX11_finding_2 : decode cX11_finding 2 = .ok (.putfield 265, 3) := by decide +kernel
theorem dX11_finding_5 : decode cX11_finding 5 = .ok (.ldc_w 312, 3) := by decide +kernel
theorem dX11_finding_8 : decode cX11_finding 8 = .ok (.iload_n 1, 1) := by decide +kernel
theorem dX11_finding_9 : decode cX11_finding 9 = .ok (.isub, 1) := by decide +kernel
theorem dX11_finding_10 : decode cX11_finding 10 = .ok (.ireturn, 1) := by decide +kernel
theorem dX11_unfound_0 : decode cX11_unfound 0 = .ok (.aload_n 0, 1) := by decide +kernel
theorem dX11_unfound_1 : decode cX11_unfound 1 = .ok (.iconst 0, 1) := by decide +kernel
theorem dX11_unfound_2 : decode cX11_unfound 2 = .ok (.putfield 265, 3) := by decide +kernel
theorem dX11_unfound_5 : decode cX11_unfound 5 = .ok (.iload_n 1, 1) := by decide +kernel
theorem dX11_unfound_6 : decode cX11_unfound 6 = .ok (.ireturn, 1) := by decide +kernel
theorem dX11_noRoll_0 : decode cX11_noRoll 0 = .ok (.aload_n 0, 1) := by decide +kernel
theorem dX11_noRoll_1 : decode cX11_noRoll 1 = .ok (.getfield 44, 3) := by decide +kernel
theorem dX11_noRoll_4 : decode cX11_noRoll 4 = .ok (.getfield 197, 3) := by decide +kernel
theorem dX11_noRoll_7 : decode cX11_noRoll 7 = .ok (.getfield 127, 3) := by decide +kernel
theorem dX11_noRoll_10 : decode cX11_noRoll 10 = .ok (.ifCond .ne 7, 3) := by decide +kernel
theorem dX11_noRoll_13 : decode cX11_noRoll 13 = .ok (.iconst 1, 1) := by decide +kernel
theorem dX11_noRoll_14 : decode cX11_noRoll 14 = .ok (.goto 4, 3) := by decide +kernel
theorem dX11_noRoll_17 : decode cX11_noRoll 17 = .ok (.iconst 0, 1) := by decide +kernel
theorem dX11_noRoll_18 : decode cX11_noRoll 18 = .ok (.ireturn, 1) := by decide +kernel
theorem dX11_isPlace_0 : decode cX11_isPlace 0 = .ok (.iload_n 1, 1) := by decide +kernel
theorem dX11_isPlace_1 : decode cX11_isPlace 1 = .ok (.iconst 0, 1) := by decide +kernel
theorem dX11_isPlace_2 : decode cX11_isPlace 2 = .ok (.aload_n 0, 1) := by decide +kernel
theorem dX11_isPlace_3 : decode cX11_isPlace 3 = .ok (.getfield 44, 3) := by decide +kernel
theorem dX11_isPlace_6 : decode cX11_isPlace 6 = .ok (.getfield 197, 3) := by decide +kernel
theorem dX11_isPlace_9 : decode cX11_isPlace 9 = .ok (.getfield 127, 3) := by decide +kernel
theorem dX11_isPlace_12 : decode cX11_isPlace 12 = .ok (.iconst 1, 1) := by decide +kernel
theorem dX11_isPlace_13 : decode cX11_isPlace 13 = .ok (.isub, 1) := by decide +kernel
theorem dX11_isPlace_14 : decode cX11_isPlace 14 = .ok (.invokestatic 56, 3) := by decide +kernel
theorem dX11_isPlace_17 : decode cX11_isPlace 17 = .ok (.ireturn, 1) := by decide +kernel
theorem dX11_isPlaceOrNone_0 : decode cX11_isPlaceOrNone 0 = .ok (.aload_n 0, 1) := by decide +kernel
theorem dX11_isPlaceOrNone_1 : decode cX11_isPlaceOrNone 1 = .ok (.invokevirtual 159, 3) := by decide +kernel
theorem dX11_isPlaceOrNone_4 : decode cX11_isPlaceOrNone 4 = .ok (.ifCond .ne 25, 3) := by decide +kernel
theorem dX11_isPlaceOrNone_7 : decode cX11_isPlaceOrNone 7 = .ok (.iload_n 1, 1) := by decide +kernel
theorem dX11_isPlaceOrNone_8 : decode cX11_isPlaceOrNone 8 = .ok (.iconst 0, 1) := by decide +kernel
theorem dX11_isPlaceOrNone_9 : decode cX11_isPlaceOrNone 9 = .ok (.aload_n 0, 1) := by decide +kernel
theorem dX11_isPlaceOrNone_10 : decode cX11_isPlaceOrNone 10 = .ok (.getfield 44, 3) := by decide +kernel
theorem dX11_isPlaceOrNone_13 : decode cX11_isPlaceOrNone 13 = .ok (.getfield 197, 3) := by decide +kernel
theorem dX11_isPlaceOrNone_16 : decode cX11_isPlaceOrNone 16 = .ok (.getfield 127, 3) := by decide +kernel
theorem dX11_isPlaceOrNone_19 : decode cX11_isPlaceOrNone 19 = .ok (.invokestatic 56, 3) := by decide +kernel
theorem dX11_isPlaceOrNone_22 : decode cX11_isPlaceOrNone 22 = .ok (.ifCond .eq 7, 3) := by decide +kernel
theorem dX11_isPlaceOrNone_25 : decode cX11_isPlaceOrNone 25 = .ok (.iconst 1, 1) := by decide +kernel
theorem dX11_isPlaceOrNone_26 : decode cX11_isPlaceOrNone 26 = .ok (.goto 4, 3) := by decide +kernel
theorem dX11_isPlaceOrNone_29 : decode cX11_isPlaceOrNone 29 = .ok (.iconst 0, 1) := by decide +kernel
theorem dX11_isPlaceOrNone_30 : decode cX11_isPlaceOrNone 30 = .ok (.ireturn, 1) := by decide +kernel
theorem dX11_rowAt_0 : decode cX11_rowAt 0 = .ok (.iload_n 1, 1) := by decide +kernel
theorem dX11_rowAt_1 : decode cX11_rowAt 1 = .ok (.iconst 0, 1) := by decide +kernel
theorem dX11_rowAt_2 : decode cX11_rowAt 2 = .ok (.bipush 7, 2) := by decide +kernel
theorem dX11_rowAt_4 : decode cX11_rowAt 4 = .ok (.invokestatic 56, 3) := by decide +kernel
theorem dX11_rowAt_7 : decode cX11_rowAt 7 = .ok (.ifCond .eq 12, 3) := by decide +kernel
theorem dX11_rowAt_10 : decode cX11_rowAt 10 = .ok (.aload_n 0, 1) := by decide +kernel
theorem dX11_rowAt_11 : decode cX11_rowAt 11 = .ok (.getfield 11, 3) := by decide +kernel
theorem dX11_rowAt_14 : decode cX11_rowAt 14 = .ok (.iload_n 1, 1) := by decide +kernel
theorem dX11_rowAt_15 : decode cX11_rowAt 15 = .ok (.aaload, 1) := by decide +kernel
theorem dX11_rowAt_16 : decode cX11_rowAt 16 = .ok (.goto 4, 3) := by decide +kernel
theorem dX11_rowAt_19 : decode cX11_rowAt 19 = .ok (.aconst_null, 1) := by decide +kernel
theorem dX11_rowAt_20 : decode cX11_rowAt 20 = .ok (.areturn, 1) := by decide +kernel
theorem dX11_seekerAt_0 : decode cX11_seekerAt 0 = .ok (.iload_n 1, 1) := by decide +kernel
theorem dX11_seekerAt_1 : decode cX11_seekerAt 1 = .ok (.iconst 0, 1) := by decide +kernel
theorem dX11_seekerAt_2 : decode cX11_seekerAt 2 = .ok (.aload_n 0, 1) := by decide +kernel
theorem dX11_seekerAt_3 : decode cX11_seekerAt 3 = .ok (.getfield 44, 3) := by decide +kernel
theorem dX11_seekerAt_6 : decode cX11_seekerAt 6 = .ok (.getfield 197, 3) := by decide +kernel
theorem dX11_seekerAt_9 : decode cX11_seekerAt 9 = .ok (.getfield 258, 3) := by decide +kernel
theorem dX11_seekerAt_12 : decode cX11_seekerAt 12 = .ok (.iconst 1, 1) := by decide +kernel
theorem dX11_seekerAt_13 : decode cX11_seekerAt 13 = .ok (.isub, 1) := by decide +kernel
theorem dX11_seekerAt_14 : decode cX11_seekerAt 14 = .ok (.invokestatic 56, 3) := by decide +kernel
theorem dX11_seekerAt_17 : decode cX11_seekerAt 17 = .ok (.ifCond .eq 18, 3) := by decide +kernel
theorem dX11_seekerAt_20 : decode cX11_seekerAt 20 = .ok (.aload_n 0, 1) := by decide +kernel
theorem dX11_seekerAt_21 : decode cX11_seekerAt 21 = .ok (.getfield 44, 3) := by decide +kernel
theorem dX11_seekerAt_24 : decode cX11_seekerAt 24 = .ok (.getfield 197, 3) := by decide +kernel
theorem dX11_seekerAt_27 : decode cX11_seekerAt 27 = .ok (.getfield 313, 3) := by decide +kernel
theorem dX11_seekerAt_30 : decode cX11_seekerAt 30 = .ok (.iload_n 1, 1) := by decide +kernel
theorem dX11_seekerAt_31 : decode cX11_seekerAt 31 = .ok (.aaload, 1) := by decide +kernel
theorem dX11_seekerAt_32 : decode cX11_seekerAt 32 = .ok (.goto 4, 3) := by decide +kernel
theorem dX11_seekerAt_35 : decode cX11_seekerAt 35 = .ok (.aconst_null, 1) := by decide +kernel
theorem dX11_seekerAt_36 : decode cX11_seekerAt 36 = .ok (.areturn, 1) := by decide +kernel
theorem dX11_rowsThere_0 : decode cX11_rowsThere 0 = .ok (.iconst 0, 1) := by decide +kernel
theorem dX11_rowsThere_1 : decode cX11_rowsThere 1 = .ok (.istore_n 1, 1) := by decide +kernel
theorem dX11_rowsThere_2 : decode cX11_rowsThere 2 = .ok (.iconst 0, 1) := by decide +kernel
theorem dX11_rowsThere_3 : decode cX11_rowsThere 3 = .ok (.istore_n 2, 1) := by decide +kernel
theorem dX11_rowsThere_4 : decode cX11_rowsThere 4 = .ok (.iload_n 2, 1) := by decide +kernel
theorem dX11_rowsThere_5 : decode cX11_rowsThere 5 = .ok (.bipush 8, 2) := by decide +kernel
theorem dX11_rowsThere_7 : decode cX11_rowsThere 7 = .ok (.if_icmp .ge 24, 3) := by decide +kernel
theorem dX11_rowsThere_10 : decode cX11_rowsThere 10 = .ok (.aload_n 0, 1) := by decide +kernel
theorem dX11_rowsThere_11 : decode cX11_rowsThere 11 = .ok (.getfield 11, 3) := by decide +kernel
theorem dX11_rowsThere_14 : decode cX11_rowsThere 14 = .ok (.iload_n 2, 1) := by decide +kernel
theorem dX11_rowsThere_15 : decode cX11_rowsThere 15 = .ok (.aaload, 1) := by decide +kernel
theorem dX11_rowsThere_16 : decode cX11_rowsThere 16 = .ok (.getfield 72, 3) := by decide +kernel
theorem dX11_rowsThere_19 : decode cX11_rowsThere 19 = .ok (.ifCond .ne 6, 3) := by decide +kernel
theorem dX11_rowsThere_22 : decode cX11_rowsThere 22 = .ok (.iinc 1 1, 3) := by decide +kernel
theorem dX11_rowsThere_25 : decode cX11_rowsThere 25 = .ok (.iinc 2 1, 3) := by decide +kernel
theorem dX11_rowsThere_28 : decode cX11_rowsThere 28 = .ok (.goto (-24), 3) := by decide +kernel
theorem dX11_rowsThere_31 : decode cX11_rowsThere 31 = .ok (.iload_n 1, 1) := by decide +kernel
theorem dX11_rowsThere_32 : decode cX11_rowsThere 32 = .ok (.ireturn, 1) := by decide +kernel
theorem dX11_keepAct_0 : decode cX11_keepAct 0 = .ok (.aload_n 0, 1) := by decide +kernel
theorem dX11_keepAct_1 : decode cX11_keepAct 1 = .ok (.getfield 130, 3) := by decide +kernel
theorem dX11_keepAct_4 : decode cX11_keepAct 4 = .ok (.bipush 24, 2) := by decide +kernel
theorem dX11_keepAct_6 : decode cX11_keepAct 6 = .ok (.if_icmp .lt 26, 3) := by decide +kernel
theorem dX11_keepAct_9 : decode cX11_keepAct 9 = .ok (.aload_n 0, 1) := by decide +kernel
theorem dX11_keepAct_10 : decode cX11_keepAct 10 = .ok (.aload_n 0, 1) := by decide +kernel
theorem dX11_keepAct_11 : decode cX11_keepAct 11 = .ok (.getfield 134, 3) := by decide +kernel
theorem dX11_keepAct_14 : decode cX11_keepAct 14 = .ok (.iconst 1, 1) := by decide +kernel
theorem dX11_keepAct_15 : decode cX11_keepAct 15 = .ok (.iadd, 1) := by decide +kernel
theorem dX11_keepAct_16 : decode cX11_keepAct 16 = .ok (.bipush 24, 2) := by decide +kernel
theorem dX11_keepAct_18 : decode cX11_keepAct 18 = .ok (.irem, 1) := by decide +kernel
theorem dX11_keepAct_19 : decode cX11_keepAct 19 = .ok (.putfield 134, 3) := by decide +kernel
theorem dX11_keepAct_22 : decode cX11_keepAct 22 = .ok (.aload_n 0, 1) := by decide +kernel
theorem dX11_keepAct_23 : decode cX11_keepAct 23 = .ok (.dup, 1) := by decide +kernel
theorem dX11_keepAct_24 : decode cX11_keepAct 24 = .ok (.getfield 130, 3) := by decide +kernel
theorem dX11_keepAct_27 : decode cX11_keepAct 27 = .ok (.iconst 1, 1) := by decide +kernel
theorem dX11_keepAct_28 : decode cX11_keepAct 28 = .ok (.isub, 1) := by decide +kernel
theorem dX11_keepAct_29 : decode cX11_keepAct 29 = .ok (.putfield 130, 3) := by decide +kernel
theorem dX11_keepAct_32 : decode cX11_keepAct 32 = .ok (.aload_n 0, 1) := by decide +kernel
theorem dX11_keepAct_33 : decode cX11_keepAct 33 = .ok (.getfield 35, 3) := by decide +kernel
theorem dX11_keepAct_36 : decode cX11_keepAct 36 = .ok (.aload_n 0, 1) := by decide +kernel
theorem dX11_keepAct_37 : decode cX11_keepAct 37 = .ok (.getfield 134, 3) := by decide +kernel
theorem dX11_keepAct_40 : decode cX11_keepAct 40 = .ok (.aload_n 0, 1) := by decide +kernel
theorem dX11_keepAct_41 : decode cX11_keepAct 41 = .ok (.getfield 130, 3) := by decide +kernel
theorem dX11_keepAct_44 : decode cX11_keepAct 44 = .ok (.iadd, 1) := by decide +kernel
theorem dX11_keepAct_45 : decode cX11_keepAct 45 = .ok (.bipush 24, 2) := by decide +kernel
theorem dX11_keepAct_47 : decode cX11_keepAct 47 = .ok (.irem, 1) := by decide +kernel
theorem dX11_keepAct_48 : decode cX11_keepAct 48 = .ok (.aaload, 1) := by decide +kernel
theorem dX11_keepAct_49 : decode cX11_keepAct 49 = .ok (.aload_n 0, 1) := by decide +kernel
theorem dX11_keepAct_50 : decode cX11_keepAct 50 = .ok (.getfield 44, 3) := by decide +kernel
theorem dX11_keepAct_53 : decode cX11_keepAct 53 = .ok (.invokevirtual 137, 3) := by decide +kernel
theorem dX11_keepAct_56 : decode cX11_keepAct 56 = .ok (.aload_n 0, 1) := by decide +kernel
theorem dX11_keepAct_57 : decode cX11_keepAct 57 = .ok (.dup, 1) := by decide +kernel
theorem dX11_keepAct_58 : decode cX11_keepAct 58 = .ok (.getfield 130, 3) := by decide +kernel
theorem dX11_keepAct_61 : decode cX11_keepAct 61 = .ok (.iconst 1, 1) := by decide +kernel
theorem dX11_keepAct_62 : decode cX11_keepAct 62 = .ok (.iadd, 1) := by decide +kernel
theorem dX11_keepAct_63 : decode cX11_keepAct 63 = .ok (.putfield 130, 3) := by decide +kernel
theorem dX11_keepAct_66 : decode cX11_keepAct 66 = .ok (.return_, 1) := by decide +kernel
theorem dX11_forgetActs_0 : decode cX11_forgetActs 0 = .ok (.aload_n 0, 1) := by decide +kernel
theorem dX11_forgetActs_1 : decode cX11_forgetActs 1 = .ok (.iconst 0, 1) := by decide +kernel
theorem dX11_forgetActs_2 : decode cX11_forgetActs 2 = .ok (.putfield 134, 3) := by decide +kernel
theorem dX11_forgetActs_5 : decode cX11_forgetActs 5 = .ok (.aload_n 0, 1) := by decide +kernel
theorem dX11_forgetActs_6 : decode cX11_forgetActs 6 = .ok (.iconst 0, 1) := by decide +kernel
theorem dX11_forgetActs_7 : decode cX11_forgetActs 7 = .ok (.putfield 130, 3) := by decide +kernel
theorem dX11_forgetActs_10 : decode cX11_forgetActs 10 = .ok (.return_, 1) := by decide +kernel
theorem dX11_goesSo_0 : decode cX11_goesSo 0 = .ok (.aload_n 1, 1) := by decide +kernel
theorem dX11_goesSo_1 : decode cX11_goesSo 1 = .ok (.ifnonnull 5, 3) := by decide +kernel
theorem dX11_goesSo_4 : decode cX11_goesSo 4 = .ok (.iconst 0, 1) := by decide +kernel
theorem dX11_goesSo_5 : decode cX11_goesSo 5 = .ok (.ireturn, 1) := by decide +kernel
theorem dX11_goesSo_6 : decode cX11_goesSo 6 = .ok (.aload_n 0, 1) := by decide +kernel
theorem dX11_goesSo_7 : decode cX11_goesSo 7 = .ok (.getfield 48, 3) := by decide +kernel
theorem dX11_goesSo_10 : decode cX11_goesSo 10 = .ok (.aload_n 0, 1) := by decide +kernel
theorem dX11_goesSo_11 : decode cX11_goesSo 11 = .ok (.getfield 44, 3) := by decide +kernel
theorem dX11_goesSo_14 : decode cX11_goesSo 14 = .ok (.invokevirtual 137, 3) := by decide +kernel
theorem dX11_goesSo_17 : decode cX11_goesSo 17 = .ok (.aload_n 0, 1) := by decide +kernel
theorem dX11_goesSo_18 : decode cX11_goesSo 18 = .ok (.getfield 48, 3) := by decide +kernel
theorem dX11_goesSo_21 : decode cX11_goesSo 21 = .ok (.aload_n 2, 1) := by decide +kernel
theorem dX11_goesSo_22 : decode cX11_goesSo 22 = .ok (.getfield 88, 3) := by decide +kernel
theorem dX11_goesSo_25 : decode cX11_goesSo 25 = .ok (.iload_n 3, 1) := by decide +kernel
theorem dX11_goesSo_26 : decode cX11_goesSo 26 = .ok (.iaload, 1) := by decide +kernel
theorem dX11_goesSo_27 : decode cX11_goesSo 27 = .ok (.putfield 166, 3) := by decide +kernel
theorem dX11_goesSo_30 : decode cX11_goesSo 30 = .ok (.iconst 1, 1) := by decide +kernel
theorem dX11_goesSo_31 : decode cX11_goesSo 31 = .ok (.istore 5, 2) := by decide +kernel
theorem dX11_goesSo_33 : decode cX11_goesSo 33 = .ok (.iload 5, 2) := by decide +kernel
theorem dX11_goesSo_35 : decode cX11_goesSo 35 = .ok (.iload 4, 2) := by decide +kernel
theorem dX11_goesSo_37 : decode cX11_goesSo 37 = .ok (.if_icmp .ge 53, 3) := by decide +kernel
theorem dX11_goesSo_40 : decode cX11_goesSo 40 = .ok (.aload_n 0, 1) := by decide +kernel
theorem dX11_goesSo_41 : decode cX11_goesSo 41 = .ok (.getfield 48, 3) := by decide +kernel
theorem dX11_goesSo_44 : decode cX11_goesSo 44 = .ok (.aload_n 1, 1) := by decide +kernel
theorem dX11_goesSo_45 : decode cX11_goesSo 45 = .ok (.iconst 0, 1) := by decide +kernel
theorem dX11_goesSo_46 : decode cX11_goesSo 46 = .ok (.invokevirtual 145, 3) := by decide +kernel
theorem dX11_goesSo_49 : decode cX11_goesSo 49 = .ok (.aload_n 2, 1) := by decide +kernel
theorem dX11_goesSo_50 : decode cX11_goesSo 50 = .ok (.getfield 88, 3) := by decide +kernel
theorem dX11_goesSo_53 : decode cX11_goesSo 53 = .ok (.iload_n 3, 1) := by decide +kernel
theorem dX11_goesSo_54 : decode cX11_goesSo 54 = .ok (.iload 5, 2) := by decide +kernel
theorem dX11_goesSo_56 : decode cX11_goesSo 56 = .ok (.iadd, 1) := by decide +kernel
theorem dX11_goesSo_57 : decode cX11_goesSo 57 = .ok (.iaload, 1) := by decide +kernel
theorem dX11_goesSo_58 : decode cX11_goesSo 58 = .ok (.istore 6, 2) := by decide +kernel
theorem dX11_goesSo_60 : decode cX11_goesSo 60 = .ok (.aload_n 1, 1) := by decide +kernel
theorem dX11_goesSo_61 : decode cX11_goesSo 61 = .ok (.aload_n 0, 1) := by decide +kernel
theorem dX11_goesSo_62 : decode cX11_goesSo 62 = .ok (.getfield 48, 3) := by decide +kernel
theorem dX11_goesSo_65 : decode cX11_goesSo 65 = .ok (.invokevirtual 175, 3) := by decide +kernel
theorem dX11_goesSo_68 : decode cX11_goesSo 68 = .ok (.iload 6, 2) := by decide +kernel
theorem dX11_goesSo_70 : decode cX11_goesSo 70 = .ok (.if_icmp .eq 5, 3) := by decide +kernel
theorem dX11_goesSo_73 : decode cX11_goesSo 73 = .ok (.iconst 0, 1) := by decide +kernel
theorem dX11_goesSo_74 : decode cX11_goesSo 74 = .ok (.ireturn, 1) := by decide +kernel
theorem dX11_goesSo_75 : decode cX11_goesSo 75 = .ok (.aload_n 0, 1) := by decide +kernel
theorem dX11_goesSo_76 : decode cX11_goesSo 76 = .ok (.getfield 48, 3) := by decide +kernel
theorem dX11_goesSo_79 : decode cX11_goesSo 79 = .ok (.iload 6, 2) := by decide +kernel
theorem dX11_goesSo_81 : decode cX11_goesSo 81 = .ok (.putfield 166, 3) := by decide +kernel
theorem dX11_goesSo_84 : decode cX11_goesSo 84 = .ok (.iinc 5 1, 3) := by decide +kernel
theorem dX11_goesSo_87 : decode cX11_goesSo 87 = .ok (.goto (-54), 3) := by decide +kernel
theorem dX11_goesSo_90 : decode cX11_goesSo 90 = .ok (.iconst 1, 1) := by decide +kernel
theorem dX11_goesSo_91 : decode cX11_goesSo 91 = .ok (.ireturn, 1) := by decide +kernel
theorem dX11_walkByWords_0 : decode cX11_walkByWords 0 = .ok (.aload_n 0, 1) := by decide +kernel
theorem dX11_walkByWords_1 : decode cX11_walkByWords 1 = .ok (.getfield 48, 3) := by decide +kernel
theorem dX11_walkByWords_4 : decode cX11_walkByWords 4 = .ok (.aload_n 0, 1) := by decide +kernel
theorem dX11_walkByWords_5 : decode cX11_walkByWords 5 = .ok (.getfield 44, 3) := by decide +kernel
theorem dX11_walkByWords_8 : decode cX11_walkByWords 8 = .ok (.invokevirtual 137, 3) := by decide +kernel
theorem dX11_walkByWords_11 : decode cX11_walkByWords 11 = .ok (.iconst 0, 1) := by decide +kernel
theorem dX11_walkByWords_12 : decode cX11_walkByWords 12 = .ok (.istore 5, 2) := by decide +kernel
theorem dX11_walkByWords_14 : decode cX11_walkByWords 14 = .ok (.iconst 0, 1) := by decide +kernel
theorem dX11_walkByWords_15 : decode cX11_walkByWords 15 = .ok (.istore 6, 2) := by decide +kernel
theorem dX11_walkByWords_17 : decode cX11_walkByWords 17 = .ok (.iload 6, 2) := by decide +kernel
theorem dX11_walkByWords_19 : decode cX11_walkByWords 19 = .ok (.iload 4, 2) := by decide +kernel
theorem dX11_walkByWords_21 : decode cX11_walkByWords 21 = .ok (.if_icmp .ge 82, 3) := by decide +kernel
theorem dX11_walkByWords_24 : decode cX11_walkByWords 24 = .ok (.iload 6, 2) := by decide +kernel
theorem dX11_walkByWords_26 : decode cX11_walkByWords 26 = .ok (.ifCond .le 35, 3) := by decide +kernel
theorem dX11_walkByWords_29 : decode cX11_walkByWords 29 = .ok (.aload_n 0, 1) := by decide +kernel
theorem dX11_walkByWords_30 : decode cX11_walkByWords 30 = .ok (.getfield 48, 3) := by decide +kernel
theorem dX11_walkByWords_33 : decode cX11_walkByWords 33 = .ok (.aload_n 2, 1) := by decide +kernel
theorem dX11_walkByWords_34 : decode cX11_walkByWords 34 = .ok (.getfield 88, 3) := by decide +kernel
theorem dX11_walkByWords_37 : decode cX11_walkByWords 37 = .ok (.iload 5, 2) := by decide +kernel
theorem dX11_walkByWords_39 : decode cX11_walkByWords 39 = .ok (.iaload, 1) := by decide +kernel
theorem dX11_walkByWords_40 : decode cX11_walkByWords 40 = .ok (.invokevirtual 317, 3) := by decide +kernel
theorem dX11_walkByWords_43 : decode cX11_walkByWords 43 = .ok (.iload 5, 2) := by decide +kernel
theorem dX11_walkByWords_45 : decode cX11_walkByWords 45 = .ok (.iconst 1, 1) := by decide +kernel
theorem dX11_walkByWords_46 : decode cX11_walkByWords 46 = .ok (.iadd, 1) := by decide +kernel
theorem dX11_walkByWords_47 : decode cX11_walkByWords 47 = .ok (.iload_n 3, 1) := by decide +kernel
theorem dX11_walkByWords_48 : decode cX11_walkByWords 48 = .ok (.if_icmp .ge 10, 3) := by decide +kernel
theorem dX11_walkByWords_51 : decode cX11_walkByWords 51 = .ok (.iload 5, 2) := by decide +kernel
theorem dX11_walkByWords_53 : decode cX11_walkByWords 53 = .ok (.iconst 1, 1) := by decide +kernel
theorem dX11_walkByWords_54 : decode cX11_walkByWords 54 = .ok (.iadd, 1) := by decide +kernel
theorem dX11_walkByWords_55 : decode cX11_walkByWords 55 = .ok (.goto 4, 3) := by decide +kernel
theorem dX11_walkByWords_58 : decode cX11_walkByWords 58 = .ok (.iconst 0, 1) := by decide +kernel
theorem dX11_walkByWords_59 : decode cX11_walkByWords 59 = .ok (.istore 5, 2) := by decide +kernel
theorem dX11_walkByWords_61 : decode cX11_walkByWords 61 = .ok (.aload_n 0, 1) := by decide +kernel
theorem dX11_walkByWords_62 : decode cX11_walkByWords 62 = .ok (.getfield 48, 3) := by decide +kernel
theorem dX11_walkByWords_65 : decode cX11_walkByWords 65 = .ok (.bipush 10, 2) := by decide +kernel
theorem dX11_walkByWords_67 : decode cX11_walkByWords 67 = .ok (.aload_n 1, 1) := by decide +kernel
theorem dX11_walkByWords_68 : decode cX11_walkByWords 68 = .ok (.aload_n 0, 1) := by decide +kernel
theorem dX11_walkByWords_69 : decode cX11_walkByWords 69 = .ok (.getfield 48, 3) := by decide +kernel
theorem dX11_walkByWords_72 : decode cX11_walkByWords 72 = .ok (.getfield 172, 3) := by decide +kernel
theorem dX11_walkByWords_75 : decode cX11_walkByWords 75 = .ok (.invokevirtual 213, 3) := by decide +kernel
theorem dX11_walkByWords_78 : decode cX11_walkByWords 78 = .ok (.isub, 1) := by decide +kernel
theorem dX11_walkByWords_79 : decode cX11_walkByWords 79 = .ok (.bipush 10, 2) := by decide +kernel
theorem dX11_walkByWords_81 : decode cX11_walkByWords 81 = .ok (.invokevirtual 320, 3) := by decide +kernel
theorem dX11_walkByWords_84 : decode cX11_walkByWords 84 = .ok (.aload_n 0, 1) := by decide +kernel
theorem dX11_walkByWords_85 : decode cX11_walkByWords 85 = .ok (.getfield 48, 3) := by decide +kernel
theorem dX11_walkByWords_88 : decode cX11_walkByWords 88 = .ok (.dup, 1) := by decide +kernel
theorem dX11_walkByWords_89 : decode cX11_walkByWords 89 = .ok (.getfield 191, 3) := by decide +kernel
theorem dX11_walkByWords_92 : decode cX11_walkByWords 92 = .ok (.iconst 1, 1) := by decide +kernel
theorem dX11_walkByWords_93 : decode cX11_walkByWords 93 = .ok (.iadd, 1) := by decide +kernel
theorem dX11_walkByWords_94 : decode cX11_walkByWords 94 = .ok (.putfield 191, 3) := by decide +kernel
theorem dX11_walkByWords_97 : decode cX11_walkByWords 97 = .ok (.iinc 6 1, 3) := by decide +kernel
theorem dX11_walkByWords_100 : decode cX11_walkByWords 100 = .ok (.goto (-83), 3) := by decide +kernel
theorem dX11_walkByWords_103 : decode cX11_walkByWords 103 = .ok (.return_, 1) := by decide +kernel
theorem dX11_within_0 : decode cX11_within 0 = .ok (.iload_n 0, 1) := by decide +kernel
theorem dX11_within_1 : decode cX11_within 1 = .ok (.iload_n 1, 1) := by decide +kernel
theorem dX11_within_2 : decode cX11_within 2 = .ok (.if_icmp .lt 12, 3) := by decide +kernel
theorem dX11_within_5 : decode cX11_within 5 = .ok (.iload_n 0, 1) := by decide +kernel
theorem dX11_within_6 : decode cX11_within 6 = .ok (.iload_n 2, 1) := by decide +kernel
theorem dX11_within_7 : decode cX11_within 7 = .ok (.if_icmp .gt 7, 3) := by decide +kernel
theorem dX11_within_10 : decode cX11_within 10 = .ok (.iconst 1, 1) := by decide +kernel
theorem dX11_within_11 : decode cX11_within 11 = .ok (.goto 4, 3) := by decide +kernel
theorem dX11_within_14 : decode cX11_within 14 = .ok (.iconst 0, 1) := by decide +kernel
theorem dX11_within_15 : decode cX11_within 15 = .ok (.ireturn, 1) := by decide +kernel
theorem dX11_isWay_0 : decode cX11_isWay 0 = .ok (.iload_n 0, 1) := by decide +kernel
theorem dX11_isWay_1 : decode cX11_isWay 1 = .ok (.iconst 1, 1) := by decide +kernel
theorem dX11_isWay_2 : decode cX11_isWay 2 = .ok (.if_icmp .eq 8, 3) := by decide +kernel
theorem dX11_isWay_5 : decode cX11_isWay 5 = .ok (.iload_n 0, 1) := by decide +kernel
theorem dX11_isWay_6 : decode cX11_isWay 6 = .ok (.iconst (-1), 1) := by decide +kernel
theorem dX11_isWay_7 : decode cX11_isWay 7 = .ok (.if_icmp .ne 7, 3) := by decide +kernel
theorem dX11_isWay_10 : decode cX11_isWay 10 = .ok (.iconst 1, 1) := by decide +kernel
theorem dX11_isWay_11 : decode cX11_isWay 11 = .ok (.goto 4, 3) := by decide +kernel
theorem dX11_isWay_14 : decode cX11_isWay 14 = .ok (.iconst 0, 1) := by decide +kernel
theorem dX11_isWay_15 : decode cX11_isWay 15 = .ok (.ireturn, 1) := by decide +kernel
theorem dX11_isSplinter_0 : decode cX11_isSplinter 0 = .ok (.iload_n 0, 1) := by decide +kernel
theorem dX11_isSplinter_1 : decode cX11_isSplinter 1 = .ok (.iconst 1, 1) := by decide +kernel
theorem dX11_isSplinter_2 : decode cX11_isSplinter 2 = .ok (.bipush 19, 2) := by decide +kernel
theorem dX11_isSplinter_4 : decode cX11_isSplinter 4 = .ok (.invokestatic 56, 3) := by decide +kernel
theorem dX11_isSplinter_7 : decode cX11_isSplinter 7 = .ok (.ifCond .eq 26, 3) := by decide +kernel
theorem dX11_isSplinter_10 : decode cX11_isSplinter 10 = .ok (.iload_n 1, 1) := by decide +kernel
theorem dX11_isSplinter_11 : decode cX11_isSplinter 11 = .ok (.iconst 1, 1) := by decide +kernel
theorem dX11_isSplinter_12 : decode cX11_isSplinter 12 = .ok (.bipush 9, 2) := by decide +kernel
theorem dX11_isSplinter_14 : decode cX11_isSplinter 14 = .ok (.invokestatic 56, 3) := by decide +kernel
theorem dX11_isSplinter_17 : decode cX11_isSplinter 17 = .ok (.ifCond .eq 16, 3) := by decide +kernel
theorem dX11_isSplinter_20 : decode cX11_isSplinter 20 = .ok (.iload_n 2, 1) := by decide +kernel
theorem dX11_isSplinter_21 : decode cX11_isSplinter 21 = .ok (.iconst 0, 1) := by decide +kernel
theorem dX11_isSplinter_22 : decode cX11_isSplinter 22 = .ok (.iconst 1, 1) := by decide +kernel
theorem dX11_isSplinter_23 : decode cX11_isSplinter 23 = .ok (.invokestatic 56, 3) := by decide +kernel
theorem dX11_isSplinter_26 : decode cX11_isSplinter 26 = .ok (.ifCond .eq 7, 3) := by decide +kernel
theorem dX11_isSplinter_29 : decode cX11_isSplinter 29 = .ok (.iconst 1, 1) := by decide +kernel
theorem dX11_isSplinter_30 : decode cX11_isSplinter 30 = .ok (.goto 4, 3) := by decide +kernel
theorem dX11_isSplinter_33 : decode cX11_isSplinter 33 = .ok (.iconst 0, 1) := by decide +kernel
theorem dX11_isSplinter_34 : decode cX11_isSplinter 34 = .ok (.ireturn, 1) := by decide +kernel
theorem dX11_widthBehind_0 : decode cX11_widthBehind 0 = .ok (.iload_n 2, 1) := by decide +kernel
theorem dX11_widthBehind_1 : decode cX11_widthBehind 1 = .ok (.ifCond .ne 15, 3) := by decide +kernel
theorem dX11_widthBehind_4 : decode cX11_widthBehind 4 = .ok (.iconst 0, 1) := by decide +kernel
theorem dX11_widthBehind_5 : decode cX11_widthBehind 5 = .ok (.iload_n 0, 1) := by decide +kernel
theorem dX11_widthBehind_6 : decode cX11_widthBehind 6 = .ok (.iload_n 1, 1) := by decide +kernel
theorem dX11_widthBehind_7 : decode cX11_widthBehind 7 = .ok (.iload_n 3, 1) := by decide +kernel
theorem dX11_widthBehind_8 : decode cX11_widthBehind 8 = .ok (.imul, 1) := by decide +kernel
theorem dX11_widthBehind_9 : decode cX11_widthBehind 9 = .ok (.isub, 1) := by decide +kernel
theorem dX11_widthBehind_10 : decode cX11_widthBehind 10 = .ok (.invokestatic 323, 3) := by decide +kernel
theorem dX11_widthBehind_13 : decode cX11_widthBehind 13 = .ok (.goto 13, 3) := by decide +kernel
theorem dX11_widthBehind_16 : decode cX11_widthBehind 16 = .ok (.bipush 20, 2) := by decide +kernel
theorem dX11_widthBehind_18 : decode cX11_widthBehind 18 = .ok (.iload_n 0, 1) := by decide +kernel
theorem dX11_widthBehind_19 : decode cX11_widthBehind 19 = .ok (.iload_n 1, 1) := by decide +kernel
theorem dX11_widthBehind_20 : decode cX11_widthBehind 20 = .ok (.iload_n 3, 1) := by decide +kernel
theorem dX11_widthBehind_21 : decode cX11_widthBehind 21 = .ok (.imul, 1) := by decide +kernel
theorem dX11_widthBehind_22 : decode cX11_widthBehind 22 = .ok (.iadd, 1) := by decide +kernel
theorem dX11_widthBehind_23 : decode cX11_widthBehind 23 = .ok (.invokestatic 328, 3) := by decide +kernel
theorem dX11_widthBehind_26 : decode cX11_widthBehind 26 = .ok (.ireturn, 1) := by decide +kernel
theorem dX11_nextDraw_0 : decode cX11_nextDraw 0 = .ok (.lload_n 0, 1) := by decide +kernel
theorem dX11_nextDraw_1 : decode cX11_nextDraw 1 = .ok (.ldc2_w 331, 3) := by decide +kernel
theorem dX11_nextDraw_4 : decode cX11_nextDraw 4 = .ok (.lmul, 1) := by decide +kernel
theorem dX11_nextDraw_5 : decode cX11_nextDraw 5 = .ok (.ldc2_w 333, 3) := by decide +kernel
theorem dX11_nextDraw_8 : decode cX11_nextDraw 8 = .ok (.lrem, 1) := by decide +kernel
theorem dX11_nextDraw_9 : decode cX11_nextDraw 9 = .ok (.lreturn, 1) := by decide +kernel
theorem dX11_tens_0 : decode cX11_tens 0 = .ok (.lconst 1, 1) := by decide +kernel
theorem dX11_tens_1 : decode cX11_tens 1 = .ok (.lstore_n 1, 1) := by decide +kernel
theorem dX11_tens_2 : decode cX11_tens 2 = .ok (.iconst 0, 1) := by decide +kernel
theorem dX11_tens_3 : decode cX11_tens 3 = .ok (.istore_n 3, 1) := by decide +kernel
theorem dX11_tens_4 : decode cX11_tens 4 = .ok (.iload_n 3, 1) := by decide +kernel
theorem dX11_tens_5 : decode cX11_tens 5 = .ok (.iload_n 0, 1) := by decide +kernel
theorem dX11_tens_6 : decode cX11_tens 6 = .ok (.if_icmp .ge 15, 3) := by decide +kernel
theorem dX11_tens_9 : decode cX11_tens 9 = .ok (.lload_n 1, 1) := by decide +kernel
theorem dX11_tens_10 : decode cX11_tens 10 = .ok (.ldc2_w 229, 3) := by decide +kernel
theorem dX11_tens_13 : decode cX11_tens 13 = .ok (.lmul, 1) := by decide +kernel
theorem dX11_tens_14 : decode cX11_tens 14 = .ok (.lstore_n 1, 1) := by decide +kernel
theorem dX11_tens_15 : decode cX11_tens 15 = .ok (.iinc 3 1, 3) := by decide +kernel
theorem dX11_tens_18 : decode cX11_tens 18 = .ok (.goto (-14), 3) := by decide +kernel
theorem dX11_tens_21 : decode cX11_tens 21 = .ok (.lload_n 1, 1) := by decide +kernel
theorem dX11_tens_22 : decode cX11_tens 22 = .ok (.lreturn, 1) := by decide +kernel
theorem dX11_lowest_0 : decode cX11_lowest 0 = .ok (.lload_n 0, 1) := by decide +kernel
theorem dX11_lowest_1 : decode cX11_lowest 1 = .ok (.lload_n 2, 1) := by decide +kernel
theorem dX11_lowest_2 : decode cX11_lowest 2 = .ok (.invokestatic 335, 3) := by decide +kernel
theorem dX11_lowest_5 : decode cX11_lowest 5 = .ok (.lstore 5, 2) := by decide +kernel
theorem dX11_lowest_7 : decode cX11_lowest 7 = .ok (.lload 5, 2) := by decide +kernel
theorem dX11_lowest_9 : decode cX11_lowest 9 = .ok (.lconst 0, 1) := by decide +kernel
theorem dX11_lowest_10 : decode cX11_lowest 10 = .ok (.lcmp, 1) := by decide +kernel
theorem dX11_lowest_11 : decode cX11_lowest 11 = .ok (.ifCond .ne 7, 3) := by decide +kernel
theorem dX11_lowest_14 : decode cX11_lowest 14 = .ok (.iload 4, 2) := by decide +kernel
theorem dX11_lowest_16 : decode cX11_lowest 16 = .ok (.i2l, 1) := by decide +kernel
theorem dX11_lowest_17 : decode cX11_lowest 17 = .ok (.lreturn, 1) := by decide +kernel
theorem dX11_lowest_18 : decode cX11_lowest 18 = .ok (.iload 4, 2) := by decide +kernel
theorem dX11_lowest_20 : decode cX11_lowest 20 = .ok (.ifCond .ne 7, 3) := by decide +kernel
theorem dX11_lowest_23 : decode cX11_lowest 23 = .ok (.lload_n 0, 1) := by decide +kernel
theorem dX11_lowest_24 : decode cX11_lowest 24 = .ok (.goto 4, 3) := by decide +kernel
theorem dX11_lowest_27 : decode cX11_lowest 27 = .ok (.lload_n 2, 1) := by decide +kernel
theorem dX11_lowest_28 : decode cX11_lowest 28 = .ok (.lload 5, 2) := by decide +kernel
theorem dX11_lowest_30 : decode cX11_lowest 30 = .ok (.ldiv, 1) := by decide +kernel
theorem dX11_lowest_31 : decode cX11_lowest 31 = .ok (.lreturn, 1) := by decide +kernel
theorem dX11_greatestDivisor_0 : decode cX11_greatestDivisor 0 = .ok (.iconst 0, 1) := by decide +kernel
theorem dX11_greatestDivisor_1 : decode cX11_greatestDivisor 1 = .ok (.istore 4, 2) := by decide +kernel
theorem dX11_greatestDivisor_3 : decode cX11_greatestDivisor 3 = .ok (.iload 4, 2) := by decide +kernel
theorem dX11_greatestDivisor_5 : decode cX11_greatestDivisor 5 = .ok (.bipush 100, 2) := by decide +kernel
theorem dX11_greatestDivisor_7 : decode cX11_greatestDivisor 7 = .ok (.if_icmp .ge 25, 3) := by decide +kernel
theorem dX11_greatestDivisor_10 : decode cX11_greatestDivisor 10 = .ok (.lload_n 2, 1) := by decide +kernel
theorem dX11_greatestDivisor_11 : decode cX11_greatestDivisor 11 = .ok (.lconst 0, 1) := by decide +kernel
theorem dX11_greatestDivisor_12 : decode cX11_greatestDivisor 12 = .ok (.lcmp, 1) := by decide +kernel
theorem dX11_greatestDivisor_13 : decode cX11_greatestDivisor 13 = .ok (.ifCond .eq 19, 3) := by decide +kernel
theorem dX11_greatestDivisor_16 : decode cX11_greatestDivisor 16 = .ok (.lload_n 0, 1) := by decide +kernel
theorem dX11_greatestDivisor_17 : decode cX11_greatestDivisor 17 = .ok (.lload_n 2, 1) := by decide +kernel
theorem dX11_greatestDivisor_18 : decode cX11_greatestDivisor 18 = .ok (.lrem, 1) := by decide +kernel
theorem dX11_greatestDivisor_19 : decode cX11_greatestDivisor 19 = .ok (.lstore 5, 2) := by decide +kernel
theorem dX11_greatestDivisor_21 : decode cX11_greatestDivisor 21 = .ok (.lload_n 2, 1) := by decide +kernel
theorem dX11_greatestDivisor_22 : decode cX11_greatestDivisor 22 = .ok (.lstore_n 0, 1) := by decide +kernel
theorem dX11_greatestDivisor_23 : decode cX11_greatestDivisor 23 = .ok (.lload 5, 2) := by decide +kernel
theorem dX11_greatestDivisor_25 : decode cX11_greatestDivisor 25 = .ok (.lstore_n 2, 1) := by decide +kernel
theorem dX11_greatestDivisor_26 : decode cX11_greatestDivisor 26 = .ok (.iinc 4 1, 3) := by decide +kernel
theorem dX11_greatestDivisor_29 : decode cX11_greatestDivisor 29 = .ok (.goto (-26), 3) := by decide +kernel
theorem dX11_greatestDivisor_32 : decode cX11_greatestDivisor 32 = .ok (.lload_n 0, 1) := by decide +kernel
theorem dX11_greatestDivisor_33 : decode cX11_greatestDivisor 33 = .ok (.lreturn, 1) := by decide +kernel
theorem dX11_isOfKind_0 : decode cX11_isOfKind 0 = .ok (.iload_n 1, 1) := by decide +kernel
theorem dX11_isOfKind_1 : decode cX11_isOfKind 1 = .ok (.tableswitch 66 0 5 #[39, 41, 46, 51, 56, 61], 39) := by decide +kernel
theorem dX11_isOfKind_40 : decode cX11_isOfKind 40 = .ok (.iconst 1, 1) := by decide +kernel
theorem dX11_isOfKind_41 : decode cX11_isOfKind 41 = .ok (.ireturn, 1) := by decide +kernel
theorem dX11_isOfKind_42 : decode cX11_isOfKind 42 = .ok (.aload_n 0, 1) := by decide +kernel
theorem dX11_isOfKind_43 : decode cX11_isOfKind 43 = .ok (.instanceof 339, 3) := by decide +kernel
theorem dX11_isOfKind_46 : decode cX11_isOfKind 46 = .ok (.ireturn, 1) := by decide +kernel
theorem dX11_isOfKind_47 : decode cX11_isOfKind 47 = .ok (.aload_n 0, 1) := by decide +kernel
theorem dX11_isOfKind_48 : decode cX11_isOfKind 48 = .ok (.instanceof 341, 3) := by decide +kernel
theorem dX11_isOfKind_51 : decode cX11_isOfKind 51 = .ok (.ireturn, 1) := by decide +kernel
theorem dX11_isOfKind_52 : decode cX11_isOfKind 52 = .ok (.aload_n 0, 1) := by decide +kernel
theorem dX11_isOfKind_53 : decode cX11_isOfKind 53 = .ok (.instanceof 343, 3) := by decide +kernel
theorem dX11_isOfKind_56 : decode cX11_isOfKind 56 = .ok (.ireturn, 1) := by decide +kernel
theorem dX11_isOfKind_57 : decode cX11_isOfKind 57 = .ok (.aload_n 0, 1) := by decide +kernel
theorem dX11_isOfKind_58 : decode cX11_isOfKind 58 = .ok (.instanceof 345, 3) := by decide +kernel
theorem dX11_isOfKind_61 : decode cX11_isOfKind 61 = .ok (.ireturn, 1) := by decide +kernel
theorem dX11_isOfKind_62 : decode cX11_isOfKind 62 = .ok (.aload_n 0, 1) := by decide +kernel
theorem dX11_isOfKind_63 : decode cX11_isOfKind 63 = .ok (.instanceof 347, 3) := by decide +kernel
theorem dX11_isOfKind_66 : decode cX11_isOfKind 66 = .ok (.ireturn, 1) := by decide +kernel
theorem dX11_isOfKind_67 : decode cX11_isOfKind 67 = .ok (.iconst 0, 1) := by decide +kernel
theorem dX11_isOfKind_68 : decode cX11_isOfKind 68 = .ok (.ireturn, 1) := by decide +kernel
theorem dJ9_floorMod_7cf53_0 : decode cJ9_floorMod_7cf53 0 = .ok (.iload_n 0, 1) := by decide +kernel
theorem dJ9_floorMod_7cf53_1 : decode cJ9_floorMod_7cf53 1 = .ok (.iload_n 1, 1) := by decide +kernel
theorem dJ9_floorMod_7cf53_2 : decode cJ9_floorMod_7cf53 2 = .ok (.irem, 1) := by decide +kernel
theorem dJ9_floorMod_7cf53_3 : decode cJ9_floorMod_7cf53 3 = .ok (.istore_n 2, 1) := by decide +kernel
theorem dJ9_floorMod_7cf53_4 : decode cJ9_floorMod_7cf53 4 = .ok (.iload_n 0, 1) := by decide +kernel
theorem dJ9_floorMod_7cf53_5 : decode cJ9_floorMod_7cf53 5 = .ok (.iload_n 1, 1) := by decide +kernel
theorem dJ9_floorMod_7cf53_6 : decode cJ9_floorMod_7cf53 6 = .ok (.ixor, 1) := by decide +kernel
theorem dJ9_floorMod_7cf53_7 : decode cJ9_floorMod_7cf53 7 = .ok (.ifCond .ge 11, 3) := by decide +kernel
theorem dJ9_floorMod_7cf53_10 : decode cJ9_floorMod_7cf53 10 = .ok (.iload_n 2, 1) := by decide +kernel
theorem dJ9_floorMod_7cf53_11 : decode cJ9_floorMod_7cf53 11 = .ok (.ifCond .eq 7, 3) := by decide +kernel
theorem dJ9_floorMod_7cf53_14 : decode cJ9_floorMod_7cf53 14 = .ok (.iload_n 2, 1) := by decide +kernel
theorem dJ9_floorMod_7cf53_15 : decode cJ9_floorMod_7cf53 15 = .ok (.iload_n 1, 1) := by decide +kernel
theorem dJ9_floorMod_7cf53_16 : decode cJ9_floorMod_7cf53 16 = .ok (.iadd, 1) := by decide +kernel
theorem dJ9_floorMod_7cf53_17 : decode cJ9_floorMod_7cf53 17 = .ok (.ireturn, 1) := by decide +kernel
theorem dJ9_floorMod_7cf53_18 : decode cJ9_floorMod_7cf53 18 = .ok (.iload_n 2, 1) := by decide +kernel
theorem dJ9_floorMod_7cf53_19 : decode cJ9_floorMod_7cf53 19 = .ok (.ireturn, 1) := by decide +kernel
theorem dJ9_abs_0f7a4_0 : decode cJ9_abs_0f7a4 0 = .ok (.iload_n 0, 1) := by decide +kernel
theorem dJ9_abs_0f7a4_1 : decode cJ9_abs_0f7a4 1 = .ok (.ifCond .ge 8, 3) := by decide +kernel
theorem dJ9_abs_0f7a4_4 : decode cJ9_abs_0f7a4 4 = .ok (.iload_n 0, 1) := by decide +kernel
theorem dJ9_abs_0f7a4_5 : decode cJ9_abs_0f7a4 5 = .ok (.ineg, 1) := by decide +kernel
theorem dJ9_abs_0f7a4_6 : decode cJ9_abs_0f7a4 6 = .ok (.goto 4, 3) := by decide +kernel
theorem dJ9_abs_0f7a4_9 : decode cJ9_abs_0f7a4 9 = .ok (.iload_n 0, 1) := by decide +kernel
theorem dJ9_abs_0f7a4_10 : decode cJ9_abs_0f7a4 10 = .ok (.ireturn, 1) := by decide +kernel
theorem dJ9_max_7cf53_0 : decode cJ9_max_7cf53 0 = .ok (.iload_n 0, 1) := by decide +kernel
theorem dJ9_max_7cf53_1 : decode cJ9_max_7cf53 1 = .ok (.iload_n 1, 1) := by decide +kernel
theorem dJ9_max_7cf53_2 : decode cJ9_max_7cf53 2 = .ok (.if_icmp .lt 7, 3) := by decide +kernel
theorem dJ9_max_7cf53_5 : decode cJ9_max_7cf53 5 = .ok (.iload_n 0, 1) := by decide +kernel
theorem dJ9_max_7cf53_6 : decode cJ9_max_7cf53 6 = .ok (.goto 4, 3) := by decide +kernel
theorem dJ9_max_7cf53_9 : decode cJ9_max_7cf53 9 = .ok (.iload_n 1, 1) := by decide +kernel
theorem dJ9_max_7cf53_10 : decode cJ9_max_7cf53 10 = .ok (.ireturn, 1) := by decide +kernel
theorem dJ9_min_7cf53_0 : decode cJ9_min_7cf53 0 = .ok (.iload_n 0, 1) := by decide +kernel
theorem dJ9_min_7cf53_1 : decode cJ9_min_7cf53 1 = .ok (.iload_n 1, 1) := by decide +kernel
theorem dJ9_min_7cf53_2 : decode cJ9_min_7cf53 2 = .ok (.if_icmp .gt 7, 3) := by decide +kernel
theorem dJ9_min_7cf53_5 : decode cJ9_min_7cf53 5 = .ok (.iload_n 0, 1) := by decide +kernel
theorem dJ9_min_7cf53_6 : decode cJ9_min_7cf53 6 = .ok (.goto 4, 3) := by decide +kernel
theorem dJ9_min_7cf53_9 : decode cJ9_min_7cf53 9 = .ok (.iload_n 1, 1) := by decide +kernel
theorem dJ9_min_7cf53_10 : decode cJ9_min_7cf53 10 = .ok (.ireturn, 1) := by decide +kernel
