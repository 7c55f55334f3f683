theorem dX12_init_0 : decode cX12_init 0 = .ok (.aload_n 0, 1) := by decide +kernel
theorem dX12_init_1 : decode cX12_init 1 = .ok (.invokespecial 1, 3) := by decide +kernel
theorem dX12_init_4 : decode cX12_init 4 = .ok (.aload_n 0, 1) := by decide +kernel
theorem dX12_init_5 : decode cX12_init 5 = .ok (.bipush 8, 2) := by decide +kernel
theorem dX12_init_7 : decode cX12_init 7 = .ok (.newarray .int, 2) := by decide +kernel
theorem dX12_init_9 : decode cX12_init 9 = .ok (.dup, 1) := by decide +kernel
theorem dX12_init_10 : decode cX12_init 10 = .ok (.iconst 0, 1) := by decide +kernel
theorem dX12_init_11 : decode cX12_init 11 = .ok (.iconst (-1), 1) := by decide +kernel
theorem dX12_init_12 : decode cX12_init 12 = .ok (.iastore, 1) := by decide +kernel
theorem dX12_init_13 : decode cX12_init 13 = .ok (.dup, 1) := by decide +kernel
theorem dX12_init_14 : decode cX12_init 14 = .ok (.iconst 1, 1) := by decide +kernel
theorem dX12_init_15 : decode cX12_init 15 = .ok (.iconst (-1), 1) := by decide +kernel
theorem dX12_init_16 : decode cX12_init 16 = .ok (.iastore, 1) := by decide +kernel
theorem dX12_init_17 : decode cX12_init 17 = .ok (.dup, 1) := by decide +kernel
theorem dX12_init_18 : decode cX12_init 18 = .ok (.iconst 2, 1) := by decide +kernel
theorem dX12_init_19 : decode cX12_init 19 = .ok (.iconst (-1), 1) := by decide +kernel
theorem dX12_init_20 : decode cX12_init 20 = .ok (.iastore, 1) := by decide +kernel
theorem dX12_init_21 : decode cX12_init 21 = .ok (.dup, 1) := by decide +kernel
theorem dX12_init_22 : decode cX12_init 22 = .ok (.iconst 3, 1) := by decide +kernel
theorem dX12_init_23 : decode cX12_init 23 = .ok (.iconst (-1), 1) := by decide +kernel
theorem dX12_init_24 : decode cX12_init 24 = .ok (.iastore, 1) := by decide +kernel
theorem dX12_init_25 : decode cX12_init 25 = .ok (.dup, 1) := by decide +kernel
theorem dX12_init_26 : decode cX12_init 26 = .ok (.iconst 4, 1) := by decide +kernel
theorem dX12_init_27 : decode cX12_init 27 = .ok (.iconst (-1), 1) := by decide +kernel
theorem dX12_init_28 : decode cX12_init 28 = .ok (.iastore, 1) := by decide +kernel
theorem dX12_init_29 : decode cX12_init 29 = .ok (.dup, 1) := by decide +kernel
theorem dX12_init_30 : decode cX12_init 30 = .ok (.iconst 5, 1) := by decide +kernel
theorem dX12_init_31 : decode cX12_init 31 = .ok (.iconst (-1), 1) := by decide +kernel
theorem dX12_init_32 : decode cX12_init 32 = .ok (.iastore, 1) := by decide +kernel
theorem dX12_init_33 : decode cX12_init 33 = .ok (.dup, 1) := by decide +kernel
theorem dX12_init_34 : decode cX12_init 34 = .ok (.bipush 6, 2) := by decide +kernel
theorem dX12_init_36 : decode cX12_init 36 = .ok (.iconst (-1), 1) := by decide +kernel
theorem dX12_init_37 : decode cX12_init 37 = .ok (.iastore, 1) := by decide +kernel
theorem dX12_init_38 : decode cX12_init 38 = .ok (.dup, 1) := by decide +kernel
theorem dX12_init_39 : decode cX12_init 39 = .ok (.bipush 7, 2) := by decide +kernel
theorem dX12_init_41 : decode cX12_init 41 = .ok (.iconst (-1), 1) := by decide +kernel
theorem dX12_init_42 : decode cX12_init 42 = .ok (.iastore, 1) := by decide +kernel
theorem dX12_init_43 : decode cX12_init 43 = .ok (.putfield 7, 3) := by decide +kernel
theorem dX12_init_46 : decode cX12_init 46 = .ok (.aload_n 0, 1) := by decide +kernel
theorem dX12_init_47 : decode cX12_init 47 = .ok (.bipush 8, 2) := by decide +kernel
theorem dX12_init_49 : decode cX12_init 49 = .ok (.newarray .int, 2) := by decide +kernel
theorem dX12_init_51 : decode cX12_init 51 = .ok (.putfield 13, 3) := by decide +kernel
theorem dX12_init_54 : decode cX12_init 54 = .ok (.aload_n 0, 1) := by decide +kernel
theorem dX12_init_55 : decode cX12_init 55 = .ok (.sipush 320, 3) := by decide +kernel
theorem dX12_init_58 : decode cX12_init 58 = .ok (.newarray .int, 2) := by decide +kernel
theorem dX12_init_60 : decode cX12_init 60 = .ok (.putfield 16, 3) := by decide +kernel
theorem dX12_init_63 : decode cX12_init 63 = .ok (.aload_n 0, 1) := by decide +kernel
theorem dX12_init_64 : decode cX12_init 64 = .ok (.bipush 48, 2) := by decide +kernel
theorem dX12_init_66 : decode cX12_init 66 = .ok (.newarray .int, 2) := by decide +kernel
theorem dX12_init_68 : decode cX12_init 68 = .ok (.putfield 19, 3) := by decide +kernel
theorem dX12_init_71 : decode cX12_init 71 = .ok (.aload_n 0, 1) := by decide +kernel
theorem dX12_init_72 : decode cX12_init 72 = .ok (.bipush 48, 2) := by decide +kernel
theorem dX12_init_74 : decode cX12_init 74 = .ok (.newarray .int, 2) := by decide +kernel
theorem dX12_init_76 : decode cX12_init 76 = .ok (.putfield 22, 3) := by decide +kernel
theorem dX12_init_79 : decode cX12_init 79 = .ok (.aload_n 0, 1) := by decide +kernel
theorem dX12_init_80 : decode cX12_init 80 = .ok (.bipush 13, 2) := by decide +kernel
theorem dX12_init_82 : decode cX12_init 82 = .ok (.newarray .long, 2) := by decide +kernel
theorem dX12_init_84 : decode cX12_init 84 = .ok (.putfield 25, 3) := by decide +kernel
theorem dX12_init_87 : decode cX12_init 87 = .ok (.aload_n 0, 1) := by decide +kernel
theorem dX12_init_88 : decode cX12_init 88 = .ok (.sipush 1152, 3) := by decide +kernel
theorem dX12_init_91 : decode cX12_init 91 = .ok (.newarray .int, 2) := by decide +kernel
theorem dX12_init_93 : decode cX12_init 93 = .ok (.putfield 29, 3) := by decide +kernel
theorem dX12_init_96 : decode cX12_init 96 = .ok (.aload_n 0, 1) := by decide +kernel
theorem dX12_init_97 : decode cX12_init 97 = .ok (.sipush 312, 3) := by decide +kernel
theorem dX12_init_100 : decode cX12_init 100 = .ok (.newarray .long, 2) := by decide +kernel
theorem dX12_init_102 : decode cX12_init 102 = .ok (.putfield 32, 3) := by decide +kernel
theorem dX12_init_105 : decode cX12_init 105 = .ok (.aload_n 0, 1) := by decide +kernel
theorem dX12_init_106 : decode cX12_init 106 = .ok (.bipush 120, 2) := by decide +kernel
theorem dX12_init_108 : decode cX12_init 108 = .ok (.newarray .int, 2) := by decide +kernel
theorem dX12_init_110 : decode cX12_init 110 = .ok (.putfield 35, 3) := by decide +kernel
theorem dX12_init_113 : decode cX12_init 113 = .ok (.aload_n 0, 1) := by decide +kernel
theorem dX12_init_114 : decode cX12_init 114 = .ok (.bipush 13, 2) := by decide +kernel
theorem dX12_init_116 : decode cX12_init 116 = .ok (.newarray .long, 2) := by decide +kernel
theorem dX12_init_118 : decode cX12_init 118 = .ok (.putfield 38, 3) := by decide +kernel
theorem dX12_init_121 : decode cX12_init 121 = .ok (.aload_n 0, 1) := by decide +kernel
theorem dX12_init_122 : decode cX12_init 122 = .ok (.iconst 2, 1) := by decide +kernel
theorem dX12_init_123 : decode cX12_init 123 = .ok (.newarray .boolean, 2) := by decide +kernel
theorem dX12_init_125 : decode cX12_init 125 = .ok (.putfield 41, 3) := by decide +kernel
theorem dX12_init_128 : decode cX12_init 128 = .ok (.aload_n 0, 1) := by decide +kernel
theorem dX12_init_129 : decode cX12_init 129 = .ok (.bipush 96, 2) := by decide +kernel
theorem dX12_init_131 : decode cX12_init 131 = .ok (.newarray .int, 2) := by decide +kernel
theorem dX12_init_133 : decode cX12_init 133 = .ok (.putfield 45, 3) := by decide +kernel
theorem dX12_init_136 : decode cX12_init 136 = .ok (.aload_n 0, 1) := by decide +kernel
theorem dX12_init_137 : decode cX12_init 137 = .ok (.bipush 26, 2) := by decide +kernel
theorem dX12_init_139 : decode cX12_init 139 = .ok (.newarray .long, 2) := by decide +kernel
theorem dX12_init_141 : decode cX12_init 141 = .ok (.putfield 48, 3) := by decide +kernel
theorem dX12_init_144 : decode cX12_init 144 = .ok (.aload_n 0, 1) := by decide +kernel
theorem dX12_init_145 : decode cX12_init 145 = .ok (.bipush 16, 2) := by decide +kernel
theorem dX12_init_147 : decode cX12_init 147 = .ok (.newarray .int, 2) := by decide +kernel
theorem dX12_init_149 : decode cX12_init 149 = .ok (.putfield 51, 3) := by decide +kernel
theorem dX12_init_152 : decode cX12_init 152 = .ok (.return_, 1) := by decide +kernel
theorem dX12_in_0 : decode cX12_in 0 = .ok (.lload_n 0, 1) := by decide +kernel
theorem dX12_in_1 : decode cX12_in 1 = .ok (.lload_n 2, 1) := by decide +kernel
theorem dX12_in_2 : decode cX12_in 2 = .ok (.lcmp, 1) := by decide +kernel
theorem dX12_in_3 : decode cX12_in 3 = .ok (.ifCond .lt 14, 3) := by decide +kernel
theorem dX12_in_6 : decode cX12_in 6 = .ok (.lload_n 0, 1) := by decide +kernel
theorem dX12_in_7 : decode cX12_in 7 = .ok (.lload 4, 2) := by decide +kernel
theorem dX12_in_9 : decode cX12_in 9 = .ok (.lcmp, 1) := by decide +kernel
theorem dX12_in_10 : decode cX12_in 10 = .ok (.ifCond .gt 7, 3) := by decide +kernel
theorem dX12_in_13 : decode cX12_in 13 = .ok (.iconst 1, 1) := by decide +kernel
theorem dX12_in_14 : decode cX12_in 14 = .ok (.goto 4, 3) := by decide +kernel
theorem dX12_in_17 : decode cX12_in 17 = .ok (.iconst 0, 1) := by decide +kernel
theorem dX12_in_18 : decode cX12_in 18 = .ok (.ireturn, 1) := by decide +kernel
theorem dX12_finding_0 : decode cX12_finding 0 = .ok (.aload_n 0, 1) := by decide +kernel
theorem dX12_finding_1 : decode cX12_finding 1 = .ok (.iload_n 1, 1) := by decide +kernel
theorem dX12_finding_2 : decode cX12_finding 2 = .ok (.putfield 58, 3) := by decide +kernel
theorem dX12_finding_5 : decode cX12_finding 5 = .ok (.ldc 61, 2) := by decide +kernel
theorem dX12_finding_7 : decode cX12_finding 7 = .ok (.iload_n 1, 1) := by decide +kernel
theorem dX12_finding_8 : decode cX12_finding 8 = .ok (.isub, 1) := by decide +kernel
theorem dX12_finding_9 : decode cX12_finding 9 = .ok (.ireturn, 1) := by decide +kernel
theorem dX12_isRow_0 : decode cX12_isRow 0 = .ok (.iload_n 0, 1) := by decide +kernel
theorem dX12_isRow_1 : decode cX12_isRow 1 = .ok (.i2l, 1) := by decide +kernel
theorem dX12_isRow_2 : decode cX12_isRow 2 = .ok (.lconst 0, 1) := by decide +kernel
theorem dX12_isRow_3 : decode cX12_isRow 3 = .ok (.ldc2_w 62, 3) := by decide +kernel
theorem dX12_isRow_6 : decode cX12_isRow 6 = .ok (.invokestatic 64, 3) := by decide +kernel
theorem dX12_isRow_9 : decode cX12_isRow 9 = .ok (.ireturn, 1) := by decide +kernel
theorem dX12_row_0 : decode cX12_row 0 = .ok (.aload_n 0, 1) := by decide +kernel
theorem dX12_row_1 : decode cX12_row 1 = .ok (.iconst 0, 1) := by decide +kernel
theorem dX12_row_2 : decode cX12_row 2 = .ok (.putfield 54, 3) := by decide +kernel
theorem dX12_row_5 : decode cX12_row 5 = .ok (.iload_n 1, 1) := by decide +kernel
theorem dX12_row_6 : decode cX12_row 6 = .ok (.invokestatic 68, 3) := by decide +kernel
theorem dX12_row_9 : decode cX12_row 9 = .ok (.ifCond .eq 21, 3) := by decide +kernel
theorem dX12_row_12 : decode cX12_row 12 = .ok (.iload_n 2, 1) := by decide +kernel
theorem dX12_row_13 : decode cX12_row 13 = .ok (.i2l, 1) := by decide +kernel
theorem dX12_row_14 : decode cX12_row 14 = .ok (.lconst 0, 1) := by decide +kernel
theorem dX12_row_15 : decode cX12_row 15 = .ok (.ldc2_w 72, 3) := by decide +kernel
theorem dX12_row_18 : decode cX12_row 18 = .ok (.invokestatic 64, 3) := by decide +kernel
theorem dX12_row_21 : decode cX12_row 21 = .ok (.ifCond .eq 9, 3) := by decide +kernel
theorem dX12_row_24 : decode cX12_row 24 = .ok (.iload_n 3, 1) := by decide +kernel
theorem dX12_row_25 : decode cX12_row 25 = .ok (.bipush 40, 2) := by decide +kernel
theorem dX12_row_27 : decode cX12_row 27 = .ok (.if_icmp .le 6, 3) := by decide +kernel
theorem dX12_row_30 : decode cX12_row 30 = .ok (.ldc 74, 2) := by decide +kernel
theorem dX12_row_32 : decode cX12_row 32 = .ok (.ireturn, 1) := by decide +kernel
theorem dX12_row_33 : decode cX12_row 33 = .ok (.aload_n 0, 1) := by decide +kernel
theorem dX12_row_34 : decode cX12_row 34 = .ok (.iconst 0, 1) := by decide +kernel
theorem dX12_row_35 : decode cX12_row 35 = .ok (.putfield 58, 3) := by decide +kernel
theorem dX12_row_38 : decode cX12_row 38 = .ok (.iload_n 3, 1) := by decide +kernel
theorem dX12_row_39 : decode cX12_row 39 = .ok (.ifCond .ge 9, 3) := by decide +kernel
theorem dX12_row_42 : decode cX12_row 42 = .ok (.aload_n 0, 1) := by decide +kernel
theorem dX12_row_43 : decode cX12_row 43 = .ok (.iconst 4, 1) := by decide +kernel
theorem dX12_row_44 : decode cX12_row 44 = .ok (.invokevirtual 75, 3) := by decide +kernel
theorem dX12_row_47 : decode cX12_row 47 = .ok (.ireturn, 1) := by decide +kernel
theorem dX12_row_48 : decode cX12_row 48 = .ok (.aload_n 0, 1) := by decide +kernel
theorem dX12_row_49 : decode cX12_row 49 = .ok (.getfield 7, 3) := by decide +kernel
theorem dX12_row_52 : decode cX12_row 52 = .ok (.iload_n 1, 1) := by decide +kernel
theorem dX12_row_53 : decode cX12_row 53 = .ok (.iload_n 2, 1) := by decide +kernel
theorem dX12_row_54 : decode cX12_row 54 = .ok (.iastore, 1) := by decide +kernel
theorem dX12_row_55 : decode cX12_row 55 = .ok (.aload_n 0, 1) := by decide +kernel
theorem dX12_row_56 : decode cX12_row 56 = .ok (.getfield 13, 3) := by decide +kernel
theorem dX12_row_59 : decode cX12_row 59 = .ok (.iload_n 1, 1) := by decide +kernel
theorem dX12_row_60 : decode cX12_row 60 = .ok (.iload_n 3, 1) := by decide +kernel
theorem dX12_row_61 : decode cX12_row 61 = .ok (.iastore, 1) := by decide +kernel
theorem dX12_row_62 : decode cX12_row 62 = .ok (.iconst 0, 1) := by decide +kernel
theorem dX12_row_63 : decode cX12_row 63 = .ok (.istore 4, 2) := by decide +kernel
theorem dX12_row_65 : decode cX12_row 65 = .ok (.iload 4, 2) := by decide +kernel
theorem dX12_row_67 : decode cX12_row 67 = .ok (.bipush 40, 2) := by decide +kernel
theorem dX12_row_69 : decode cX12_row 69 = .ok (.if_icmp .ge 22, 3) := by decide +kernel
theorem dX12_row_72 : decode cX12_row 72 = .ok (.aload_n 0, 1) := by decide +kernel
theorem dX12_row_73 : decode cX12_row 73 = .ok (.getfield 16, 3) := by decide +kernel
theorem dX12_row_76 : decode cX12_row 76 = .ok (.bipush 40, 2) := by decide +kernel
theorem dX12_row_78 : decode cX12_row 78 = .ok (.iload_n 1, 1) := by decide +kernel
theorem dX12_row_79 : decode cX12_row 79 = .ok (.imul, 1) := by decide +kernel
theorem dX12_row_80 : decode cX12_row 80 = .ok (.iload 4, 2) := by decide +kernel
theorem dX12_row_82 : decode cX12_row 82 = .ok (.iadd, 1) := by decide +kernel
theorem dX12_row_83 : decode cX12_row 83 = .ok (.iconst 0, 1) := by decide +kernel
theorem dX12_row_84 : decode cX12_row 84 = .ok (.iastore, 1) := by decide +kernel
theorem dX12_row_85 : decode cX12_row 85 = .ok (.iinc 4 1, 3) := by decide +kernel
theorem dX12_row_88 : decode cX12_row 88 = .ok (.goto (-23), 3) := by decide +kernel
theorem dX12_row_91 : decode cX12_row 91 = .ok (.iload_n 3, 1) := by decide +kernel
theorem dX12_row_92 : decode cX12_row 92 = .ok (.ireturn, 1) := by decide +kernel
theorem dX12_set_0 : decode cX12_set 0 = .ok (.aload_n 0, 1) := by decide +kernel
theorem dX12_set_1 : decode cX12_set 1 = .ok (.iconst 0, 1) := by decide +kernel
theorem dX12_set_2 : decode cX12_set 2 = .ok (.putfield 54, 3) := by decide +kernel
theorem dX12_set_5 : decode cX12_set 5 = .ok (.iload_n 1, 1) := by decide +kernel
theorem dX12_set_6 : decode cX12_set 6 = .ok (.invokestatic 68, 3) := by decide +kernel
theorem dX12_set_9 : decode cX12_set 9 = .ok (.ifCond .ne 6, 3) := by decide +kernel
theorem dX12_set_12 : decode cX12_set 12 = .ok (.ldc 74, 2) := by decide +kernel
theorem dX12_set_14 : decode cX12_set 14 = .ok (.ireturn, 1) := by decide +kernel
theorem dX12_set_15 : decode cX12_set 15 = .ok (.aload_n 0, 1) := by decide +kernel
theorem dX12_set_16 : decode cX12_set 16 = .ok (.iconst 0, 1) := by decide +kernel
theorem dX12_set_17 : decode cX12_set 17 = .ok (.putfield 58, 3) := by decide +kernel
theorem dX12_set_20 : decode cX12_set 20 = .ok (.aload_n 0, 1) := by decide +kernel
theorem dX12_set_21 : decode cX12_set 21 = .ok (.getfield 7, 3) := by decide +kernel
theorem dX12_set_24 : decode cX12_set 24 = .ok (.iload_n 1, 1) := by decide +kernel
theorem dX12_set_25 : decode cX12_set 25 = .ok (.iaload, 1) := by decide +kernel
theorem dX12_set_26 : decode cX12_set 26 = .ok (.ifCond .ge 9, 3) := by decide +kernel
theorem dX12_set_29 : decode cX12_set 29 = .ok (.aload_n 0, 1) := by decide +kernel
theorem dX12_set_30 : decode cX12_set 30 = .ok (.iconst 1, 1) := by decide +kernel
theorem dX12_set_31 : decode cX12_set 31 = .ok (.invokevirtual 75, 3) := by decide +kernel
theorem dX12_set_34 : decode cX12_set 34 = .ok (.ireturn, 1) := by decide +kernel
theorem dX12_set_35 : decode cX12_set 35 = .ok (.iload_n 2, 1) := by decide +kernel
theorem dX12_set_36 : decode cX12_set 36 = .ok (.i2l, 1) := by decide +kernel
theorem dX12_set_37 : decode cX12_set 37 = .ok (.lconst 0, 1) := by decide +kernel
theorem dX12_set_38 : decode cX12_set 38 = .ok (.aload_n 0, 1) := by decide +kernel
theorem dX12_set_39 : decode cX12_set 39 = .ok (.getfield 13, 3) := by decide +kernel
theorem dX12_set_42 : decode cX12_set 42 = .ok (.iload_n 1, 1) := by decide +kernel
theorem dX12_set_43 : decode cX12_set 43 = .ok (.iaload, 1) := by decide +kernel
theorem dX12_set_44 : decode cX12_set 44 = .ok (.iconst 1, 1) := by decide +kernel
theorem dX12_set_45 : decode cX12_set 45 = .ok (.isub, 1) := by decide +kernel
theorem dX12_set_46 : decode cX12_set 46 = .ok (.i2l, 1) := by decide +kernel
theorem dX12_set_47 : decode cX12_set 47 = .ok (.invokestatic 64, 3) := by decide +kernel
theorem dX12_set_50 : decode cX12_set 50 = .ok (.ifCond .ne 9, 3) := by decide +kernel
theorem dX12_set_53 : decode cX12_set 53 = .ok (.aload_n 0, 1) := by decide +kernel
theorem dX12_set_54 : decode cX12_set 54 = .ok (.iconst 2, 1) := by decide +kernel
theorem dX12_set_55 : decode cX12_set 55 = .ok (.invokevirtual 75, 3) := by decide +kernel
theorem dX12_set_58 : decode cX12_set 58 = .ok (.ireturn, 1) := by decide +kernel
theorem dX12_set_59 : decode cX12_set 59 = .ok (.aload_n 0, 1) := by decide +kernel
theorem dX12_set_60 : decode cX12_set 60 = .ok (.getfield 16, 3) := by decide +kernel
theorem dX12_set_63 : decode cX12_set 63 = .ok (.bipush 40, 2) := by decide +kernel
theorem dX12_set_65 : decode cX12_set 65 = .ok (.iload_n 1, 1) := by decide +kernel
theorem dX12_set_66 : decode cX12_set 66 = .ok (.imul, 1) := by decide +kernel
theorem dX12_set_67 : decode cX12_set 67 = .ok (.iload_n 2, 1) := by decide +kernel
theorem dX12_set_68 : decode cX12_set 68 = .ok (.iadd, 1) := by decide +kernel
theorem dX12_set_69 : decode cX12_set 69 = .ok (.aload_n 0, 1) := by decide +kernel
theorem dX12_set_70 : decode cX12_set 70 = .ok (.getfield 7, 3) := by decide +kernel
theorem dX12_set_73 : decode cX12_set 73 = .ok (.iload_n 1, 1) := by decide +kernel
theorem dX12_set_74 : decode cX12_set 74 = .ok (.iaload, 1) := by decide +kernel
theorem dX12_set_75 : decode cX12_set 75 = .ok (.ifCond .ne 8, 3) := by decide +kernel
theorem dX12_set_78 : decode cX12_set 78 = .ok (.iload_n 3, 1) := by decide +kernel
theorem dX12_set_79 : decode cX12_set 79 = .ok (.i2b, 1) := by decide +kernel
theorem dX12_set_80 : decode cX12_set 80 = .ok (.goto 19, 3) := by decide +kernel
theorem dX12_set_83 : decode cX12_set 83 = .ok (.aload_n 0, 1) := by decide +kernel
theorem dX12_set_84 : decode cX12_set 84 = .ok (.getfield 7, 3) := by decide +kernel
theorem dX12_set_87 : decode cX12_set 87 = .ok (.iload_n 1, 1) := by decide +kernel
theorem dX12_set_88 : decode cX12_set 88 = .ok (.iaload, 1) := by decide +kernel
theorem dX12_set_89 : decode cX12_set 89 = .ok (.iconst 1, 1) := by decide +kernel
theorem dX12_set_90 : decode cX12_set 90 = .ok (.if_icmp .ne 8, 3) := by decide +kernel
theorem dX12_set_93 : decode cX12_set 93 = .ok (.iload_n 3, 1) := by decide +kernel
theorem dX12_set_94 : decode cX12_set 94 = .ok (.i2s, 1) := by decide +kernel
theorem dX12_set_95 : decode cX12_set 95 = .ok (.goto 4, 3) := by decide +kernel
theorem dX12_set_98 : decode cX12_set 98 = .ok (.iload_n 3, 1) := by decide +kernel
theorem dX12_set_99 : decode cX12_set 99 = .ok (.iastore, 1) := by decide +kernel
theorem dX12_set_100 : decode cX12_set 100 = .ok (.aload_n 0, 1) := by decide +kernel
theorem dX12_set_101 : decode cX12_set 101 = .ok (.getfield 16, 3) := by decide +kernel
theorem dX12_set_104 : decode cX12_set 104 = .ok (.bipush 40, 2) := by decide +kernel
theorem dX12_set_106 : decode cX12_set 106 = .ok (.iload_n 1, 1) := by decide +kernel
theorem dX12_set_107 : decode cX12_set 107 = .ok (.imul, 1) := by decide +kernel
theorem dX12_set_108 : decode cX12_set 108 = .ok (.iload_n 2, 1) := by decide +kernel
theorem dX12_set_109 : decode cX12_set 109 = .ok (.iadd, 1) := by decide +kernel
theorem dX12_set_110 : decode cX12_set 110 = .ok (.iaload, 1) := by decide +kernel
theorem dX12_set_111 : decode cX12_set 111 = .ok (.ireturn, 1) := by decide +kernel
theorem dX12_copy_0 : decode cX12_copy 0 = .ok (.aload_n 0, 1) := by decide +kernel
theorem dX12_copy_1 : decode cX12_copy 1 = .ok (.iconst 0, 1) := by decide +kernel
theorem dX12_copy_2 : decode cX12_copy 2 = .ok (.putfield 54, 3) := by decide +kernel
theorem dX12_copy_5 : decode cX12_copy 5 = .ok (.iload_n 1, 1) := by decide +kernel
theorem dX12_copy_6 : decode cX12_copy 6 = .ok (.invokestatic 68, 3) := by decide +kernel
theorem dX12_copy_9 : decode cX12_copy 9 = .ok (.ifCond .eq 10, 3) := by decide +kernel
theorem dX12_copy_12 : decode cX12_copy 12 = .ok (.iload_n 3, 1) := by decide +kernel
theorem dX12_copy_13 : decode cX12_copy 13 = .ok (.invokestatic 68, 3) := by decide +kernel
theorem dX12_copy_16 : decode cX12_copy 16 = .ok (.ifCond .ne 6, 3) := by decide +kernel
theorem dX12_copy_19 : decode cX12_copy 19 = .ok (.ldc 74, 2) := by decide +kernel
theorem dX12_copy_21 : decode cX12_copy 21 = .ok (.ireturn, 1) := by decide +kernel
theorem dX12_copy_22 : decode cX12_copy 22 = .ok (.aload_n 0, 1) := by decide +kernel
theorem dX12_copy_23 : decode cX12_copy 23 = .ok (.iconst 0, 1) := by decide +kernel
theorem dX12_copy_24 : decode cX12_copy 24 = .ok (.putfield 58, 3) := by decide +kernel
theorem dX12_copy_27 : decode cX12_copy 27 = .ok (.aload_n 0, 1) := by decide +kernel
theorem dX12_copy_28 : decode cX12_copy 28 = .ok (.getfield 7, 3) := by decide +kernel
theorem dX12_copy_31 : decode cX12_copy 31 = .ok (.iload_n 1, 1) := by decide +kernel
theorem dX12_copy_32 : decode cX12_copy 32 = .ok (.iaload, 1) := by decide +kernel
theorem dX12_copy_33 : decode cX12_copy 33 = .ok (.ifCond .lt 12, 3) := by decide +kernel
theorem dX12_copy_36 : decode cX12_copy 36 = .ok (.aload_n 0, 1) := by decide +kernel
theorem dX12_copy_37 : decode cX12_copy 37 = .ok (.getfield 7, 3) := by decide +kernel
theorem dX12_copy_40 : decode cX12_copy 40 = .ok (.iload_n 3, 1) := by decide +kernel
theorem dX12_copy_41 : decode cX12_copy 41 = .ok (.iaload, 1) := by decide +kernel
theorem dX12_copy_42 : decode cX12_copy 42 = .ok (.ifCond .ge 9, 3) := by decide +kernel
theorem dX12_copy_45 : decode cX12_copy 45 = .ok (.aload_n 0, 1) := by decide +kernel
theorem dX12_copy_46 : decode cX12_copy 46 = .ok (.iconst 1, 1) := by decide +kernel
theorem dX12_copy_47 : decode cX12_copy 47 = .ok (.invokevirtual 75, 3) := by decide +kernel
theorem dX12_copy_50 : decode cX12_copy 50 = .ok (.ireturn, 1) := by decide +kernel
theorem dX12_copy_51 : decode cX12_copy 51 = .ok (.aload_n 0, 1) := by decide +kernel
theorem dX12_copy_52 : decode cX12_copy 52 = .ok (.getfield 7, 3) := by decide +kernel
theorem dX12_copy_55 : decode cX12_copy 55 = .ok (.iload_n 1, 1) := by decide +kernel
theorem dX12_copy_56 : decode cX12_copy 56 = .ok (.iaload, 1) := by decide +kernel
theorem dX12_copy_57 : decode cX12_copy 57 = .ok (.aload_n 0, 1) := by decide +kernel
theorem dX12_copy_58 : decode cX12_copy 58 = .ok (.getfield 7, 3) := by decide +kernel
theorem dX12_copy_61 : decode cX12_copy 61 = .ok (.iload_n 3, 1) := by decide +kernel
theorem dX12_copy_62 : decode cX12_copy 62 = .ok (.iaload, 1) := by decide +kernel
theorem dX12_copy_63 : decode cX12_copy 63 = .ok (.if_icmp .eq 9, 3) := by decide +kernel
theorem dX12_copy_66 : decode cX12_copy 66 = .ok (.aload_n 0, 1) := by decide +kernel
theorem dX12_copy_67 : decode cX12_copy 67 = .ok (.iconst 5, 1) := by decide +kernel
theorem dX12_copy_68 : decode cX12_copy 68 = .ok (.invokevirtual 75, 3) := by decide +kernel
theorem dX12_copy_71 : decode cX12_copy 71 = .ok (.ireturn, 1) := by decide +kernel
theorem dX12_copy_72 : decode cX12_copy 72 = .ok (.iload_n 2, 1) := by decide +kernel
theorem dX12_copy_73 : decode cX12_copy 73 = .ok (.ifCond .lt 48, 3) := by decide +kernel
theorem dX12_copy_76 : decode cX12_copy 76 = .ok (.iload 4, 2) := by decide +kernel
theorem dX12_copy_78 : decode cX12_copy 78 = .ok (.ifCond .lt 43, 3) := by decide +kernel
theorem dX12_copy_81 : decode cX12_copy 81 = .ok (.iload 5, 2) := by decide +kernel
theorem dX12_copy_83 : decode cX12_copy 83 = .ok (.ifCond .lt 38, 3) := by decide +kernel
theorem dX12_copy_86 : decode cX12_copy 86 = .ok (.iload_n 2, 1) := by decide +kernel
theorem dX12_copy_87 : decode cX12_copy 87 = .ok (.i2l, 1) := by decide +kernel
theorem dX12_copy_88 : decode cX12_copy 88 = .ok (.iload 5, 2) := by decide +kernel
theorem dX12_copy_90 : decode cX12_copy 90 = .ok (.i2l, 1) := by decide +kernel
theorem dX12_copy_91 : decode cX12_copy 91 = .ok (.ladd, 1) := by decide +kernel
theorem dX12_copy_92 : decode cX12_copy 92 = .ok (.aload_n 0, 1) := by decide +kernel
theorem dX12_copy_93 : decode cX12_copy 93 = .ok (.getfield 13, 3) := by decide +kernel
theorem dX12_copy_96 : decode cX12_copy 96 = .ok (.iload_n 1, 1) := by decide +kernel
theorem dX12_copy_97 : decode cX12_copy 97 = .ok (.iaload, 1) := by decide +kernel
theorem dX12_copy_98 : decode cX12_copy 98 = .ok (.i2l, 1) := by decide +kernel
theorem dX12_copy_99 : decode cX12_copy 99 = .ok (.lcmp, 1) := by decide +kernel
theorem dX12_copy_100 : decode cX12_copy 100 = .ok (.ifCond .gt 21, 3) := by decide +kernel
theorem dX12_copy_103 : decode cX12_copy 103 = .ok (.iload 4, 2) := by decide +kernel
theorem dX12_copy_105 : decode cX12_copy 105 = .ok (.i2l, 1) := by decide +kernel
theorem dX12_copy_106 : decode cX12_copy 106 = .ok (.iload 5, 2) := by decide +kernel
theorem dX12_copy_108 : decode cX12_copy 108 = .ok (.i2l, 1) := by decide +kernel
theorem dX12_copy_109 : decode cX12_copy 109 = .ok (.ladd, 1) := by decide +kernel
theorem dX12_copy_110 : decode cX12_copy 110 = .ok (.aload_n 0, 1) := by decide +kernel
theorem dX12_copy_111 : decode cX12_copy 111 = .ok (.getfield 13, 3) := by decide +kernel
theorem dX12_copy_114 : decode cX12_copy 114 = .ok (.iload_n 3, 1) := by decide +kernel
theorem dX12_copy_115 : decode cX12_copy 115 = .ok (.iaload, 1) := by decide +kernel
theorem dX12_copy_116 : decode cX12_copy 116 = .ok (.i2l, 1) := by decide +kernel
theorem dX12_copy_117 : decode cX12_copy 117 = .ok (.lcmp, 1) := by decide +kernel
theorem dX12_copy_118 : decode cX12_copy 118 = .ok (.ifCond .le 9, 3) := by decide +kernel
theorem dX12_copy_121 : decode cX12_copy 121 = .ok (.aload_n 0, 1) := by decide +kernel
theorem dX12_copy_122 : decode cX12_copy 122 = .ok (.iconst 2, 1) := by decide +kernel
theorem dX12_copy_123 : decode cX12_copy 123 = .ok (.invokevirtual 75, 3) := by decide +kernel
theorem dX12_copy_126 : decode cX12_copy 126 = .ok (.ireturn, 1) := by decide +kernel
theorem dX12_copy_127 : decode cX12_copy 127 = .ok (.iload_n 2, 1) := by decide +kernel
theorem dX12_copy_128 : decode cX12_copy 128 = .ok (.iload 4, 2) := by decide +kernel
theorem dX12_copy_130 : decode cX12_copy 130 = .ok (.if_icmp .lt 7, 3) := by decide +kernel
theorem dX12_copy_133 : decode cX12_copy 133 = .ok (.iconst 1, 1) := by decide +kernel
theorem dX12_copy_134 : decode cX12_copy 134 = .ok (.goto 4, 3) := by decide +kernel
theorem dX12_copy_137 : decode cX12_copy 137 = .ok (.iconst 0, 1) := by decide +kernel
theorem dX12_copy_138 : decode cX12_copy 138 = .ok (.istore 6, 2) := by decide +kernel
theorem dX12_copy_140 : decode cX12_copy 140 = .ok (.iconst 0, 1) := by decide +kernel
theorem dX12_copy_141 : decode cX12_copy 141 = .ok (.istore 7, 2) := by decide +kernel
theorem dX12_copy_143 : decode cX12_copy 143 = .ok (.iload 7, 2) := by decide +kernel
theorem dX12_copy_145 : decode cX12_copy 145 = .ok (.iload 5, 2) := by decide +kernel
theorem dX12_copy_147 : decode cX12_copy 147 = .ok (.if_icmp .ge 57, 3) := by decide +kernel
theorem dX12_copy_150 : decode cX12_copy 150 = .ok (.iload 6, 2) := by decide +kernel
theorem dX12_copy_152 : decode cX12_copy 152 = .ok (.ifCond .eq 8, 3) := by decide +kernel
theorem dX12_copy_155 : decode cX12_copy 155 = .ok (.iload 7, 2) := by decide +kernel
theorem dX12_copy_157 : decode cX12_copy 157 = .ok (.goto 10, 3) := by decide +kernel
theorem dX12_copy_160 : decode cX12_copy 160 = .ok (.iload 5, 2) := by decide +kernel
theorem dX12_copy_162 : decode cX12_copy 162 = .ok (.iconst 1, 1) := by decide +kernel
theorem dX12_copy_163 : decode cX12_copy 163 = .ok (.isub, 1) := by decide +kernel
theorem dX12_copy_164 : decode cX12_copy 164 = .ok (.iload 7, 2) := by decide +kernel
theorem dX12_copy_166 : decode cX12_copy 166 = .ok (.isub, 1) := by decide +kernel
theorem dX12_copy_167 : decode cX12_copy 167 = .ok (.istore 8, 2) := by decide +kernel
theorem dX12_copy_169 : decode cX12_copy 169 = .ok (.aload_n 0, 1) := by decide +kernel
theorem dX12_copy_170 : decode cX12_copy 170 = .ok (.getfield 16, 3) := by decide +kernel
theorem dX12_copy_173 : decode cX12_copy 173 = .ok (.bipush 40, 2) := by decide +kernel
theorem dX12_copy_175 : decode cX12_copy 175 = .ok (.iload_n 3, 1) := by decide +kernel
theorem dX12_copy_176 : decode cX12_copy 176 = .ok (.imul, 1) := by decide +kernel
theorem dX12_copy_177 : decode cX12_copy 177 = .ok (.iload 4, 2) := by decide +kernel
theorem dX12_copy_179 : decode cX12_copy 179 = .ok (.iadd, 1) := by decide +kernel
theorem dX12_copy_180 : decode cX12_copy 180 = .ok (.iload 8, 2) := by decide +kernel
theorem dX12_copy_182 : decode cX12_copy 182 = .ok (.iadd, 1) := by decide +kernel
theorem dX12_copy_183 : decode cX12_copy 183 = .ok (.aload_n 0, 1) := by decide +kernel
theorem dX12_copy_184 : decode cX12_copy 184 = .ok (.getfield 16, 3) := by decide +kernel
theorem dX12_copy_187 : decode cX12_copy 187 = .ok (.bipush 40, 2) := by decide +kernel
theorem dX12_copy_189 : decode cX12_copy 189 = .ok (.iload_n 1, 1) := by decide +kernel
theorem dX12_copy_190 : decode cX12_copy 190 = .ok (.imul, 1) := by decide +kernel
theorem dX12_copy_191 : decode cX12_copy 191 = .ok (.iload_n 2, 1) := by decide +kernel
theorem dX12_copy_192 : decode cX12_copy 192 = .ok (.iadd, 1) := by decide +kernel
theorem dX12_copy_193 : decode cX12_copy 193 = .ok (.iload 8, 2) := by decide +kernel
theorem dX12_copy_195 : decode cX12_copy 195 = .ok (.iadd, 1) := by decide +kernel
theorem dX12_copy_196 : decode cX12_copy 196 = .ok (.iaload, 1) := by decide +kernel
theorem dX12_copy_197 : decode cX12_copy 197 = .ok (.iastore, 1) := by decide +kernel
theorem dX12_copy_198 : decode cX12_copy 198 = .ok (.iinc 7 1, 3) := by decide +kernel
theorem dX12_copy_201 : decode cX12_copy 201 = .ok (.goto (-58), 3) := by decide +kernel
theorem dX12_copy_204 : decode cX12_copy 204 = .ok (.iload 5, 2) := by decide +kernel
theorem dX12_copy_206 : decode cX12_copy 206 = .ok (.ireturn, 1) := by decide +kernel
theorem dX12_drop_0 : decode cX12_drop 0 = .ok (.aload_n 0, 1) := by decide +kernel
theorem dX12_drop_1 : decode cX12_drop 1 = .ok (.iconst 0, 1) := by decide +kernel
theorem dX12_drop_2 : decode cX12_drop 2 = .ok (.putfield 54, 3) := by decide +kernel
theorem dX12_drop_5 : decode cX12_drop 5 = .ok (.iload_n 1, 1) := by decide +kernel
theorem dX12_drop_6 : decode cX12_drop 6 = .ok (.invokestatic 68, 3) := by decide +kernel
theorem dX12_drop_9 : decode cX12_drop 9 = .ok (.ifCond .ne 6, 3) := by decide +kernel
theorem dX12_drop_12 : decode cX12_drop 12 = .ok (.ldc 74, 2) := by decide +kernel
theorem dX12_drop_14 : decode cX12_drop 14 = .ok (.ireturn, 1) := by decide +kernel
theorem dX12_drop_15 : decode cX12_drop 15 = .ok (.aload_n 0, 1) := by decide +kernel
theorem dX12_drop_16 : decode cX12_drop 16 = .ok (.iconst 0, 1) := by decide +kernel
theorem dX12_drop_17 : decode cX12_drop 17 = .ok (.putfield 58, 3) := by decide +kernel
theorem dX12_drop_20 : decode cX12_drop 20 = .ok (.aload_n 0, 1) := by decide +kernel
theorem dX12_drop_21 : decode cX12_drop 21 = .ok (.getfield 7, 3) := by decide +kernel
theorem dX12_drop_24 : decode cX12_drop 24 = .ok (.iload_n 1, 1) := by decide +kernel
theorem dX12_drop_25 : decode cX12_drop 25 = .ok (.iaload, 1) := by decide +kernel
theorem dX12_drop_26 : decode cX12_drop 26 = .ok (.ifCond .ge 9, 3) := by decide +kernel
theorem dX12_drop_29 : decode cX12_drop 29 = .ok (.aload_n 0, 1) := by decide +kernel
theorem dX12_drop_30 : decode cX12_drop 30 = .ok (.iconst 1, 1) := by decide +kernel
theorem dX12_drop_31 : decode cX12_drop 31 = .ok (.invokevirtual 75, 3) := by decide +kernel
theorem dX12_drop_34 : decode cX12_drop 34 = .ok (.ireturn, 1) := by decide +kernel
theorem dX12_drop_35 : decode cX12_drop 35 = .ok (.aload_n 0, 1) := by decide +kernel
theorem dX12_drop_36 : decode cX12_drop 36 = .ok (.getfield 7, 3) := by decide +kernel
theorem dX12_drop_39 : decode cX12_drop 39 = .ok (.iload_n 1, 1) := by decide +kernel
theorem dX12_drop_40 : decode cX12_drop 40 = .ok (.iconst (-1), 1) := by decide +kernel
theorem dX12_drop_41 : decode cX12_drop 41 = .ok (.iastore, 1) := by decide +kernel
theorem dX12_drop_42 : decode cX12_drop 42 = .ok (.aload_n 0, 1) := by decide +kernel
theorem dX12_drop_43 : decode cX12_drop 43 = .ok (.getfield 13, 3) := by decide +kernel
theorem dX12_drop_46 : decode cX12_drop 46 = .ok (.iload_n 1, 1) := by decide +kernel
theorem dX12_drop_47 : decode cX12_drop 47 = .ok (.iaload, 1) := by decide +kernel
theorem dX12_drop_48 : decode cX12_drop 48 = .ok (.ireturn, 1) := by decide +kernel
theorem dX12_feed_0 : decode cX12_feed 0 = .ok (.aload_n 0, 1) := by decide +kernel
theorem dX12_feed_1 : decode cX12_feed 1 = .ok (.iconst 0, 1) := by decide +kernel
theorem dX12_feed_2 : decode cX12_feed 2 = .ok (.putfield 54, 3) := by decide +kernel
theorem dX12_feed_5 : decode cX12_feed 5 = .ok (.iload_n 1, 1) := by decide +kernel
theorem dX12_feed_6 : decode cX12_feed 6 = .ok (.i2l, 1) := by decide +kernel
theorem dX12_feed_7 : decode cX12_feed 7 = .ok (.lconst 0, 1) := by decide +kernel
theorem dX12_feed_8 : decode cX12_feed 8 = .ok (.ldc2_w 79, 3) := by decide +kernel
theorem dX12_feed_11 : decode cX12_feed 11 = .ok (.invokestatic 64, 3) := by decide +kernel
theorem dX12_feed_14 : decode cX12_feed 14 = .ok (.ifCond .ne 6, 3) := by decide +kernel
theorem dX12_feed_17 : decode cX12_feed 17 = .ok (.ldc 74, 2) := by decide +kernel
theorem dX12_feed_19 : decode cX12_feed 19 = .ok (.ireturn, 1) := by decide +kernel
theorem dX12_feed_20 : decode cX12_feed 20 = .ok (.aload_n 0, 1) := by decide +kernel
theorem dX12_feed_21 : decode cX12_feed 21 = .ok (.getfield 81, 3) := by decide +kernel
theorem dX12_feed_24 : decode cX12_feed 24 = .ok (.bipush 120, 2) := by decide +kernel
theorem dX12_feed_26 : decode cX12_feed 26 = .ok (.if_icmp .ne 6, 3) := by decide +kernel
theorem dX12_feed_29 : decode cX12_feed 29 = .ok (.ldc 84, 2) := by decide +kernel
theorem dX12_feed_31 : decode cX12_feed 31 = .ok (.ireturn, 1) := by decide +kernel
theorem dX12_feed_32 : decode cX12_feed 32 = .ok (.aload_n 0, 1) := by decide +kernel
theorem dX12_feed_33 : decode cX12_feed 33 = .ok (.getfield 35, 3) := by decide +kernel
theorem dX12_feed_36 : decode cX12_feed 36 = .ok (.aload_n 0, 1) := by decide +kernel
theorem dX12_feed_37 : decode cX12_feed 37 = .ok (.getfield 81, 3) := by decide +kernel
theorem dX12_feed_40 : decode cX12_feed 40 = .ok (.iload_n 1, 1) := by decide +kernel
theorem dX12_feed_41 : decode cX12_feed 41 = .ok (.iastore, 1) := by decide +kernel
theorem dX12_feed_42 : decode cX12_feed 42 = .ok (.aload_n 0, 1) := by decide +kernel
theorem dX12_feed_43 : decode cX12_feed 43 = .ok (.dup, 1) := by decide +kernel
theorem dX12_feed_44 : decode cX12_feed 44 = .ok (.getfield 81, 3) := by decide +kernel
theorem dX12_feed_47 : decode cX12_feed 47 = .ok (.iconst 1, 1) := by decide +kernel
theorem dX12_feed_48 : decode cX12_feed 48 = .ok (.iadd, 1) := by decide +kernel
theorem dX12_feed_49 : decode cX12_feed 49 = .ok (.putfield 81, 3) := by decide +kernel
theorem dX12_feed_52 : decode cX12_feed 52 = .ok (.aload_n 0, 1) := by decide +kernel
theorem dX12_feed_53 : decode cX12_feed 53 = .ok (.getfield 81, 3) := by decide +kernel
theorem dX12_feed_56 : decode cX12_feed 56 = .ok (.ireturn, 1) := by decide +kernel
theorem dX12_bad_0 : decode cX12_bad 0 = .ok (.aload_n 0, 1) := by decide +kernel
theorem dX12_bad_1 : decode cX12_bad 1 = .ok (.getfield 85, 3) := by decide +kernel
theorem dX12_bad_4 : decode cX12_bad 4 = .ok (.ifCond .ne 16, 3) := by decide +kernel
theorem dX12_bad_7 : decode cX12_bad 7 = .ok (.aload_n 0, 1) := by decide +kernel
theorem dX12_bad_8 : decode cX12_bad 8 = .ok (.iload_n 1, 1) := by decide +kernel
theorem dX12_bad_9 : decode cX12_bad 9 = .ok (.putfield 85, 3) := by decide +kernel
theorem dX12_bad_12 : decode cX12_bad 12 = .ok (.aload_n 0, 1) := by decide +kernel
theorem dX12_bad_13 : decode cX12_bad 13 = .ok (.aload_n 0, 1) := by decide +kernel
theorem dX12_bad_14 : decode cX12_bad 14 = .ok (.getfield 88, 3) := by decide +kernel
theorem dX12_bad_17 : decode cX12_bad 17 = .ok (.putfield 91, 3) := by decide +kernel
theorem dX12_bad_20 : decode cX12_bad 20 = .ok (.return_, 1) := by decide +kernel
theorem dX12_nextToken_0 : decode cX12_nextToken 0 = .ok (.aload_n 0, 1) := by decide +kernel
theorem dX12_nextToken_1 : decode cX12_nextToken 1 = .ok (.aload_n 0, 1) := by decide +kernel
theorem dX12_nextToken_2 : decode cX12_nextToken 2 = .ok (.getfield 94, 3) := by decide +kernel
theorem dX12_nextToken_5 : decode cX12_nextToken 5 = .ok (.putfield 88, 3) := by decide +kernel
theorem dX12_nextToken_8 : decode cX12_nextToken 8 = .ok (.aload_n 0, 1) := by decide +kernel
theorem dX12_nextToken_9 : decode cX12_nextToken 9 = .ok (.aload_n 0, 1) := by decide +kernel
theorem dX12_nextToken_10 : decode cX12_nextToken 10 = .ok (.getfield 94, 3) := by decide +kernel
theorem dX12_nextToken_13 : decode cX12_nextToken 13 = .ok (.aload_n 0, 1) := by decide +kernel
theorem dX12_nextToken_14 : decode cX12_nextToken 14 = .ok (.getfield 81, 3) := by decide +kernel
theorem dX12_nextToken_17 : decode cX12_nextToken 17 = .ok (.if_icmp .ge 15, 3) := by decide +kernel
theorem dX12_nextToken_20 : decode cX12_nextToken 20 = .ok (.aload_n 0, 1) := by decide +kernel
theorem dX12_nextToken_21 : decode cX12_nextToken 21 = .ok (.getfield 35, 3) := by decide +kernel
theorem dX12_nextToken_24 : decode cX12_nextToken 24 = .ok (.aload_n 0, 1) := by decide +kernel
theorem dX12_nextToken_25 : decode cX12_nextToken 25 = .ok (.getfield 94, 3) := by decide +kernel
theorem dX12_nextToken_28 : decode cX12_nextToken 28 = .ok (.iaload, 1) := by decide +kernel
theorem dX12_nextToken_29 : decode cX12_nextToken 29 = .ok (.goto 5, 3) := by decide +kernel
theorem dX12_nextToken_32 : decode cX12_nextToken 32 = .ok (.ldc 97, 2) := by decide +kernel
theorem dX12_nextToken_34 : decode cX12_nextToken 34 = .ok (.putfield 98, 3) := by decide +kernel
theorem dX12_nextToken_37 : decode cX12_nextToken 37 = .ok (.aload_n 0, 1) := by decide +kernel
theorem dX12_nextToken_38 : decode cX12_nextToken 38 = .ok (.aload_n 0, 1) := by decide +kernel
theorem dX12_nextToken_39 : decode cX12_nextToken 39 = .ok (.getfield 94, 3) := by decide +kernel
theorem dX12_nextToken_42 : decode cX12_nextToken 42 = .ok (.aload_n 0, 1) := by decide +kernel
theorem dX12_nextToken_43 : decode cX12_nextToken 43 = .ok (.getfield 81, 3) := by decide +kernel
theorem dX12_nextToken_46 : decode cX12_nextToken 46 = .ok (.if_icmp .ne 7, 3) := by decide +kernel
theorem dX12_nextToken_49 : decode cX12_nextToken 49 = .ok (.iconst 1, 1) := by decide +kernel
theorem dX12_nextToken_50 : decode cX12_nextToken 50 = .ok (.goto 68, 3) := by decide +kernel
theorem dX12_nextToken_53 : decode cX12_nextToken 53 = .ok (.aload_n 0, 1) := by decide +kernel
theorem dX12_nextToken_54 : decode cX12_nextToken 54 = .ok (.getfield 98, 3) := by decide +kernel
theorem dX12_nextToken_57 : decode cX12_nextToken 57 = .ok (.i2l, 1) := by decide +kernel
theorem dX12_nextToken_58 : decode cX12_nextToken 58 = .ok (.ldc2_w 101, 3) := by decide +kernel
theorem dX12_nextToken_61 : decode cX12_nextToken 61 = .ok (.ldc2_w 103, 3) := by decide +kernel
theorem dX12_nextToken_64 : decode cX12_nextToken 64 = .ok (.invokestatic 64, 3) := by decide +kernel
theorem dX12_nextToken_67 : decode cX12_nextToken 67 = .ok (.ifCond .eq 7, 3) := by decide +kernel
theorem dX12_nextToken_70 : decode cX12_nextToken 70 = .ok (.iconst 2, 1) := by decide +kernel
theorem dX12_nextToken_71 : decode cX12_nextToken 71 = .ok (.goto 47, 3) := by decide +kernel
theorem dX12_nextToken_74 : decode cX12_nextToken 74 = .ok (.aload_n 0, 1) := by decide +kernel
theorem dX12_nextToken_75 : decode cX12_nextToken 75 = .ok (.getfield 98, 3) := by decide +kernel
theorem dX12_nextToken_78 : decode cX12_nextToken 78 = .ok (.i2l, 1) := by decide +kernel
theorem dX12_nextToken_79 : decode cX12_nextToken 79 = .ok (.ldc2_w 105, 3) := by decide +kernel
theorem dX12_nextToken_82 : decode cX12_nextToken 82 = .ok (.ldc2_w 107, 3) := by decide +kernel
theorem dX12_nextToken_85 : decode cX12_nextToken 85 = .ok (.invokestatic 64, 3) := by decide +kernel
theorem dX12_nextToken_88 : decode cX12_nextToken 88 = .ok (.ifCond .eq 7, 3) := by decide +kernel
theorem dX12_nextToken_91 : decode cX12_nextToken 91 = .ok (.iconst 3, 1) := by decide +kernel
theorem dX12_nextToken_92 : decode cX12_nextToken 92 = .ok (.goto 26, 3) := by decide +kernel
theorem dX12_nextToken_95 : decode cX12_nextToken 95 = .ok (.aload_n 0, 1) := by decide +kernel
theorem dX12_nextToken_96 : decode cX12_nextToken 96 = .ok (.getfield 98, 3) := by decide +kernel
theorem dX12_nextToken_99 : decode cX12_nextToken 99 = .ok (.bipush 44, 2) := by decide +kernel
theorem dX12_nextToken_101 : decode cX12_nextToken 101 = .ok (.if_icmp .eq 12, 3) := by decide +kernel
theorem dX12_nextToken_104 : decode cX12_nextToken 104 = .ok (.aload_n 0, 1) := by decide +kernel
theorem dX12_nextToken_105 : decode cX12_nextToken 105 = .ok (.getfield 98, 3) := by decide +kernel
theorem dX12_nextToken_108 : decode cX12_nextToken 108 = .ok (.bipush 59, 2) := by decide +kernel
theorem dX12_nextToken_110 : decode cX12_nextToken 110 = .ok (.if_icmp .ne 7, 3) := by decide +kernel
theorem dX12_nextToken_113 : decode cX12_nextToken 113 = .ok (.iconst 4, 1) := by decide +kernel
theorem dX12_nextToken_114 : decode cX12_nextToken 114 = .ok (.goto 4, 3) := by decide +kernel
theorem dX12_nextToken_117 : decode cX12_nextToken 117 = .ok (.iconst 0, 1) := by decide +kernel
theorem dX12_nextToken_118 : decode cX12_nextToken 118 = .ok (.putfield 109, 3) := by decide +kernel
theorem dX12_nextToken_121 : decode cX12_nextToken 121 = .ok (.aload_n 0, 1) := by decide +kernel
theorem dX12_nextToken_122 : decode cX12_nextToken 122 = .ok (.dup, 1) := by decide +kernel
theorem dX12_nextToken_123 : decode cX12_nextToken 123 = .ok (.getfield 94, 3) := by decide +kernel
theorem dX12_nextToken_126 : decode cX12_nextToken 126 = .ok (.aload_n 0, 1) := by decide +kernel
theorem dX12_nextToken_127 : decode cX12_nextToken 127 = .ok (.getfield 94, 3) := by decide +kernel
theorem dX12_nextToken_130 : decode cX12_nextToken 130 = .ok (.aload_n 0, 1) := by decide +kernel
theorem dX12_nextToken_131 : decode cX12_nextToken 131 = .ok (.getfield 81, 3) := by decide +kernel
theorem dX12_nextToken_134 : decode cX12_nextToken 134 = .ok (.if_icmp .ge 7, 3) := by decide +kernel
theorem dX12_nextToken_137 : decode cX12_nextToken 137 = .ok (.iconst 1, 1) := by decide +kernel
theorem dX12_nextToken_138 : decode cX12_nextToken 138 = .ok (.goto 4, 3) := by decide +kernel
theorem dX12_nextToken_141 : decode cX12_nextToken 141 = .ok (.iconst 0, 1) := by decide +kernel
theorem dX12_nextToken_142 : decode cX12_nextToken 142 = .ok (.iadd, 1) := by decide +kernel
theorem dX12_nextToken_143 : decode cX12_nextToken 143 = .ok (.putfield 94, 3) := by decide +kernel
theorem dX12_nextToken_146 : decode cX12_nextToken 146 = .ok (.aload_n 0, 1) := by decide +kernel
theorem dX12_nextToken_147 : decode cX12_nextToken 147 = .ok (.getfield 109, 3) := by decide +kernel
theorem dX12_nextToken_150 : decode cX12_nextToken 150 = .ok (.iconst 3, 1) := by decide +kernel
theorem dX12_nextToken_151 : decode cX12_nextToken 151 = .ok (.if_icmp .ne 126, 3) := by decide +kernel
theorem dX12_nextToken_154 : decode cX12_nextToken 154 = .ok (.aload_n 0, 1) := by decide +kernel
theorem dX12_nextToken_155 : decode cX12_nextToken 155 = .ok (.dup, 1) := by decide +kernel
theorem dX12_nextToken_156 : decode cX12_nextToken 156 = .ok (.getfield 98, 3) := by decide +kernel
theorem dX12_nextToken_159 : decode cX12_nextToken 159 = .ok (.bipush 48, 2) := by decide +kernel
theorem dX12_nextToken_161 : decode cX12_nextToken 161 = .ok (.isub, 1) := by decide +kernel
theorem dX12_nextToken_162 : decode cX12_nextToken 162 = .ok (.putfield 98, 3) := by decide +kernel
theorem dX12_nextToken_165 : decode cX12_nextToken 165 = .ok (.aload_n 0, 1) := by decide +kernel
theorem dX12_nextToken_166 : decode cX12_nextToken 166 = .ok (.getfield 94, 3) := by decide +kernel
theorem dX12_nextToken_169 : decode cX12_nextToken 169 = .ok (.aload_n 0, 1) := by decide +kernel
theorem dX12_nextToken_170 : decode cX12_nextToken 170 = .ok (.getfield 81, 3) := by decide +kernel
theorem dX12_nextToken_173 : decode cX12_nextToken 173 = .ok (.if_icmp .ge 82, 3) := by decide +kernel
theorem dX12_nextToken_176 : decode cX12_nextToken 176 = .ok (.aload_n 0, 1) := by decide +kernel
theorem dX12_nextToken_177 : decode cX12_nextToken 177 = .ok (.getfield 35, 3) := by decide +kernel
theorem dX12_nextToken_180 : decode cX12_nextToken 180 = .ok (.aload_n 0, 1) := by decide +kernel
theorem dX12_nextToken_181 : decode cX12_nextToken 181 = .ok (.getfield 94, 3) := by decide +kernel
theorem dX12_nextToken_184 : decode cX12_nextToken 184 = .ok (.iaload, 1) := by decide +kernel
theorem dX12_nextToken_185 : decode cX12_nextToken 185 = .ok (.i2l, 1) := by decide +kernel
theorem dX12_nextToken_186 : decode cX12_nextToken 186 = .ok (.ldc2_w 105, 3) := by decide +kernel
theorem dX12_nextToken_189 : decode cX12_nextToken 189 = .ok (.ldc2_w 107, 3) := by decide +kernel
theorem dX12_nextToken_192 : decode cX12_nextToken 192 = .ok (.invokestatic 64, 3) := by decide +kernel
theorem dX12_nextToken_195 : decode cX12_nextToken 195 = .ok (.ifCond .eq 60, 3) := by decide +kernel
theorem dX12_nextToken_198 : decode cX12_nextToken 198 = .ok (.aload_n 0, 1) := by decide +kernel
theorem dX12_nextToken_199 : decode cX12_nextToken 199 = .ok (.aload_n 0, 1) := by decide +kernel
theorem dX12_nextToken_200 : decode cX12_nextToken 200 = .ok (.getfield 94, 3) := by decide +kernel
theorem dX12_nextToken_203 : decode cX12_nextToken 203 = .ok (.aload_n 0, 1) := by decide +kernel
theorem dX12_nextToken_204 : decode cX12_nextToken 204 = .ok (.getfield 88, 3) := by decide +kernel
theorem dX12_nextToken_207 : decode cX12_nextToken 207 = .ok (.isub, 1) := by decide +kernel
theorem dX12_nextToken_208 : decode cX12_nextToken 208 = .ok (.iconst 2, 1) := by decide +kernel
theorem dX12_nextToken_209 : decode cX12_nextToken 209 = .ok (.if_icmp .ge 26, 3) := by decide +kernel
theorem dX12_nextToken_212 : decode cX12_nextToken 212 = .ok (.bipush 10, 2) := by decide +kernel
theorem dX12_nextToken_214 : decode cX12_nextToken 214 = .ok (.aload_n 0, 1) := by decide +kernel
theorem dX12_nextToken_215 : decode cX12_nextToken 215 = .ok (.getfield 98, 3) := by decide +kernel
theorem dX12_nextToken_218 : decode cX12_nextToken 218 = .ok (.imul, 1) := by decide +kernel
theorem dX12_nextToken_219 : decode cX12_nextToken 219 = .ok (.aload_n 0, 1) := by decide +kernel
theorem dX12_nextToken_220 : decode cX12_nextToken 220 = .ok (.getfield 35, 3) := by decide +kernel
theorem dX12_nextToken_223 : decode cX12_nextToken 223 = .ok (.aload_n 0, 1) := by decide +kernel
theorem dX12_nextToken_224 : decode cX12_nextToken 224 = .ok (.getfield 94, 3) := by decide +kernel
theorem dX12_nextToken_227 : decode cX12_nextToken 227 = .ok (.iaload, 1) := by decide +kernel
theorem dX12_nextToken_228 : decode cX12_nextToken 228 = .ok (.iadd, 1) := by decide +kernel
theorem dX12_nextToken_229 : decode cX12_nextToken 229 = .ok (.bipush 48, 2) := by decide +kernel
theorem dX12_nextToken_231 : decode cX12_nextToken 231 = .ok (.isub, 1) := by decide +kernel
theorem dX12_nextToken_232 : decode cX12_nextToken 232 = .ok (.goto 7, 3) := by decide +kernel
theorem dX12_nextToken_235 : decode cX12_nextToken 235 = .ok (.aload_n 0, 1) := by decide +kernel
theorem dX12_nextToken_236 : decode cX12_nextToken 236 = .ok (.getfield 98, 3) := by decide +kernel
theorem dX12_nextToken_239 : decode cX12_nextToken 239 = .ok (.putfield 98, 3) := by decide +kernel
theorem dX12_nextToken_242 : decode cX12_nextToken 242 = .ok (.aload_n 0, 1) := by decide +kernel
theorem dX12_nextToken_243 : decode cX12_nextToken 243 = .ok (.dup, 1) := by decide +kernel
theorem dX12_nextToken_244 : decode cX12_nextToken 244 = .ok (.getfield 94, 3) := by decide +kernel
theorem dX12_nextToken_247 : decode cX12_nextToken 247 = .ok (.iconst 1, 1) := by decide +kernel
theorem dX12_nextToken_248 : decode cX12_nextToken 248 = .ok (.iadd, 1) := by decide +kernel
theorem dX12_nextToken_249 : decode cX12_nextToken 249 = .ok (.putfield 94, 3) := by decide +kernel
theorem dX12_nextToken_252 : decode cX12_nextToken 252 = .ok (.goto (-87), 3) := by decide +kernel
theorem dX12_nextToken_255 : decode cX12_nextToken 255 = .ok (.aload_n 0, 1) := by decide +kernel
theorem dX12_nextToken_256 : decode cX12_nextToken 256 = .ok (.aload_n 0, 1) := by decide +kernel
theorem dX12_nextToken_257 : decode cX12_nextToken 257 = .ok (.getfield 94, 3) := by decide +kernel
theorem dX12_nextToken_260 : decode cX12_nextToken 260 = .ok (.aload_n 0, 1) := by decide +kernel
theorem dX12_nextToken_261 : decode cX12_nextToken 261 = .ok (.getfield 88, 3) := by decide +kernel
theorem dX12_nextToken_264 : decode cX12_nextToken 264 = .ok (.isub, 1) := by decide +kernel
theorem dX12_nextToken_265 : decode cX12_nextToken 265 = .ok (.iconst 2, 1) := by decide +kernel
theorem dX12_nextToken_266 : decode cX12_nextToken 266 = .ok (.if_icmp .le 7, 3) := by decide +kernel
theorem dX12_nextToken_269 : decode cX12_nextToken 269 = .ok (.iconst 0, 1) := by decide +kernel
theorem dX12_nextToken_270 : decode cX12_nextToken 270 = .ok (.goto 4, 3) := by decide +kernel
theorem dX12_nextToken_273 : decode cX12_nextToken 273 = .ok (.iconst 3, 1) := by decide +kernel
theorem dX12_nextToken_274 : decode cX12_nextToken 274 = .ok (.putfield 109, 3) := by decide +kernel
theorem dX12_nextToken_277 : decode cX12_nextToken 277 = .ok (.return_, 1) := by decide +kernel
theorem dX12_must_0 : decode cX12_must 0 = .ok (.iload_n 1, 1) := by decide +kernel
theorem dX12_must_1 : decode cX12_must 1 = .ok (.ifCond .ne 8, 3) := by decide +kernel
theorem dX12_must_4 : decode cX12_must 4 = .ok (.aload_n 0, 1) := by decide +kernel
theorem dX12_must_5 : decode cX12_must 5 = .ok (.iconst 1, 1) := by decide +kernel
theorem dX12_must_6 : decode cX12_must 6 = .ok (.invokevirtual 112, 3) := by decide +kernel
theorem dX12_must_9 : decode cX12_must 9 = .ok (.aload_n 0, 1) := by decide +kernel
theorem dX12_must_10 : decode cX12_must 10 = .ok (.getfield 85, 3) := by decide +kernel
theorem dX12_must_13 : decode cX12_must 13 = .ok (.ifCond .ne 7, 3) := by decide +kernel
theorem dX12_must_16 : decode cX12_must 16 = .ok (.aload_n 0, 1) := by decide +kernel
theorem dX12_must_17 : decode cX12_must 17 = .ok (.invokevirtual 116, 3) := by decide +kernel
theorem dX12_must_20 : decode cX12_must 20 = .ok (.return_, 1) := by decide +kernel
theorem dX12_isLetter_0 : decode cX12_isLetter 0 = .ok (.aload_n 0, 1) := by decide +kernel
theorem dX12_isLetter_1 : decode cX12_isLetter 1 = .ok (.getfield 85, 3) := by decide +kernel
theorem dX12_isLetter_4 : decode cX12_isLetter 4 = .ok (.ifCond .ne 23, 3) := by decide +kernel
theorem dX12_isLetter_7 : decode cX12_isLetter 7 = .ok (.aload_n 0, 1) := by decide +kernel
theorem dX12_isLetter_8 : decode cX12_isLetter 8 = .ok (.getfield 109, 3) := by decide +kernel
theorem dX12_isLetter_11 : decode cX12_isLetter 11 = .ok (.iconst 2, 1) := by decide +kernel
theorem dX12_isLetter_12 : decode cX12_isLetter 12 = .ok (.if_icmp .ne 15, 3) := by decide +kernel
theorem dX12_isLetter_15 : decode cX12_isLetter 15 = .ok (.aload_n 0, 1) := by decide +kernel
theorem dX12_isLetter_16 : decode cX12_isLetter 16 = .ok (.getfield 98, 3) := by decide +kernel
theorem dX12_isLetter_19 : decode cX12_isLetter 19 = .ok (.iload_n 1, 1) := by decide +kernel
theorem dX12_isLetter_20 : decode cX12_isLetter 20 = .ok (.if_icmp .ne 7, 3) := by decide +kernel
theorem dX12_isLetter_23 : decode cX12_isLetter 23 = .ok (.iconst 1, 1) := by decide +kernel
theorem dX12_isLetter_24 : decode cX12_isLetter 24 = .ok (.goto 4, 3) := by decide +kernel
theorem dX12_isLetter_27 : decode cX12_isLetter 27 = .ok (.iconst 0, 1) := by decide +kernel
theorem dX12_isLetter_28 : decode cX12_isLetter 28 = .ok (.ireturn, 1) := by decide +kernel
theorem dX12_number_0 : decode cX12_number 0 = .ok (.aload_n 0, 1) := by decide +kernel
theorem dX12_number_1 : decode cX12_number 1 = .ok (.getfield 85, 3) := by decide +kernel
theorem dX12_number_4 : decode cX12_number 4 = .ok (.ifCond .ne 16, 3) := by decide +kernel
theorem dX12_number_7 : decode cX12_number 7 = .ok (.aload_n 0, 1) := by decide +kernel
theorem dX12_number_8 : decode cX12_number 8 = .ok (.getfield 109, 3) := by decide +kernel
theorem dX12_number_11 : decode cX12_number 11 = .ok (.iconst 3, 1) := by decide +kernel
theorem dX12_number_12 : decode cX12_number 12 = .ok (.if_icmp .eq 8, 3) := by decide +kernel
theorem dX12_number_15 : decode cX12_number 15 = .ok (.aload_n 0, 1) := by decide +kernel
theorem dX12_number_16 : decode cX12_number 16 = .ok (.iconst 1, 1) := by decide +kernel
theorem dX12_number_17 : decode cX12_number 17 = .ok (.invokevirtual 112, 3) := by decide +kernel
theorem dX12_number_20 : decode cX12_number 20 = .ok (.aload_n 0, 1) := by decide +kernel
theorem dX12_number_21 : decode cX12_number 21 = .ok (.getfield 85, 3) := by decide +kernel
theorem dX12_number_24 : decode cX12_number 24 = .ok (.ifCond .ne 23, 3) := by decide +kernel
theorem dX12_number_27 : decode cX12_number 27 = .ok (.aload_n 0, 1) := by decide +kernel
theorem dX12_number_28 : decode cX12_number 28 = .ok (.getfield 98, 3) := by decide +kernel
theorem dX12_number_31 : decode cX12_number 31 = .ok (.i2l, 1) := by decide +kernel
theorem dX12_number_32 : decode cX12_number 32 = .ok (.iload_n 1, 1) := by decide +kernel
theorem dX12_number_33 : decode cX12_number 33 = .ok (.i2l, 1) := by decide +kernel
theorem dX12_number_34 : decode cX12_number 34 = .ok (.iload_n 2, 1) := by decide +kernel
theorem dX12_number_35 : decode cX12_number 35 = .ok (.i2l, 1) := by decide +kernel
theorem dX12_number_36 : decode cX12_number 36 = .ok (.invokestatic 64, 3) := by decide +kernel
theorem dX12_number_39 : decode cX12_number 39 = .ok (.ifCond .ne 8, 3) := by decide +kernel
theorem dX12_number_42 : decode cX12_number 42 = .ok (.aload_n 0, 1) := by decide +kernel
theorem dX12_number_43 : decode cX12_number 43 = .ok (.iconst 2, 1) := by decide +kernel
theorem dX12_number_44 : decode cX12_number 44 = .ok (.invokevirtual 112, 3) := by decide +kernel
theorem dX12_number_47 : decode cX12_number 47 = .ok (.aload_n 0, 1) := by decide +kernel
theorem dX12_number_48 : decode cX12_number 48 = .ok (.getfield 85, 3) := by decide +kernel
theorem dX12_number_51 : decode cX12_number 51 = .ok (.ifCond .ne 10, 3) := by decide +kernel
theorem dX12_number_54 : decode cX12_number 54 = .ok (.aload_n 0, 1) := by decide +kernel
theorem dX12_number_55 : decode cX12_number 55 = .ok (.getfield 98, 3) := by decide +kernel
theorem dX12_number_58 : decode cX12_number 58 = .ok (.goto 4, 3) := by decide +kernel
theorem dX12_number_61 : decode cX12_number 61 = .ok (.iload_n 1, 1) := by decide +kernel
theorem dX12_number_62 : decode cX12_number 62 = .ok (.istore_n 3, 1) := by decide +kernel
theorem dX12_number_63 : decode cX12_number 63 = .ok (.aload_n 0, 1) := by decide +kernel
theorem dX12_number_64 : decode cX12_number 64 = .ok (.iconst 1, 1) := by decide +kernel
theorem dX12_number_65 : decode cX12_number 65 = .ok (.invokevirtual 119, 3) := by decide +kernel
theorem dX12_number_68 : decode cX12_number 68 = .ok (.iload_n 3, 1) := by decide +kernel
theorem dX12_number_69 : decode cX12_number 69 = .ok (.ireturn, 1) := by decide +kernel
theorem dX12_mustSign_0 : decode cX12_mustSign 0 = .ok (.aload_n 0, 1) := by decide +kernel
theorem dX12_mustSign_1 : decode cX12_mustSign 1 = .ok (.aload_n 0, 1) := by decide +kernel
theorem dX12_mustSign_2 : decode cX12_mustSign 2 = .ok (.getfield 109, 3) := by decide +kernel
theorem dX12_mustSign_5 : decode cX12_mustSign 5 = .ok (.iconst 4, 1) := by decide +kernel
theorem dX12_mustSign_6 : decode cX12_mustSign 6 = .ok (.if_icmp .ne 15, 3) := by decide +kernel
theorem dX12_mustSign_9 : decode cX12_mustSign 9 = .ok (.aload_n 0, 1) := by decide +kernel
theorem dX12_mustSign_10 : decode cX12_mustSign 10 = .ok (.getfield 98, 3) := by decide +kernel
theorem dX12_mustSign_13 : decode cX12_mustSign 13 = .ok (.iload_n 1, 1) := by decide +kernel
theorem dX12_mustSign_14 : decode cX12_mustSign 14 = .ok (.if_icmp .ne 7, 3) := by decide +kernel
theorem dX12_mustSign_17 : decode cX12_mustSign 17 = .ok (.iconst 1, 1) := by decide +kernel
theorem dX12_mustSign_18 : decode cX12_mustSign 18 = .ok (.goto 4, 3) := by decide +kernel
theorem dX12_mustSign_21 : decode cX12_mustSign 21 = .ok (.iconst 0, 1) := by decide +kernel
theorem dX12_mustSign_22 : decode cX12_mustSign 22 = .ok (.invokevirtual 119, 3) := by decide +kernel
theorem dX12_mustSign_25 : decode cX12_mustSign 25 = .ok (.return_, 1) := by decide +kernel
theorem dX12_beginText_0 : decode cX12_beginText 0 = .ok (.aload_n 0, 1) := by decide +kernel
theorem dX12_beginText_1 : decode cX12_beginText 1 = .ok (.iconst 0, 1) := by decide +kernel
theorem dX12_beginText_2 : decode cX12_beginText 2 = .ok (.putfield 94, 3) := by decide +kernel
theorem dX12_beginText_5 : decode cX12_beginText 5 = .ok (.aload_n 0, 1) := by decide +kernel
theorem dX12_beginText_6 : decode cX12_beginText 6 = .ok (.iconst 0, 1) := by decide +kernel
theorem dX12_beginText_7 : decode cX12_beginText 7 = .ok (.putfield 85, 3) := by decide +kernel
theorem dX12_beginText_10 : decode cX12_beginText 10 = .ok (.aload_n 0, 1) := by decide +kernel
theorem dX12_beginText_11 : decode cX12_beginText 11 = .ok (.invokevirtual 116, 3) := by decide +kernel
theorem dX12_beginText_14 : decode cX12_beginText 14 = .ok (.return_, 1) := by decide +kernel
theorem dX12_failed_0 : decode cX12_failed 0 = .ok (.aload_n 0, 1) := by decide +kernel
theorem dX12_failed_1 : decode cX12_failed 1 = .ok (.getfield 85, 3) := by decide +kernel
theorem dX12_failed_4 : decode cX12_failed 4 = .ok (.ifCond .ne 16, 3) := by decide +kernel
theorem dX12_failed_7 : decode cX12_failed 7 = .ok (.aload_n 0, 1) := by decide +kernel
theorem dX12_failed_8 : decode cX12_failed 8 = .ok (.getfield 109, 3) := by decide +kernel
theorem dX12_failed_11 : decode cX12_failed 11 = .ok (.iconst 1, 1) := by decide +kernel
theorem dX12_failed_12 : decode cX12_failed 12 = .ok (.if_icmp .eq 8, 3) := by decide +kernel
theorem dX12_failed_15 : decode cX12_failed 15 = .ok (.aload_n 0, 1) := by decide +kernel
theorem dX12_failed_16 : decode cX12_failed 16 = .ok (.iconst 1, 1) := by decide +kernel
theorem dX12_failed_17 : decode cX12_failed 17 = .ok (.invokevirtual 112, 3) := by decide +kernel
theorem dX12_failed_20 : decode cX12_failed 20 = .ok (.aload_n 0, 1) := by decide +kernel
theorem dX12_failed_21 : decode cX12_failed 21 = .ok (.iconst 0, 1) := by decide +kernel
theorem dX12_failed_22 : decode cX12_failed 22 = .ok (.putfield 81, 3) := by decide +kernel
theorem dX12_failed_25 : decode cX12_failed 25 = .ok (.aload_n 0, 1) := by decide +kernel
theorem dX12_failed_26 : decode cX12_failed 26 = .ok (.aload_n 0, 1) := by decide +kernel
theorem dX12_failed_27 : decode cX12_failed 27 = .ok (.getfield 85, 3) := by decide +kernel
theorem dX12_failed_30 : decode cX12_failed 30 = .ok (.ifCond .le 10, 3) := by decide +kernel
theorem dX12_failed_33 : decode cX12_failed 33 = .ok (.aload_n 0, 1) := by decide +kernel
theorem dX12_failed_34 : decode cX12_failed 34 = .ok (.getfield 85, 3) := by decide +kernel
theorem dX12_failed_37 : decode cX12_failed 37 = .ok (.goto 7, 3) := by decide +kernel
theorem dX12_failed_40 : decode cX12_failed 40 = .ok (.aload_n 0, 1) := by decide +kernel
theorem dX12_failed_41 : decode cX12_failed 41 = .ok (.getfield 123, 3) := by decide +kernel
theorem dX12_failed_44 : decode cX12_failed 44 = .ok (.putfield 123, 3) := by decide +kernel
theorem dX12_failed_47 : decode cX12_failed 47 = .ok (.aload_n 0, 1) := by decide +kernel
theorem dX12_failed_48 : decode cX12_failed 48 = .ok (.getfield 85, 3) := by decide +kernel
theorem dX12_failed_51 : decode cX12_failed 51 = .ok (.ifCond .le 7, 3) := by decide +kernel
theorem dX12_failed_54 : decode cX12_failed 54 = .ok (.iconst 1, 1) := by decide +kernel
theorem dX12_failed_55 : decode cX12_failed 55 = .ok (.goto 4, 3) := by decide +kernel
theorem dX12_failed_58 : decode cX12_failed 58 = .ok (.iconst 0, 1) := by decide +kernel
theorem dX12_failed_59 : decode cX12_failed 59 = .ok (.ireturn, 1) := by decide +kernel
theorem dX12_fault_0 : decode cX12_fault 0 = .ok (.aload_n 0, 1) := by decide +kernel
theorem dX12_fault_1 : decode cX12_fault 1 = .ok (.iconst 0, 1) := by decide +kernel
theorem dX12_fault_2 : decode cX12_fault 2 = .ok (.putfield 54, 3) := by decide +kernel
theorem dX12_fault_5 : decode cX12_fault 5 = .ok (.aload_n 0, 1) := by decide +kernel
theorem dX12_fault_6 : decode cX12_fault 6 = .ok (.getfield 123, 3) := by decide +kernel
theorem dX12_fault_9 : decode cX12_fault 9 = .ok (.ireturn, 1) := by decide +kernel
theorem dX12_kindBy_0 : decode cX12_kindBy 0 = .ok (.iload_n 0, 1) := by decide +kernel
theorem dX12_kindBy_1 : decode cX12_kindBy 1 = .ok (.bipush 117, 2) := by decide +kernel
theorem dX12_kindBy_3 : decode cX12_kindBy 3 = .ok (.if_icmp .ne 7, 3) := by decide +kernel
theorem dX12_kindBy_6 : decode cX12_kindBy 6 = .ok (.iconst 1, 1) := by decide +kernel
theorem dX12_kindBy_7 : decode cX12_kindBy 7 = .ok (.goto 45, 3) := by decide +kernel
theorem dX12_kindBy_10 : decode cX12_kindBy 10 = .ok (.iload_n 0, 1) := by decide +kernel
theorem dX12_kindBy_11 : decode cX12_kindBy 11 = .ok (.bipush 98, 2) := by decide +kernel
theorem dX12_kindBy_13 : decode cX12_kindBy 13 = .ok (.if_icmp .ne 7, 3) := by decide +kernel
theorem dX12_kindBy_16 : decode cX12_kindBy 16 = .ok (.iconst 2, 1) := by decide +kernel
theorem dX12_kindBy_17 : decode cX12_kindBy 17 = .ok (.goto 35, 3) := by decide +kernel
theorem dX12_kindBy_20 : decode cX12_kindBy 20 = .ok (.iload_n 0, 1) := by decide +kernel
theorem dX12_kindBy_21 : decode cX12_kindBy 21 = .ok (.bipush 108, 2) := by decide +kernel
theorem dX12_kindBy_23 : decode cX12_kindBy 23 = .ok (.if_icmp .ne 7, 3) := by decide +kernel
theorem dX12_kindBy_26 : decode cX12_kindBy 26 = .ok (.iconst 3, 1) := by decide +kernel
theorem dX12_kindBy_27 : decode cX12_kindBy 27 = .ok (.goto 25, 3) := by decide +kernel
theorem dX12_kindBy_30 : decode cX12_kindBy 30 = .ok (.iload_n 0, 1) := by decide +kernel
theorem dX12_kindBy_31 : decode cX12_kindBy 31 = .ok (.bipush 109, 2) := by decide +kernel
theorem dX12_kindBy_33 : decode cX12_kindBy 33 = .ok (.if_icmp .ne 7, 3) := by decide +kernel
theorem dX12_kindBy_36 : decode cX12_kindBy 36 = .ok (.iconst 4, 1) := by decide +kernel
theorem dX12_kindBy_37 : decode cX12_kindBy 37 = .ok (.goto 15, 3) := by decide +kernel
theorem dX12_kindBy_40 : decode cX12_kindBy 40 = .ok (.iload_n 0, 1) := by decide +kernel
theorem dX12_kindBy_41 : decode cX12_kindBy 41 = .ok (.bipush 116, 2) := by decide +kernel
theorem dX12_kindBy_43 : decode cX12_kindBy 43 = .ok (.if_icmp .ne 7, 3) := by decide +kernel
theorem dX12_kindBy_46 : decode cX12_kindBy 46 = .ok (.iconst 5, 1) := by decide +kernel
theorem dX12_kindBy_47 : decode cX12_kindBy 47 = .ok (.goto 5, 3) := by decide +kernel
theorem dX12_kindBy_50 : decode cX12_kindBy 50 = .ok (.ldc 97, 2) := by decide +kernel
theorem dX12_kindBy_52 : decode cX12_kindBy 52 = .ok (.ireturn, 1) := by decide +kernel
theorem dX12_readPlaces_0 : decode cX12_readPlaces 0 = .ok (.aload_n 0, 1) := by decide +kernel
theorem dX12_readPlaces_1 : decode cX12_readPlaces 1 = .ok (.aload_n 0, 1) := by decide +kernel
theorem dX12_readPlaces_2 : decode cX12_readPlaces 2 = .ok (.bipush 112, 2) := by decide +kernel
theorem dX12_readPlaces_4 : decode cX12_readPlaces 4 = .ok (.invokevirtual 126, 3) := by decide +kernel
theorem dX12_readPlaces_7 : decode cX12_readPlaces 7 = .ok (.invokevirtual 119, 3) := by decide +kernel
theorem dX12_readPlaces_10 : decode cX12_readPlaces 10 = .ok (.iconst 0, 1) := by decide +kernel
theorem dX12_readPlaces_11 : decode cX12_readPlaces 11 = .ok (.istore_n 1, 1) := by decide +kernel
theorem dX12_readPlaces_12 : decode cX12_readPlaces 12 = .ok (.iload_n 1, 1) := by decide +kernel
theorem dX12_readPlaces_13 : decode cX12_readPlaces 13 = .ok (.aload_n 0, 1) := by decide +kernel
theorem dX12_readPlaces_14 : decode cX12_readPlaces 14 = .ok (.getfield 22, 3) := by decide +kernel
theorem dX12_readPlaces_17 : decode cX12_readPlaces 17 = .ok (.iconst 0, 1) := by decide +kernel
theorem dX12_readPlaces_18 : decode cX12_readPlaces 18 = .ok (.iaload, 1) := by decide +kernel
theorem dX12_readPlaces_19 : decode cX12_readPlaces 19 = .ok (.if_icmp .ge 55, 3) := by decide +kernel
theorem dX12_readPlaces_22 : decode cX12_readPlaces 22 = .ok (.aload_n 0, 1) := by decide +kernel
theorem dX12_readPlaces_23 : decode cX12_readPlaces 23 = .ok (.getfield 85, 3) := by decide +kernel
theorem dX12_readPlaces_26 : decode cX12_readPlaces 26 = .ok (.ifCond .ne 48, 3) := by decide +kernel
theorem dX12_readPlaces_29 : decode cX12_readPlaces 29 = .ok (.aload_n 0, 1) := by decide +kernel
theorem dX12_readPlaces_30 : decode cX12_readPlaces 30 = .ok (.getfield 22, 3) := by decide +kernel
theorem dX12_readPlaces_33 : decode cX12_readPlaces 33 = .ok (.bipush 12, 2) := by decide +kernel
theorem dX12_readPlaces_35 : decode cX12_readPlaces 35 = .ok (.iload_n 1, 1) := by decide +kernel
theorem dX12_readPlaces_36 : decode cX12_readPlaces 36 = .ok (.iadd, 1) := by decide +kernel
theorem dX12_readPlaces_37 : decode cX12_readPlaces 37 = .ok (.aload_n 0, 1) := by decide +kernel
theorem dX12_readPlaces_38 : decode cX12_readPlaces 38 = .ok (.iconst 1, 1) := by decide +kernel
theorem dX12_readPlaces_39 : decode cX12_readPlaces 39 = .ok (.bipush 9, 2) := by decide +kernel
theorem dX12_readPlaces_41 : decode cX12_readPlaces 41 = .ok (.invokevirtual 129, 3) := by decide +kernel
theorem dX12_readPlaces_44 : decode cX12_readPlaces 44 = .ok (.iastore, 1) := by decide +kernel
theorem dX12_readPlaces_45 : decode cX12_readPlaces 45 = .ok (.aload_n 0, 1) := by decide +kernel
theorem dX12_readPlaces_46 : decode cX12_readPlaces 46 = .ok (.iload_n 1, 1) := by decide +kernel
theorem dX12_readPlaces_47 : decode cX12_readPlaces 47 = .ok (.aload_n 0, 1) := by decide +kernel
theorem dX12_readPlaces_48 : decode cX12_readPlaces 48 = .ok (.getfield 22, 3) := by decide +kernel
theorem dX12_readPlaces_51 : decode cX12_readPlaces 51 = .ok (.iconst 0, 1) := by decide +kernel
theorem dX12_readPlaces_52 : decode cX12_readPlaces 52 = .ok (.iaload, 1) := by decide +kernel
theorem dX12_readPlaces_53 : decode cX12_readPlaces 53 = .ok (.iconst 1, 1) := by decide +kernel
theorem dX12_readPlaces_54 : decode cX12_readPlaces 54 = .ok (.isub, 1) := by decide +kernel
theorem dX12_readPlaces_55 : decode cX12_readPlaces 55 = .ok (.if_icmp .ne 8, 3) := by decide +kernel
theorem dX12_readPlaces_58 : decode cX12_readPlaces 58 = .ok (.bipush 59, 2) := by decide +kernel
theorem dX12_readPlaces_60 : decode cX12_readPlaces 60 = .ok (.goto 5, 3) := by decide +kernel
theorem dX12_readPlaces_63 : decode cX12_readPlaces 63 = .ok (.bipush 44, 2) := by decide +kernel
theorem dX12_readPlaces_65 : decode cX12_readPlaces 65 = .ok (.invokevirtual 133, 3) := by decide +kernel
theorem dX12_readPlaces_68 : decode cX12_readPlaces 68 = .ok (.iinc 1 1, 3) := by decide +kernel
theorem dX12_readPlaces_71 : decode cX12_readPlaces 71 = .ok (.goto (-59), 3) := by decide +kernel
theorem dX12_readPlaces_74 : decode cX12_readPlaces 74 = .ok (.return_, 1) := by decide +kernel
theorem dX12_readRidge_0 : decode cX12_readRidge 0 = .ok (.aload_n 0, 1) := by decide +kernel
theorem dX12_readRidge_1 : decode cX12_readRidge 1 = .ok (.getfield 22, 3) := by decide +kernel
theorem dX12_readRidge_4 : decode cX12_readRidge 4 = .ok (.iconst 4, 1) := by decide +kernel
theorem dX12_readRidge_5 : decode cX12_readRidge 5 = .ok (.iaload, 1) := by decide +kernel
theorem dX12_readRidge_6 : decode cX12_readRidge 6 = .ok (.iconst 4, 1) := by decide +kernel
theorem dX12_readRidge_7 : decode cX12_readRidge 7 = .ok (.if_icmp .ne 8, 3) := by decide +kernel
theorem dX12_readRidge_10 : decode cX12_readRidge 10 = .ok (.aload_n 0, 1) := by decide +kernel
theorem dX12_readRidge_11 : decode cX12_readRidge 11 = .ok (.iconst 3, 1) := by decide +kernel
theorem dX12_readRidge_12 : decode cX12_readRidge 12 = .ok (.invokevirtual 112, 3) := by decide +kernel
theorem dX12_readRidge_15 : decode cX12_readRidge 15 = .ok (.aload_n 0, 1) := by decide +kernel
theorem dX12_readRidge_16 : decode cX12_readRidge 16 = .ok (.iconst 1, 1) := by decide +kernel
theorem dX12_readRidge_17 : decode cX12_readRidge 17 = .ok (.invokevirtual 119, 3) := by decide +kernel
theorem dX12_readRidge_20 : decode cX12_readRidge 20 = .ok (.aload_n 0, 1) := by decide +kernel
theorem dX12_readRidge_21 : decode cX12_readRidge 21 = .ok (.getfield 85, 3) := by decide +kernel
theorem dX12_readRidge_24 : decode cX12_readRidge 24 = .ok (.ifCond .ne 52, 3) := by decide +kernel
theorem dX12_readRidge_27 : decode cX12_readRidge 27 = .ok (.aload_n 0, 1) := by decide +kernel
theorem dX12_readRidge_28 : decode cX12_readRidge 28 = .ok (.getfield 109, 3) := by decide +kernel
theorem dX12_readRidge_31 : decode cX12_readRidge 31 = .ok (.iconst 3, 1) := by decide +kernel
theorem dX12_readRidge_32 : decode cX12_readRidge 32 = .ok (.if_icmp .ne 44, 3) := by decide +kernel
theorem dX12_readRidge_35 : decode cX12_readRidge 35 = .ok (.aload_n 0, 1) := by decide +kernel
theorem dX12_readRidge_36 : decode cX12_readRidge 36 = .ok (.getfield 98, 3) := by decide +kernel
theorem dX12_readRidge_39 : decode cX12_readRidge 39 = .ok (.i2l, 1) := by decide +kernel
theorem dX12_readRidge_40 : decode cX12_readRidge 40 = .ok (.lconst 0, 1) := by decide +kernel
theorem dX12_readRidge_41 : decode cX12_readRidge 41 = .ok (.aload_n 0, 1) := by decide +kernel
theorem dX12_readRidge_42 : decode cX12_readRidge 42 = .ok (.getfield 22, 3) := by decide +kernel
theorem dX12_readRidge_45 : decode cX12_readRidge 45 = .ok (.iconst 0, 1) := by decide +kernel
theorem dX12_readRidge_46 : decode cX12_readRidge 46 = .ok (.iaload, 1) := by decide +kernel
theorem dX12_readRidge_47 : decode cX12_readRidge 47 = .ok (.iconst 1, 1) := by decide +kernel
theorem dX12_readRidge_48 : decode cX12_readRidge 48 = .ok (.isub, 1) := by decide +kernel
theorem dX12_readRidge_49 : decode cX12_readRidge 49 = .ok (.i2l, 1) := by decide +kernel
theorem dX12_readRidge_50 : decode cX12_readRidge 50 = .ok (.invokestatic 64, 3) := by decide +kernel
theorem dX12_readRidge_53 : decode cX12_readRidge 53 = .ok (.ifCond .eq 23, 3) := by decide +kernel
theorem dX12_readRidge_56 : decode cX12_readRidge 56 = .ok (.aload_n 0, 1) := by decide +kernel
theorem dX12_readRidge_57 : decode cX12_readRidge 57 = .ok (.getfield 22, 3) := by decide +kernel
theorem dX12_readRidge_60 : decode cX12_readRidge 60 = .ok (.bipush 24, 2) := by decide +kernel
theorem dX12_readRidge_62 : decode cX12_readRidge 62 = .ok (.aload_n 0, 1) := by decide +kernel
theorem dX12_readRidge_63 : decode cX12_readRidge 63 = .ok (.getfield 98, 3) := by decide +kernel
theorem dX12_readRidge_66 : decode cX12_readRidge 66 = .ok (.iadd, 1) := by decide +kernel
theorem dX12_readRidge_67 : decode cX12_readRidge 67 = .ok (.iaload, 1) := by decide +kernel
theorem dX12_readRidge_68 : decode cX12_readRidge 68 = .ok (.ifCond .le 8, 3) := by decide +kernel
theorem dX12_readRidge_71 : decode cX12_readRidge 71 = .ok (.aload_n 0, 1) := by decide +kernel
theorem dX12_readRidge_72 : decode cX12_readRidge 72 = .ok (.iconst 2, 1) := by decide +kernel
theorem dX12_readRidge_73 : decode cX12_readRidge 73 = .ok (.invokevirtual 112, 3) := by decide +kernel
theorem dX12_readRidge_76 : decode cX12_readRidge 76 = .ok (.aload_n 0, 1) := by decide +kernel
theorem dX12_readRidge_77 : decode cX12_readRidge 77 = .ok (.iconst 0, 1) := by decide +kernel
theorem dX12_readRidge_78 : decode cX12_readRidge 78 = .ok (.aload_n 0, 1) := by decide +kernel
theorem dX12_readRidge_79 : decode cX12_readRidge 79 = .ok (.getfield 22, 3) := by decide +kernel
theorem dX12_readRidge_82 : decode cX12_readRidge 82 = .ok (.iconst 0, 1) := by decide +kernel
theorem dX12_readRidge_83 : decode cX12_readRidge 83 = .ok (.iaload, 1) := by decide +kernel
theorem dX12_readRidge_84 : decode cX12_readRidge 84 = .ok (.iconst 1, 1) := by decide +kernel
theorem dX12_readRidge_85 : decode cX12_readRidge 85 = .ok (.isub, 1) := by decide +kernel
theorem dX12_readRidge_86 : decode cX12_readRidge 86 = .ok (.invokevirtual 129, 3) := by decide +kernel
theorem dX12_readRidge_89 : decode cX12_readRidge 89 = .ok (.istore_n 1, 1) := by decide +kernel
theorem dX12_readRidge_90 : decode cX12_readRidge 90 = .ok (.aload_n 0, 1) := by decide +kernel
theorem dX12_readRidge_91 : decode cX12_readRidge 91 = .ok (.bipush 44, 2) := by decide +kernel
theorem dX12_readRidge_93 : decode cX12_readRidge 93 = .ok (.invokevirtual 133, 3) := by decide +kernel
theorem dX12_readRidge_96 : decode cX12_readRidge 96 = .ok (.aload_n 0, 1) := by decide +kernel
theorem dX12_readRidge_97 : decode cX12_readRidge 97 = .ok (.iconst 1, 1) := by decide +kernel
theorem dX12_readRidge_98 : decode cX12_readRidge 98 = .ok (.bipush 9, 2) := by decide +kernel
theorem dX12_readRidge_100 : decode cX12_readRidge 100 = .ok (.invokevirtual 129, 3) := by decide +kernel
theorem dX12_readRidge_103 : decode cX12_readRidge 103 = .ok (.istore_n 2, 1) := by decide +kernel
theorem dX12_readRidge_104 : decode cX12_readRidge 104 = .ok (.aload_n 0, 1) := by decide +kernel
theorem dX12_readRidge_105 : decode cX12_readRidge 105 = .ok (.bipush 59, 2) := by decide +kernel
theorem dX12_readRidge_107 : decode cX12_readRidge 107 = .ok (.invokevirtual 133, 3) := by decide +kernel
theorem dX12_readRidge_110 : decode cX12_readRidge 110 = .ok (.aload_n 0, 1) := by decide +kernel
theorem dX12_readRidge_111 : decode cX12_readRidge 111 = .ok (.getfield 85, 3) := by decide +kernel
theorem dX12_readRidge_114 : decode cX12_readRidge 114 = .ok (.ifCond .ne 23, 3) := by decide +kernel
theorem dX12_readRidge_117 : decode cX12_readRidge 117 = .ok (.aload_n 0, 1) := by decide +kernel
theorem dX12_readRidge_118 : decode cX12_readRidge 118 = .ok (.getfield 22, 3) := by decide +kernel
theorem dX12_readRidge_121 : decode cX12_readRidge 121 = .ok (.bipush 24, 2) := by decide +kernel
theorem dX12_readRidge_123 : decode cX12_readRidge 123 = .ok (.iload_n 1, 1) := by decide +kernel
theorem dX12_readRidge_124 : decode cX12_readRidge 124 = .ok (.iadd, 1) := by decide +kernel
theorem dX12_readRidge_125 : decode cX12_readRidge 125 = .ok (.iload_n 2, 1) := by decide +kernel
theorem dX12_readRidge_126 : decode cX12_readRidge 126 = .ok (.iastore, 1) := by decide +kernel
theorem dX12_readRidge_127 : decode cX12_readRidge 127 = .ok (.aload_n 0, 1) := by decide +kernel
theorem dX12_readRidge_128 : decode cX12_readRidge 128 = .ok (.getfield 22, 3) := by decide +kernel
theorem dX12_readRidge_131 : decode cX12_readRidge 131 = .ok (.iconst 4, 1) := by decide +kernel
theorem dX12_readRidge_132 : decode cX12_readRidge 132 = .ok (.dup2, 1) := by decide +kernel
theorem dX12_readRidge_133 : decode cX12_readRidge 133 = .ok (.iaload, 1) := by decide +kernel
theorem dX12_readRidge_134 : decode cX12_readRidge 134 = .ok (.iconst 1, 1) := by decide +kernel
theorem dX12_readRidge_135 : decode cX12_readRidge 135 = .ok (.iadd, 1) := by decide +kernel
theorem dX12_readRidge_136 : decode cX12_readRidge 136 = .ok (.iastore, 1) := by decide +kernel
theorem dX12_readRidge_137 : decode cX12_readRidge 137 = .ok (.return_, 1) := by decide +kernel
theorem dX12_readSeeker_0 : decode cX12_readSeeker 0 = .ok (.aload_n 0, 1) := by decide +kernel
theorem dX12_readSeeker_1 : decode cX12_readSeeker 1 = .ok (.getfield 98, 3) := by decide +kernel
theorem dX12_readSeeker_4 : decode cX12_readSeeker 4 = .ok (.invokestatic 136, 3) := by decide +kernel
theorem dX12_readSeeker_7 : decode cX12_readSeeker 7 = .ok (.istore_n 1, 1) := by decide +kernel
theorem dX12_readSeeker_8 : decode cX12_readSeeker 8 = .ok (.aload_n 0, 1) := by decide +kernel
theorem dX12_readSeeker_9 : decode cX12_readSeeker 9 = .ok (.getfield 22, 3) := by decide +kernel
theorem dX12_readSeeker_12 : decode cX12_readSeeker 12 = .ok (.iconst 5, 1) := by decide +kernel
theorem dX12_readSeeker_13 : decode cX12_readSeeker 13 = .ok (.iaload, 1) := by decide +kernel
theorem dX12_readSeeker_14 : decode cX12_readSeeker 14 = .ok (.iconst 4, 1) := by decide +kernel
theorem dX12_readSeeker_15 : decode cX12_readSeeker 15 = .ok (.if_icmp .ne 8, 3) := by decide +kernel
theorem dX12_readSeeker_18 : decode cX12_readSeeker 18 = .ok (.aload_n 0, 1) := by decide +kernel
theorem dX12_readSeeker_19 : decode cX12_readSeeker 19 = .ok (.iconst 3, 1) := by decide +kernel
theorem dX12_readSeeker_20 : decode cX12_readSeeker 20 = .ok (.invokevirtual 112, 3) := by decide +kernel
theorem dX12_readSeeker_23 : decode cX12_readSeeker 23 = .ok (.aload_n 0, 1) := by decide +kernel
theorem dX12_readSeeker_24 : decode cX12_readSeeker 24 = .ok (.iconst 1, 1) := by decide +kernel
theorem dX12_readSeeker_25 : decode cX12_readSeeker 25 = .ok (.invokevirtual 119, 3) := by decide +kernel
theorem dX12_readSeeker_28 : decode cX12_readSeeker 28 = .ok (.aload_n 0, 1) := by decide +kernel
theorem dX12_readSeeker_29 : decode cX12_readSeeker 29 = .ok (.iconst 0, 1) := by decide +kernel
theorem dX12_readSeeker_30 : decode cX12_readSeeker 30 = .ok (.bipush 10, 2) := by decide +kernel
theorem dX12_readSeeker_32 : decode cX12_readSeeker 32 = .ok (.invokevirtual 129, 3) := by decide +kernel
theorem dX12_readSeeker_35 : decode cX12_readSeeker 35 = .ok (.istore_n 2, 1) := by decide +kernel
theorem dX12_readSeeker_36 : decode cX12_readSeeker 36 = .ok (.aload_n 0, 1) := by decide +kernel
theorem dX12_readSeeker_37 : decode cX12_readSeeker 37 = .ok (.bipush 44, 2) := by decide +kernel
theorem dX12_readSeeker_39 : decode cX12_readSeeker 39 = .ok (.invokevirtual 133, 3) := by decide +kernel
theorem dX12_readSeeker_42 : decode cX12_readSeeker 42 = .ok (.aload_n 0, 1) := by decide +kernel
theorem dX12_readSeeker_43 : decode cX12_readSeeker 43 = .ok (.iconst 0, 1) := by decide +kernel
theorem dX12_readSeeker_44 : decode cX12_readSeeker 44 = .ok (.bipush 10, 2) := by decide +kernel
theorem dX12_readSeeker_46 : decode cX12_readSeeker 46 = .ok (.invokevirtual 129, 3) := by decide +kernel
theorem dX12_readSeeker_49 : decode cX12_readSeeker 49 = .ok (.istore_n 3, 1) := by decide +kernel
theorem dX12_readSeeker_50 : decode cX12_readSeeker 50 = .ok (.aload_n 0, 1) := by decide +kernel
theorem dX12_readSeeker_51 : decode cX12_readSeeker 51 = .ok (.bipush 59, 2) := by decide +kernel
theorem dX12_readSeeker_53 : decode cX12_readSeeker 53 = .ok (.invokevirtual 133, 3) := by decide +kernel
theorem dX12_readSeeker_56 : decode cX12_readSeeker 56 = .ok (.aload_n 0, 1) := by decide +kernel
theorem dX12_readSeeker_57 : decode cX12_readSeeker 57 = .ok (.getfield 85, 3) := by decide +kernel
theorem dX12_readSeeker_60 : decode cX12_readSeeker 60 = .ok (.ifCond .ne 54, 3) := by decide +kernel
theorem dX12_readSeeker_63 : decode cX12_readSeeker 63 = .ok (.bipush 36, 2) := by decide +kernel
theorem dX12_readSeeker_65 : decode cX12_readSeeker 65 = .ok (.iconst 3, 1) := by decide +kernel
theorem dX12_readSeeker_66 : decode cX12_readSeeker 66 = .ok (.aload_n 0, 1) := by decide +kernel
theorem dX12_readSeeker_67 : decode cX12_readSeeker 67 = .ok (.getfield 22, 3) := by decide +kernel
theorem dX12_readSeeker_70 : decode cX12_readSeeker 70 = .ok (.iconst 5, 1) := by decide +kernel
theorem dX12_readSeeker_71 : decode cX12_readSeeker 71 = .ok (.iaload, 1) := by decide +kernel
theorem dX12_readSeeker_72 : decode cX12_readSeeker 72 = .ok (.imul, 1) := by decide +kernel
theorem dX12_readSeeker_73 : decode cX12_readSeeker 73 = .ok (.iadd, 1) := by decide +kernel
theorem dX12_readSeeker_74 : decode cX12_readSeeker 74 = .ok (.istore 4, 2) := by decide +kernel
theorem dX12_readSeeker_76 : decode cX12_readSeeker 76 = .ok (.aload_n 0, 1) := by decide +kernel
theorem dX12_readSeeker_77 : decode cX12_readSeeker 77 = .ok (.getfield 22, 3) := by decide +kernel
theorem dX12_readSeeker_80 : decode cX12_readSeeker 80 = .ok (.iload 4, 2) := by decide +kernel
theorem dX12_readSeeker_82 : decode cX12_readSeeker 82 = .ok (.iload_n 1, 1) := by decide +kernel
theorem dX12_readSeeker_83 : decode cX12_readSeeker 83 = .ok (.iastore, 1) := by decide +kernel
theorem dX12_readSeeker_84 : decode cX12_readSeeker 84 = .ok (.aload_n 0, 1) := by decide +kernel
theorem dX12_readSeeker_85 : decode cX12_readSeeker 85 = .ok (.getfield 22, 3) := by decide +kernel
theorem dX12_readSeeker_88 : decode cX12_readSeeker 88 = .ok (.iload 4, 2) := by decide +kernel
theorem dX12_readSeeker_90 : decode cX12_readSeeker 90 = .ok (.iconst 1, 1) := by decide +kernel
theorem dX12_readSeeker_91 : decode cX12_readSeeker 91 = .ok (.iadd, 1) := by decide +kernel
theorem dX12_readSeeker_92 : decode cX12_readSeeker 92 = .ok (.iload_n 2, 1) := by decide +kernel
theorem dX12_readSeeker_93 : decode cX12_readSeeker 93 = .ok (.iastore, 1) := by decide +kernel
theorem dX12_readSeeker_94 : decode cX12_readSeeker 94 = .ok (.aload_n 0, 1) := by decide +kernel
theorem dX12_readSeeker_95 : decode cX12_readSeeker 95 = .ok (.getfield 22, 3) := by decide +kernel
theorem dX12_readSeeker_98 : decode cX12_readSeeker 98 = .ok (.iload 4, 2) := by decide +kernel
theorem dX12_readSeeker_100 : decode cX12_readSeeker 100 = .ok (.iconst 2, 1) := by decide +kernel
theorem dX12_readSeeker_101 : decode cX12_readSeeker 101 = .ok (.iadd, 1) := by decide +kernel
theorem dX12_readSeeker_102 : decode cX12_readSeeker 102 = .ok (.iload_n 3, 1) := by decide +kernel
theorem dX12_readSeeker_103 : decode cX12_readSeeker 103 = .ok (.iastore, 1) := by decide +kernel
theorem dX12_readSeeker_104 : decode cX12_readSeeker 104 = .ok (.aload_n 0, 1) := by decide +kernel
theorem dX12_readSeeker_105 : decode cX12_readSeeker 105 = .ok (.getfield 22, 3) := by decide +kernel
theorem dX12_readSeeker_108 : decode cX12_readSeeker 108 = .ok (.iconst 5, 1) := by decide +kernel
theorem dX12_readSeeker_109 : decode cX12_readSeeker 109 = .ok (.dup2, 1) := by decide +kernel
theorem dX12_readSeeker_110 : decode cX12_readSeeker 110 = .ok (.iaload, 1) := by decide +kernel
theorem dX12_readSeeker_111 : decode cX12_readSeeker 111 = .ok (.iconst 1, 1) := by decide +kernel
theorem dX12_readSeeker_112 : decode cX12_readSeeker 112 = .ok (.iadd, 1) := by decide +kernel
theorem dX12_readSeeker_113 : decode cX12_readSeeker 113 = .ok (.iastore, 1) := by decide +kernel
theorem dX12_readSeeker_114 : decode cX12_readSeeker 114 = .ok (.return_, 1) := by decide +kernel
theorem dX12_roll_0 : decode cX12_roll 0 = .ok (.aload_n 0, 1) := by decide +kernel
theorem dX12_roll_1 : decode cX12_roll 1 = .ok (.iconst 0, 1) := by decide +kernel
theorem dX12_roll_2 : decode cX12_roll 2 = .ok (.putfield 54, 3) := by decide +kernel
theorem dX12_roll_5 : decode cX12_roll 5 = .ok (.aload_n 0, 1) := by decide +kernel
theorem dX12_roll_6 : decode cX12_roll 6 = .ok (.invokevirtual 139, 3) := by decide +kernel
theorem dX12_roll_9 : decode cX12_roll 9 = .ok (.iconst 0, 1) := by decide +kernel
theorem dX12_roll_10 : decode cX12_roll 10 = .ok (.istore_n 1, 1) := by decide +kernel
theorem dX12_roll_11 : decode cX12_roll 11 = .ok (.iload_n 1, 1) := by decide +kernel
theorem dX12_roll_12 : decode cX12_roll 12 = .ok (.bipush 48, 2) := by decide +kernel
theorem dX12_roll_14 : decode cX12_roll 14 = .ok (.if_icmp .ge 16, 3) := by decide +kernel
theorem dX12_roll_17 : decode cX12_roll 17 = .ok (.aload_n 0, 1) := by decide +kernel
theorem dX12_roll_18 : decode cX12_roll 18 = .ok (.getfield 22, 3) := by decide +kernel
theorem dX12_roll_21 : decode cX12_roll 21 = .ok (.iload_n 1, 1) := by decide +kernel
theorem dX12_roll_22 : decode cX12_roll 22 = .ok (.iconst 0, 1) := by decide +kernel
theorem dX12_roll_23 : decode cX12_roll 23 = .ok (.iastore, 1) := by decide +kernel
theorem dX12_roll_24 : decode cX12_roll 24 = .ok (.iinc 1 1, 3) := by decide +kernel
theorem dX12_roll_27 : decode cX12_roll 27 = .ok (.goto (-16), 3) := by decide +kernel
theorem dX12_roll_30 : decode cX12_roll 30 = .ok (.aload_n 0, 1) := by decide +kernel
theorem dX12_roll_31 : decode cX12_roll 31 = .ok (.getfield 22, 3) := by decide +kernel
theorem dX12_roll_34 : decode cX12_roll 34 = .ok (.bipush 7, 2) := by decide +kernel
theorem dX12_roll_36 : decode cX12_roll 36 = .ok (.iconst 1, 1) := by decide +kernel
theorem dX12_roll_37 : decode cX12_roll 37 = .ok (.iastore, 1) := by decide +kernel
theorem dX12_roll_38 : decode cX12_roll 38 = .ok (.aload_n 0, 1) := by decide +kernel
theorem dX12_roll_39 : decode cX12_roll 39 = .ok (.getfield 22, 3) := by decide +kernel
theorem dX12_roll_42 : decode cX12_roll 42 = .ok (.bipush 11, 2) := by decide +kernel
theorem dX12_roll_44 : decode cX12_roll 44 = .ok (.ldc 97, 2) := by decide +kernel
theorem dX12_roll_46 : decode cX12_roll 46 = .ok (.iastore, 1) := by decide +kernel
theorem dX12_roll_47 : decode cX12_roll 47 = .ok (.aload_n 0, 1) := by decide +kernel
theorem dX12_roll_48 : decode cX12_roll 48 = .ok (.aload_n 0, 1) := by decide +kernel
theorem dX12_roll_49 : decode cX12_roll 49 = .ok (.bipush 111, 2) := by decide +kernel
theorem dX12_roll_51 : decode cX12_roll 51 = .ok (.invokevirtual 126, 3) := by decide +kernel
theorem dX12_roll_54 : decode cX12_roll 54 = .ok (.invokevirtual 119, 3) := by decide +kernel
theorem dX12_roll_57 : decode cX12_roll 57 = .ok (.aload_n 0, 1) := by decide +kernel
theorem dX12_roll_58 : decode cX12_roll 58 = .ok (.getfield 22, 3) := by decide +kernel
theorem dX12_roll_61 : decode cX12_roll 61 = .ok (.iconst 0, 1) := by decide +kernel
theorem dX12_roll_62 : decode cX12_roll 62 = .ok (.aload_n 0, 1) := by decide +kernel
theorem dX12_roll_63 : decode cX12_roll 63 = .ok (.iconst 4, 1) := by decide +kernel
theorem dX12_roll_64 : decode cX12_roll 64 = .ok (.bipush 12, 2) := by decide +kernel
theorem dX12_roll_66 : decode cX12_roll 66 = .ok (.invokevirtual 129, 3) := by decide +kernel
theorem dX12_roll_69 : decode cX12_roll 69 = .ok (.iastore, 1) := by decide +kernel
theorem dX12_roll_70 : decode cX12_roll 70 = .ok (.aload_n 0, 1) := by decide +kernel
theorem dX12_roll_71 : decode cX12_roll 71 = .ok (.bipush 44, 2) := by decide +kernel
theorem dX12_roll_73 : decode cX12_roll 73 = .ok (.invokevirtual 133, 3) := by decide +kernel
theorem dX12_roll_76 : decode cX12_roll 76 = .ok (.aload_n 0, 1) := by decide +kernel
theorem dX12_roll_77 : decode cX12_roll 77 = .ok (.getfield 22, 3) := by decide +kernel
theorem dX12_roll_80 : decode cX12_roll 80 = .ok (.iconst 1, 1) := by decide +kernel
theorem dX12_roll_81 : decode cX12_roll 81 = .ok (.aload_n 0, 1) := by decide +kernel
theorem dX12_roll_82 : decode cX12_roll 82 = .ok (.iconst 0, 1) := by decide +kernel
theorem dX12_roll_83 : decode cX12_roll 83 = .ok (.bipush 9, 2) := by decide +kernel
theorem dX12_roll_85 : decode cX12_roll 85 = .ok (.invokevirtual 129, 3) := by decide +kernel
theorem dX12_roll_88 : decode cX12_roll 88 = .ok (.iastore, 1) := by decide +kernel
theorem dX12_roll_89 : decode cX12_roll 89 = .ok (.aload_n 0, 1) := by decide +kernel
theorem dX12_roll_90 : decode cX12_roll 90 = .ok (.bipush 44, 2) := by decide +kernel
theorem dX12_roll_92 : decode cX12_roll 92 = .ok (.invokevirtual 133, 3) := by decide +kernel
theorem dX12_roll_95 : decode cX12_roll 95 = .ok (.aload_n 0, 1) := by decide +kernel
theorem dX12_roll_96 : decode cX12_roll 96 = .ok (.getfield 22, 3) := by decide +kernel
theorem dX12_roll_99 : decode cX12_roll 99 = .ok (.iconst 2, 1) := by decide +kernel
theorem dX12_roll_100 : decode cX12_roll 100 = .ok (.aload_n 0, 1) := by decide +kernel
theorem dX12_roll_101 : decode cX12_roll 101 = .ok (.iconst 0, 1) := by decide +kernel
theorem dX12_roll_102 : decode cX12_roll 102 = .ok (.bipush 20, 2) := by decide +kernel
theorem dX12_roll_104 : decode cX12_roll 104 = .ok (.invokevirtual 129, 3) := by decide +kernel
theorem dX12_roll_107 : decode cX12_roll 107 = .ok (.iastore, 1) := by decide +kernel
theorem dX12_roll_108 : decode cX12_roll 108 = .ok (.aload_n 0, 1) := by decide +kernel
theorem dX12_roll_109 : decode cX12_roll 109 = .ok (.bipush 44, 2) := by decide +kernel
theorem dX12_roll_111 : decode cX12_roll 111 = .ok (.invokevirtual 133, 3) := by decide +kernel
theorem dX12_roll_114 : decode cX12_roll 114 = .ok (.aload_n 0, 1) := by decide +kernel
theorem dX12_roll_115 : decode cX12_roll 115 = .ok (.getfield 22, 3) := by decide +kernel
theorem dX12_roll_118 : decode cX12_roll 118 = .ok (.iconst 3, 1) := by decide +kernel
theorem dX12_roll_119 : decode cX12_roll 119 = .ok (.aload_n 0, 1) := by decide +kernel
theorem dX12_roll_120 : decode cX12_roll 120 = .ok (.iconst 0, 1) := by decide +kernel
theorem dX12_roll_121 : decode cX12_roll 121 = .ok (.bipush 9, 2) := by decide +kernel
theorem dX12_roll_123 : decode cX12_roll 123 = .ok (.invokevirtual 129, 3) := by decide +kernel
theorem dX12_roll_126 : decode cX12_roll 126 = .ok (.iastore, 1) := by decide +kernel
theorem dX12_roll_127 : decode cX12_roll 127 = .ok (.aload_n 0, 1) := by decide +kernel
theorem dX12_roll_128 : decode cX12_roll 128 = .ok (.bipush 59, 2) := by decide +kernel
theorem dX12_roll_130 : decode cX12_roll 130 = .ok (.invokevirtual 133, 3) := by decide +kernel
theorem dX12_roll_133 : decode cX12_roll 133 = .ok (.aload_n 0, 1) := by decide +kernel
theorem dX12_roll_134 : decode cX12_roll 134 = .ok (.invokevirtual 142, 3) := by decide +kernel
theorem dX12_roll_137 : decode cX12_roll 137 = .ok (.aload_n 0, 1) := by decide +kernel
theorem dX12_roll_138 : decode cX12_roll 138 = .ok (.bipush 114, 2) := by decide +kernel
theorem dX12_roll_140 : decode cX12_roll 140 = .ok (.invokevirtual 126, 3) := by decide +kernel
theorem dX12_roll_143 : decode cX12_roll 143 = .ok (.ifCond .eq 10, 3) := by decide +kernel
theorem dX12_roll_146 : decode cX12_roll 146 = .ok (.aload_n 0, 1) := by decide +kernel
theorem dX12_roll_147 : decode cX12_roll 147 = .ok (.invokevirtual 145, 3) := by decide +kernel
theorem dX12_roll_150 : decode cX12_roll 150 = .ok (.goto (-13), 3) := by decide +kernel
theorem dX12_roll_153 : decode cX12_roll 153 = .ok (.aload_n 0, 1) := by decide +kernel
theorem dX12_roll_154 : decode cX12_roll 154 = .ok (.getfield 85, 3) := by decide +kernel
theorem dX12_roll_157 : decode cX12_roll 157 = .ok (.ifCond .ne 30, 3) := by decide +kernel
theorem dX12_roll_160 : decode cX12_roll 160 = .ok (.aload_n 0, 1) := by decide +kernel
theorem dX12_roll_161 : decode cX12_roll 161 = .ok (.getfield 109, 3) := by decide +kernel
theorem dX12_roll_164 : decode cX12_roll 164 = .ok (.iconst 2, 1) := by decide +kernel
theorem dX12_roll_165 : decode cX12_roll 165 = .ok (.if_icmp .ne 22, 3) := by decide +kernel
theorem dX12_roll_168 : decode cX12_roll 168 = .ok (.aload_n 0, 1) := by decide +kernel
theorem dX12_roll_169 : decode cX12_roll 169 = .ok (.getfield 98, 3) := by decide +kernel
theorem dX12_roll_172 : decode cX12_roll 172 = .ok (.invokestatic 136, 3) := by decide +kernel
theorem dX12_roll_175 : decode cX12_roll 175 = .ok (.ldc 97, 2) := by decide +kernel
theorem dX12_roll_177 : decode cX12_roll 177 = .ok (.if_icmp .eq 10, 3) := by decide +kernel
theorem dX12_roll_180 : decode cX12_roll 180 = .ok (.aload_n 0, 1) := by decide +kernel
theorem dX12_roll_181 : decode cX12_roll 181 = .ok (.invokevirtual 148, 3) := by decide +kernel
theorem dX12_roll_184 : decode cX12_roll 184 = .ok (.goto (-31), 3) := by decide +kernel
theorem dX12_roll_187 : decode cX12_roll 187 = .ok (.aload_n 0, 1) := by decide +kernel
theorem dX12_roll_188 : decode cX12_roll 188 = .ok (.invokevirtual 151, 3) := by decide +kernel
theorem dX12_roll_191 : decode cX12_roll 191 = .ok (.ifCond .eq 11, 3) := by decide +kernel
theorem dX12_roll_194 : decode cX12_roll 194 = .ok (.ldc 155, 2) := by decide +kernel
theorem dX12_roll_196 : decode cX12_roll 196 = .ok (.aload_n 0, 1) := by decide +kernel
theorem dX12_roll_197 : decode cX12_roll 197 = .ok (.getfield 91, 3) := by decide +kernel
theorem dX12_roll_200 : decode cX12_roll 200 = .ok (.isub, 1) := by decide +kernel
theorem dX12_roll_201 : decode cX12_roll 201 = .ok (.ireturn, 1) := by decide +kernel
theorem dX12_roll_202 : decode cX12_roll 202 = .ok (.aload_n 0, 1) := by decide +kernel
theorem dX12_roll_203 : decode cX12_roll 203 = .ok (.iconst 0, 1) := by decide +kernel
theorem dX12_roll_204 : decode cX12_roll 204 = .ok (.putfield 156, 3) := by decide +kernel
theorem dX12_roll_207 : decode cX12_roll 207 = .ok (.iconst 0, 1) := by decide +kernel
theorem dX12_roll_208 : decode cX12_roll 208 = .ok (.istore_n 1, 1) := by decide +kernel
theorem dX12_roll_209 : decode cX12_roll 209 = .ok (.iload_n 1, 1) := by decide +kernel
theorem dX12_roll_210 : decode cX12_roll 210 = .ok (.bipush 48, 2) := by decide +kernel
theorem dX12_roll_212 : decode cX12_roll 212 = .ok (.if_icmp .ge 21, 3) := by decide +kernel
theorem dX12_roll_215 : decode cX12_roll 215 = .ok (.aload_n 0, 1) := by decide +kernel
theorem dX12_roll_216 : decode cX12_roll 216 = .ok (.getfield 19, 3) := by decide +kernel
theorem dX12_roll_219 : decode cX12_roll 219 = .ok (.iload_n 1, 1) := by decide +kernel
theorem dX12_roll_220 : decode cX12_roll 220 = .ok (.aload_n 0, 1) := by decide +kernel
theorem dX12_roll_221 : decode cX12_roll 221 = .ok (.getfield 22, 3) := by decide +kernel
theorem dX12_roll_224 : decode cX12_roll 224 = .ok (.iload_n 1, 1) := by decide +kernel
theorem dX12_roll_225 : decode cX12_roll 225 = .ok (.iaload, 1) := by decide +kernel
theorem dX12_roll_226 : decode cX12_roll 226 = .ok (.iastore, 1) := by decide +kernel
theorem dX12_roll_227 : decode cX12_roll 227 = .ok (.iinc 1 1, 3) := by decide +kernel
theorem dX12_roll_230 : decode cX12_roll 230 = .ok (.goto (-21), 3) := by decide +kernel
theorem dX12_roll_233 : decode cX12_roll 233 = .ok (.iconst 0, 1) := by decide +kernel
theorem dX12_roll_234 : decode cX12_roll 234 = .ok (.istore_n 1, 1) := by decide +kernel
theorem dX12_roll_235 : decode cX12_roll 235 = .ok (.iload_n 1, 1) := by decide +kernel
theorem dX12_roll_236 : decode cX12_roll 236 = .ok (.bipush 13, 2) := by decide +kernel
theorem dX12_roll_238 : decode cX12_roll 238 = .ok (.if_icmp .ge 39, 3) := by decide +kernel
theorem dX12_roll_241 : decode cX12_roll 241 = .ok (.aload_n 0, 1) := by decide +kernel
theorem dX12_roll_242 : decode cX12_roll 242 = .ok (.getfield 25, 3) := by decide +kernel
theorem dX12_roll_245 : decode cX12_roll 245 = .ok (.iload_n 1, 1) := by decide +kernel
theorem dX12_roll_246 : decode cX12_roll 246 = .ok (.iload_n 1, 1) := by decide +kernel
theorem dX12_roll_247 : decode cX12_roll 247 = .ok (.aload_n 0, 1) := by decide +kernel
theorem dX12_roll_248 : decode cX12_roll 248 = .ok (.getfield 19, 3) := by decide +kernel
theorem dX12_roll_251 : decode cX12_roll 251 = .ok (.iconst 0, 1) := by decide +kernel
theorem dX12_roll_252 : decode cX12_roll 252 = .ok (.iaload, 1) := by decide +kernel
theorem dX12_roll_253 : decode cX12_roll 253 = .ok (.if_icmp .ge 16, 3) := by decide +kernel
theorem dX12_roll_256 : decode cX12_roll 256 = .ok (.aload_n 0, 1) := by decide +kernel
theorem dX12_roll_257 : decode cX12_roll 257 = .ok (.getfield 19, 3) := by decide +kernel
theorem dX12_roll_260 : decode cX12_roll 260 = .ok (.bipush 12, 2) := by decide +kernel
theorem dX12_roll_262 : decode cX12_roll 262 = .ok (.iload_n 1, 1) := by decide +kernel
theorem dX12_roll_263 : decode cX12_roll 263 = .ok (.iadd, 1) := by decide +kernel
theorem dX12_roll_264 : decode cX12_roll 264 = .ok (.iaload, 1) := by decide +kernel
theorem dX12_roll_265 : decode cX12_roll 265 = .ok (.i2l, 1) := by decide +kernel
theorem dX12_roll_266 : decode cX12_roll 266 = .ok (.goto 4, 3) := by decide +kernel
theorem dX12_roll_269 : decode cX12_roll 269 = .ok (.lconst 0, 1) := by decide +kernel
theorem dX12_roll_270 : decode cX12_roll 270 = .ok (.lastore, 1) := by decide +kernel
theorem dX12_roll_271 : decode cX12_roll 271 = .ok (.iinc 1 1, 3) := by decide +kernel
theorem dX12_roll_274 : decode cX12_roll 274 = .ok (.goto (-39), 3) := by decide +kernel
theorem dX12_roll_277 : decode cX12_roll 277 = .ok (.aload_n 0, 1) := by decide +kernel
theorem dX12_roll_278 : decode cX12_roll 278 = .ok (.getfield 25, 3) := by decide +kernel
theorem dX12_roll_281 : decode cX12_roll 281 = .ok (.aload_n 0, 1) := by decide +kernel
theorem dX12_roll_282 : decode cX12_roll 282 = .ok (.getfield 19, 3) := by decide +kernel
theorem dX12_roll_285 : decode cX12_roll 285 = .ok (.iconst 0, 1) := by decide +kernel
theorem dX12_roll_286 : decode cX12_roll 286 = .ok (.iaload, 1) := by decide +kernel
theorem dX12_roll_287 : decode cX12_roll 287 = .ok (.aload_n 0, 1) := by decide +kernel
theorem dX12_roll_288 : decode cX12_roll 288 = .ok (.getfield 19, 3) := by decide +kernel
theorem dX12_roll_291 : decode cX12_roll 291 = .ok (.iconst 3, 1) := by decide +kernel
theorem dX12_roll_292 : decode cX12_roll 292 = .ok (.iaload, 1) := by decide +kernel
theorem dX12_roll_293 : decode cX12_roll 293 = .ok (.i2l, 1) := by decide +kernel
theorem dX12_roll_294 : decode cX12_roll 294 = .ok (.lastore, 1) := by decide +kernel
theorem dX12_roll_295 : decode cX12_roll 295 = .ok (.aload_n 0, 1) := by decide +kernel
theorem dX12_roll_296 : decode cX12_roll 296 = .ok (.getfield 19, 3) := by decide +kernel
theorem dX12_roll_299 : decode cX12_roll 299 = .ok (.iconst 0, 1) := by decide +kernel
theorem dX12_roll_300 : decode cX12_roll 300 = .ok (.iaload, 1) := by decide +kernel
theorem dX12_roll_301 : decode cX12_roll 301 = .ok (.ireturn, 1) := by decide +kernel
theorem dX12_isThere_0 : decode cX12_isThere 0 = .ok (.aload_n 0, 1) := by decide +kernel
theorem dX12_isThere_1 : decode cX12_isThere 1 = .ok (.getfield 19, 3) := by decide +kernel
theorem dX12_isThere_4 : decode cX12_isThere 4 = .ok (.iconst 0, 1) := by decide +kernel
theorem dX12_isThere_5 : decode cX12_isThere 5 = .ok (.iaload, 1) := by decide +kernel
theorem dX12_isThere_6 : decode cX12_isThere 6 = .ok (.ifCond .le 7, 3) := by decide +kernel
theorem dX12_isThere_9 : decode cX12_isThere 9 = .ok (.iconst 1, 1) := by decide +kernel
theorem dX12_isThere_10 : decode cX12_isThere 10 = .ok (.goto 4, 3) := by decide +kernel
theorem dX12_isThere_13 : decode cX12_isThere 13 = .ok (.iconst 0, 1) := by decide +kernel
theorem dX12_isThere_14 : decode cX12_isThere 14 = .ok (.ireturn, 1) := by decide +kernel
theorem dX12_isPlace_0 : decode cX12_isPlace 0 = .ok (.iload_n 1, 1) := by decide +kernel
theorem dX12_isPlace_1 : decode cX12_isPlace 1 = .ok (.i2l, 1) := by decide +kernel
theorem dX12_isPlace_2 : decode cX12_isPlace 2 = .ok (.lconst 0, 1) := by decide +kernel
theorem dX12_isPlace_3 : decode cX12_isPlace 3 = .ok (.aload_n 0, 1) := by decide +kernel
theorem dX12_isPlace_4 : decode cX12_isPlace 4 = .ok (.getfield 19, 3) := by decide +kernel
theorem dX12_isPlace_7 : decode cX12_isPlace 7 = .ok (.iconst 0, 1) := by decide +kernel
theorem dX12_isPlace_8 : decode cX12_isPlace 8 = .ok (.iaload, 1) := by decide +kernel
theorem dX12_isPlace_9 : decode cX12_isPlace 9 = .ok (.iconst 1, 1) := by decide +kernel
theorem dX12_isPlace_10 : decode cX12_isPlace 10 = .ok (.isub, 1) := by decide +kernel
theorem dX12_isPlace_11 : decode cX12_isPlace 11 = .ok (.i2l, 1) := by decide +kernel
theorem dX12_isPlace_12 : decode cX12_isPlace 12 = .ok (.invokestatic 64, 3) := by decide +kernel
theorem dX12_isPlace_15 : decode cX12_isPlace 15 = .ok (.ireturn, 1) := by decide +kernel
theorem dX12_isSeeker_0 : decode cX12_isSeeker 0 = .ok (.iload_n 1, 1) := by decide +kernel
theorem dX12_isSeeker_1 : decode cX12_isSeeker 1 = .ok (.i2l, 1) := by decide +kernel
theorem dX12_isSeeker_2 : decode cX12_isSeeker 2 = .ok (.lconst 0, 1) := by decide +kernel
theorem dX12_isSeeker_3 : decode cX12_isSeeker 3 = .ok (.aload_n 0, 1) := by decide +kernel
theorem dX12_isSeeker_4 : decode cX12_isSeeker 4 = .ok (.getfield 19, 3) := by decide +kernel
theorem dX12_isSeeker_7 : decode cX12_isSeeker 7 = .ok (.iconst 5, 1) := by decide +kernel
theorem dX12_isSeeker_8 : decode cX12_isSeeker 8 = .ok (.iaload, 1) := by decide +kernel
theorem dX12_isSeeker_9 : decode cX12_isSeeker 9 = .ok (.iconst 1, 1) := by decide +kernel
theorem dX12_isSeeker_10 : decode cX12_isSeeker 10 = .ok (.isub, 1) := by decide +kernel
theorem dX12_isSeeker_11 : decode cX12_isSeeker 11 = .ok (.i2l, 1) := by decide +kernel
theorem dX12_isSeeker_12 : decode cX12_isSeeker 12 = .ok (.invokestatic 64, 3) := by decide +kernel
theorem dX12_isSeeker_15 : decode cX12_isSeeker 15 = .ok (.ireturn, 1) := by decide +kernel
theorem dX12_of_0 : decode cX12_of 0 = .ok (.aload_n 0, 1) := by decide +kernel
theorem dX12_of_1 : decode cX12_of 1 = .ok (.getfield 19, 3) := by decide +kernel
theorem dX12_of_4 : decode cX12_of 4 = .ok (.bipush 36, 2) := by decide +kernel
theorem dX12_of_6 : decode cX12_of 6 = .ok (.iconst 3, 1) := by decide +kernel
theorem dX12_of_7 : decode cX12_of 7 = .ok (.iload_n 1, 1) := by decide +kernel
theorem dX12_of_8 : decode cX12_of 8 = .ok (.imul, 1) := by decide +kernel
theorem dX12_of_9 : decode cX12_of 9 = .ok (.iadd, 1) := by decide +kernel
theorem dX12_of_10 : decode cX12_of 10 = .ok (.iload_n 2, 1) := by decide +kernel
theorem dX12_of_11 : decode cX12_of 11 = .ok (.iadd, 1) := by decide +kernel
theorem dX12_of_12 : decode cX12_of 12 = .ok (.iaload, 1) := by decide +kernel
theorem dX12_of_13 : decode cX12_of 13 = .ok (.ireturn, 1) := by decide +kernel
theorem dX12_feel_0 : decode cX12_feel 0 = .ok (.aload_n 0, 1) := by decide +kernel
theorem dX12_feel_1 : decode cX12_feel 1 = .ok (.iload_n 1, 1) := by decide +kernel
theorem dX12_feel_2 : decode cX12_feel 2 = .ok (.iconst 1, 1) := by decide +kernel
theorem dX12_feel_3 : decode cX12_feel 3 = .ok (.invokevirtual 159, 3) := by decide +kernel
theorem dX12_feel_6 : decode cX12_feel 6 = .ok (.istore_n 3, 1) := by decide +kernel
theorem dX12_feel_7 : decode cX12_feel 7 = .ok (.aload_n 0, 1) := by decide +kernel
theorem dX12_feel_8 : decode cX12_feel 8 = .ok (.iload_n 1, 1) := by decide +kernel
theorem dX12_feel_9 : decode cX12_feel 9 = .ok (.iconst 2, 1) := by decide +kernel
theorem dX12_feel_10 : decode cX12_feel 10 = .ok (.invokevirtual 159, 3) := by decide +kernel
theorem dX12_feel_13 : decode cX12_feel 13 = .ok (.istore 4, 2) := by decide +kernel
theorem dX12_feel_15 : decode cX12_feel 15 = .ok (.aload_n 0, 1) := by decide +kernel
theorem dX12_feel_16 : decode cX12_feel 16 = .ok (.iload_n 1, 1) := by decide +kernel
theorem dX12_feel_17 : decode cX12_feel 17 = .ok (.iconst 0, 1) := by decide +kernel
theorem dX12_feel_18 : decode cX12_feel 18 = .ok (.invokevirtual 159, 3) := by decide +kernel
theorem dX12_feel_21 : decode cX12_feel 21 = .ok (.iconst 3, 1) := by decide +kernel
theorem dX12_feel_22 : decode cX12_feel 22 = .ok (.if_icmp .ne 17, 3) := by decide +kernel
theorem dX12_feel_25 : decode cX12_feel 25 = .ok (.iload_n 3, 1) := by decide +kernel
theorem dX12_feel_26 : decode cX12_feel 26 = .ok (.iload 4, 2) := by decide +kernel
theorem dX12_feel_28 : decode cX12_feel 28 = .ok (.if_icmp .le 7, 3) := by decide +kernel
theorem dX12_feel_31 : decode cX12_feel 31 = .ok (.iconst 1, 1) := by decide +kernel
theorem dX12_feel_32 : decode cX12_feel 32 = .ok (.goto 17, 3) := by decide +kernel
theorem dX12_feel_35 : decode cX12_feel 35 = .ok (.iconst 0, 1) := by decide +kernel
theorem dX12_feel_36 : decode cX12_feel 36 = .ok (.goto 13, 3) := by decide +kernel
theorem dX12_feel_39 : decode cX12_feel 39 = .ok (.iload_n 2, 1) := by decide +kernel
theorem dX12_feel_40 : decode cX12_feel 40 = .ok (.iconst 1, 1) := by decide +kernel
theorem dX12_feel_41 : decode cX12_feel 41 = .ok (.if_icmp .ne 7, 3) := by decide +kernel
theorem dX12_feel_44 : decode cX12_feel 44 = .ok (.iconst 1, 1) := by decide +kernel
theorem dX12_feel_45 : decode cX12_feel 45 = .ok (.goto 4, 3) := by decide +kernel
theorem dX12_feel_48 : decode cX12_feel 48 = .ok (.iconst 0, 1) := by decide +kernel
theorem dX12_feel_49 : decode cX12_feel 49 = .ok (.istore 5, 2) := by decide +kernel
theorem dX12_feel_51 : decode cX12_feel 51 = .ok (.iload 5, 2) := by decide +kernel
theorem dX12_feel_53 : decode cX12_feel 53 = .ok (.ifCond .eq 7, 3) := by decide +kernel
theorem dX12_feel_56 : decode cX12_feel 56 = .ok (.iload_n 3, 1) := by decide +kernel
theorem dX12_feel_57 : decode cX12_feel 57 = .ok (.goto 5, 3) := by decide +kernel
theorem dX12_feel_60 : decode cX12_feel 60 = .ok (.iload 4, 2) := by decide +kernel
theorem dX12_feel_62 : decode cX12_feel 62 = .ok (.ireturn, 1) := by decide +kernel
theorem dX12_around_0 : decode cX12_around 0 = .ok (.iload_n 1, 1) := by decide +kernel
theorem dX12_around_1 : decode cX12_around 1 = .ok (.aload_n 0, 1) := by decide +kernel
theorem dX12_around_2 : decode cX12_around 2 = .ok (.getfield 19, 3) := by decide +kernel
theorem dX12_around_5 : decode cX12_around 5 = .ok (.iconst 0, 1) := by decide +kernel
theorem dX12_around_6 : decode cX12_around 6 = .ok (.iaload, 1) := by decide +kernel
theorem dX12_around_7 : decode cX12_around 7 = .ok (.iadd, 1) := by decide +kernel
theorem dX12_around_8 : decode cX12_around 8 = .ok (.aload_n 0, 1) := by decide +kernel
theorem dX12_around_9 : decode cX12_around 9 = .ok (.getfield 19, 3) := by decide +kernel
theorem dX12_around_12 : decode cX12_around 12 = .ok (.iconst 0, 1) := by decide +kernel
theorem dX12_around_13 : decode cX12_around 13 = .ok (.iaload, 1) := by decide +kernel
theorem dX12_around_14 : decode cX12_around 14 = .ok (.irem, 1) := by decide +kernel
theorem dX12_around_15 : decode cX12_around 15 = .ok (.ireturn, 1) := by decide +kernel
theorem dX12_keep_0 : decode cX12_keep 0 = .ok (.aload_n 0, 1) := by decide +kernel
theorem dX12_keep_1 : decode cX12_keep 1 = .ok (.getfield 156, 3) := by decide +kernel
theorem dX12_keep_4 : decode cX12_keep 4 = .ok (.bipush 24, 2) := by decide +kernel
theorem dX12_keep_6 : decode cX12_keep 6 = .ok (.if_icmp .ne 73, 3) := by decide +kernel
theorem dX12_keep_9 : decode cX12_keep 9 = .ok (.iconst 0, 1) := by decide +kernel
theorem dX12_keep_10 : decode cX12_keep 10 = .ok (.istore_n 1, 1) := by decide +kernel
theorem dX12_keep_11 : decode cX12_keep 11 = .ok (.iload_n 1, 1) := by decide +kernel
theorem dX12_keep_12 : decode cX12_keep 12 = .ok (.sipush 1104, 3) := by decide +kernel
theorem dX12_keep_15 : decode cX12_keep 15 = .ok (.if_icmp .ge 24, 3) := by decide +kernel
theorem dX12_keep_18 : decode cX12_keep 18 = .ok (.aload_n 0, 1) := by decide +kernel
theorem dX12_keep_19 : decode cX12_keep 19 = .ok (.getfield 29, 3) := by decide +kernel
theorem dX12_keep_22 : decode cX12_keep 22 = .ok (.iload_n 1, 1) := by decide +kernel
theorem dX12_keep_23 : decode cX12_keep 23 = .ok (.aload_n 0, 1) := by decide +kernel
theorem dX12_keep_24 : decode cX12_keep 24 = .ok (.getfield 29, 3) := by decide +kernel
theorem dX12_keep_27 : decode cX12_keep 27 = .ok (.iload_n 1, 1) := by decide +kernel
theorem dX12_keep_28 : decode cX12_keep 28 = .ok (.bipush 48, 2) := by decide +kernel
theorem dX12_keep_30 : decode cX12_keep 30 = .ok (.iadd, 1) := by decide +kernel
theorem dX12_keep_31 : decode cX12_keep 31 = .ok (.iaload, 1) := by decide +kernel
theorem dX12_keep_32 : decode cX12_keep 32 = .ok (.iastore, 1) := by decide +kernel
theorem dX12_keep_33 : decode cX12_keep 33 = .ok (.iinc 1 1, 3) := by decide +kernel
theorem dX12_keep_36 : decode cX12_keep 36 = .ok (.goto (-25), 3) := by decide +kernel
theorem dX12_keep_39 : decode cX12_keep 39 = .ok (.iconst 0, 1) := by decide +kernel
theorem dX12_keep_40 : decode cX12_keep 40 = .ok (.istore_n 1, 1) := by decide +kernel
theorem dX12_keep_41 : decode cX12_keep 41 = .ok (.iload_n 1, 1) := by decide +kernel
theorem dX12_keep_42 : decode cX12_keep 42 = .ok (.sipush 299, 3) := by decide +kernel
theorem dX12_keep_45 : decode cX12_keep 45 = .ok (.if_icmp .ge 24, 3) := by decide +kernel
theorem dX12_keep_48 : decode cX12_keep 48 = .ok (.aload_n 0, 1) := by decide +kernel
theorem dX12_keep_49 : decode cX12_keep 49 = .ok (.getfield 32, 3) := by decide +kernel
theorem dX12_keep_52 : decode cX12_keep 52 = .ok (.iload_n 1, 1) := by decide +kernel
theorem dX12_keep_53 : decode cX12_keep 53 = .ok (.aload_n 0, 1) := by decide +kernel
theorem dX12_keep_54 : decode cX12_keep 54 = .ok (.getfield 32, 3) := by decide +kernel
theorem dX12_keep_57 : decode cX12_keep 57 = .ok (.iload_n 1, 1) := by decide +kernel
theorem dX12_keep_58 : decode cX12_keep 58 = .ok (.bipush 13, 2) := by decide +kernel
theorem dX12_keep_60 : decode cX12_keep 60 = .ok (.iadd, 1) := by decide +kernel
theorem dX12_keep_61 : decode cX12_keep 61 = .ok (.laload, 1) := by decide +kernel
theorem dX12_keep_62 : decode cX12_keep 62 = .ok (.lastore, 1) := by decide +kernel
theorem dX12_keep_63 : decode cX12_keep 63 = .ok (.iinc 1 1, 3) := by decide +kernel
theorem dX12_keep_66 : decode cX12_keep 66 = .ok (.goto (-25), 3) := by decide +kernel
theorem dX12_keep_69 : decode cX12_keep 69 = .ok (.aload_n 0, 1) := by decide +kernel
theorem dX12_keep_70 : decode cX12_keep 70 = .ok (.dup, 1) := by decide +kernel
theorem dX12_keep_71 : decode cX12_keep 71 = .ok (.getfield 156, 3) := by decide +kernel
theorem dX12_keep_74 : decode cX12_keep 74 = .ok (.iconst 1, 1) := by decide +kernel
theorem dX12_keep_75 : decode cX12_keep 75 = .ok (.isub, 1) := by decide +kernel
theorem dX12_keep_76 : decode cX12_keep 76 = .ok (.putfield 156, 3) := by decide +kernel
theorem dX12_keep_79 : decode cX12_keep 79 = .ok (.iconst 0, 1) := by decide +kernel
theorem dX12_keep_80 : decode cX12_keep 80 = .ok (.istore_n 1, 1) := by decide +kernel
theorem dX12_keep_81 : decode cX12_keep 81 = .ok (.iload_n 1, 1) := by decide +kernel
theorem dX12_keep_82 : decode cX12_keep 82 = .ok (.bipush 48, 2) := by decide +kernel
theorem dX12_keep_84 : decode cX12_keep 84 = .ok (.if_icmp .ge 29, 3) := by decide +kernel
theorem dX12_keep_87 : decode cX12_keep 87 = .ok (.aload_n 0, 1) := by decide +kernel
theorem dX12_keep_88 : decode cX12_keep 88 = .ok (.getfield 29, 3) := by decide +kernel
theorem dX12_keep_91 : decode cX12_keep 91 = .ok (.bipush 48, 2) := by decide +kernel
theorem dX12_keep_93 : decode cX12_keep 93 = .ok (.aload_n 0, 1) := by decide +kernel
theorem dX12_keep_94 : decode cX12_keep 94 = .ok (.getfield 156, 3) := by decide +kernel
theorem dX12_keep_97 : decode cX12_keep 97 = .ok (.imul, 1) := by decide +kernel
theorem dX12_keep_98 : decode cX12_keep 98 = .ok (.iload_n 1, 1) := by decide +kernel
theorem dX12_keep_99 : decode cX12_keep 99 = .ok (.iadd, 1) := by decide +kernel
theorem dX12_keep_100 : decode cX12_keep 100 = .ok (.aload_n 0, 1) := by decide +kernel
theorem dX12_keep_101 : decode cX12_keep 101 = .ok (.getfield 19, 3) := by decide +kernel
theorem dX12_keep_104 : decode cX12_keep 104 = .ok (.iload_n 1, 1) := by decide +kernel
theorem dX12_keep_105 : decode cX12_keep 105 = .ok (.iaload, 1) := by decide +kernel
theorem dX12_keep_106 : decode cX12_keep 106 = .ok (.iastore, 1) := by decide +kernel
theorem dX12_keep_107 : decode cX12_keep 107 = .ok (.iinc 1 1, 3) := by decide +kernel
theorem dX12_keep_110 : decode cX12_keep 110 = .ok (.goto (-29), 3) := by decide +kernel
theorem dX12_keep_113 : decode cX12_keep 113 = .ok (.iconst 0, 1) := by decide +kernel
theorem dX12_keep_114 : decode cX12_keep 114 = .ok (.istore_n 1, 1) := by decide +kernel
theorem dX12_keep_115 : decode cX12_keep 115 = .ok (.iload_n 1, 1) := by decide +kernel
theorem dX12_keep_116 : decode cX12_keep 116 = .ok (.bipush 13, 2) := by decide +kernel
theorem dX12_keep_118 : decode cX12_keep 118 = .ok (.if_icmp .ge 29, 3) := by decide +kernel
theorem dX12_keep_121 : decode cX12_keep 121 = .ok (.aload_n 0, 1) := by decide +kernel
theorem dX12_keep_122 : decode cX12_keep 122 = .ok (.getfield 32, 3) := by decide +kernel
theorem dX12_keep_125 : decode cX12_keep 125 = .ok (.bipush 13, 2) := by decide +kernel
theorem dX12_keep_127 : decode cX12_keep 127 = .ok (.aload_n 0, 1) := by decide +kernel
theorem dX12_keep_128 : decode cX12_keep 128 = .ok (.getfield 156, 3) := by decide +kernel
theorem dX12_keep_131 : decode cX12_keep 131 = .ok (.imul, 1) := by decide +kernel
theorem dX12_keep_132 : decode cX12_keep 132 = .ok (.iload_n 1, 1) := by decide +kernel
theorem dX12_keep_133 : decode cX12_keep 133 = .ok (.iadd, 1) := by decide +kernel
theorem dX12_keep_134 : decode cX12_keep 134 = .ok (.aload_n 0, 1) := by decide +kernel
theorem dX12_keep_135 : decode cX12_keep 135 = .ok (.getfield 25, 3) := by decide +kernel
theorem dX12_keep_138 : decode cX12_keep 138 = .ok (.iload_n 1, 1) := by decide +kernel
theorem dX12_keep_139 : decode cX12_keep 139 = .ok (.laload, 1) := by decide +kernel
theorem dX12_keep_140 : decode cX12_keep 140 = .ok (.lastore, 1) := by decide +kernel
theorem dX12_keep_141 : decode cX12_keep 141 = .ok (.iinc 1 1, 3) := by decide +kernel
theorem dX12_keep_144 : decode cX12_keep 144 = .ok (.goto (-29), 3) := by decide +kernel
theorem dX12_keep_147 : decode cX12_keep 147 = .ok (.aload_n 0, 1) := by decide +kernel
theorem dX12_keep_148 : decode cX12_keep 148 = .ok (.dup, 1) := by decide +kernel
theorem dX12_keep_149 : decode cX12_keep 149 = .ok (.getfield 156, 3) := by decide +kernel
theorem dX12_keep_152 : decode cX12_keep 152 = .ok (.iconst 1, 1) := by decide +kernel
theorem dX12_keep_153 : decode cX12_keep 153 = .ok (.iadd, 1) := by decide +kernel
theorem dX12_keep_154 : decode cX12_keep 154 = .ok (.putfield 156, 3) := by decide +kernel
theorem dX12_keep_157 : decode cX12_keep 157 = .ok (.return_, 1) := by decide +kernel
theorem dX12_speaks_0 : decode cX12_speaks 0 = .ok (.iload_n 2, 1) := by decide +kernel
theorem dX12_speaks_1 : decode cX12_speaks 1 = .ok (.iload_n 3, 1) := by decide +kernel
theorem dX12_speaks_2 : decode cX12_speaks 2 = .ok (.if_icmp .ne 18, 3) := by decide +kernel
theorem dX12_speaks_5 : decode cX12_speaks 5 = .ok (.aload_n 0, 1) := by decide +kernel
theorem dX12_speaks_6 : decode cX12_speaks 6 = .ok (.iload_n 1, 1) := by decide +kernel
theorem dX12_speaks_7 : decode cX12_speaks 7 = .ok (.aload_n 0, 1) := by decide +kernel
theorem dX12_speaks_8 : decode cX12_speaks 8 = .ok (.getfield 19, 3) := by decide +kernel
theorem dX12_speaks_11 : decode cX12_speaks 11 = .ok (.bipush 7, 2) := by decide +kernel
theorem dX12_speaks_13 : decode cX12_speaks 13 = .ok (.iaload, 1) := by decide +kernel
theorem dX12_speaks_14 : decode cX12_speaks 14 = .ok (.invokevirtual 162, 3) := by decide +kernel
theorem dX12_speaks_17 : decode cX12_speaks 17 = .ok (.goto 12, 3) := by decide +kernel
theorem dX12_speaks_20 : decode cX12_speaks 20 = .ok (.aload_n 0, 1) := by decide +kernel
theorem dX12_speaks_21 : decode cX12_speaks 21 = .ok (.getfield 19, 3) := by decide +kernel
theorem dX12_speaks_24 : decode cX12_speaks 24 = .ok (.bipush 24, 2) := by decide +kernel
theorem dX12_speaks_26 : decode cX12_speaks 26 = .ok (.iload_n 2, 1) := by decide +kernel
theorem dX12_speaks_27 : decode cX12_speaks 27 = .ok (.iadd, 1) := by decide +kernel
theorem dX12_speaks_28 : decode cX12_speaks 28 = .ok (.iaload, 1) := by decide +kernel
theorem dX12_speaks_29 : decode cX12_speaks 29 = .ok (.istore 5, 2) := by decide +kernel
theorem dX12_speaks_31 : decode cX12_speaks 31 = .ok (.iload 4, 2) := by decide +kernel
theorem dX12_speaks_33 : decode cX12_speaks 33 = .ok (.iconst 1, 1) := by decide +kernel
theorem dX12_speaks_34 : decode cX12_speaks 34 = .ok (.if_icmp .ne 8, 3) := by decide +kernel
theorem dX12_speaks_37 : decode cX12_speaks 37 = .ok (.iload 5, 2) := by decide +kernel
theorem dX12_speaks_39 : decode cX12_speaks 39 = .ok (.goto 8, 3) := by decide +kernel
theorem dX12_speaks_42 : decode cX12_speaks 42 = .ok (.bipush 10, 2) := by decide +kernel
theorem dX12_speaks_44 : decode cX12_speaks 44 = .ok (.iload 5, 2) := by decide +kernel
theorem dX12_speaks_46 : decode cX12_speaks 46 = .ok (.isub, 1) := by decide +kernel
theorem dX12_speaks_47 : decode cX12_speaks 47 = .ok (.ireturn, 1) := by decide +kernel
theorem dX12_touch_0 : decode cX12_touch 0 = .ok (.aload_n 0, 1) := by decide +kernel
theorem dX12_touch_1 : decode cX12_touch 1 = .ok (.iconst 0, 1) := by decide +kernel
theorem dX12_touch_2 : decode cX12_touch 2 = .ok (.putfield 54, 3) := by decide +kernel
theorem dX12_touch_5 : decode cX12_touch 5 = .ok (.aload_n 0, 1) := by decide +kernel
theorem dX12_touch_6 : decode cX12_touch 6 = .ok (.iload_n 1, 1) := by decide +kernel
theorem dX12_touch_7 : decode cX12_touch 7 = .ok (.invokevirtual 165, 3) := by decide +kernel
theorem dX12_touch_10 : decode cX12_touch 10 = .ok (.ifCond .eq 13, 3) := by decide +kernel
theorem dX12_touch_13 : decode cX12_touch 13 = .ok (.iload_n 2, 1) := by decide +kernel
theorem dX12_touch_14 : decode cX12_touch 14 = .ok (.i2l, 1) := by decide +kernel
theorem dX12_touch_15 : decode cX12_touch 15 = .ok (.lconst 0, 1) := by decide +kernel
theorem dX12_touch_16 : decode cX12_touch 16 = .ok (.lconst 1, 1) := by decide +kernel
theorem dX12_touch_17 : decode cX12_touch 17 = .ok (.invokestatic 64, 3) := by decide +kernel
theorem dX12_touch_20 : decode cX12_touch 20 = .ok (.ifCond .ne 6, 3) := by decide +kernel
theorem dX12_touch_23 : decode cX12_touch 23 = .ok (.ldc 74, 2) := by decide +kernel
theorem dX12_touch_25 : decode cX12_touch 25 = .ok (.ireturn, 1) := by decide +kernel
theorem dX12_touch_26 : decode cX12_touch 26 = .ok (.lconst 0, 1) := by decide +kernel
theorem dX12_touch_27 : decode cX12_touch 27 = .ok (.lstore_n 3, 1) := by decide +kernel
theorem dX12_touch_28 : decode cX12_touch 28 = .ok (.iconst 0, 1) := by decide +kernel
theorem dX12_touch_29 : decode cX12_touch 29 = .ok (.istore 5, 2) := by decide +kernel
theorem dX12_touch_31 : decode cX12_touch 31 = .ok (.iload 5, 2) := by decide +kernel
theorem dX12_touch_33 : decode cX12_touch 33 = .ok (.aload_n 0, 1) := by decide +kernel
theorem dX12_touch_34 : decode cX12_touch 34 = .ok (.getfield 19, 3) := by decide +kernel
theorem dX12_touch_37 : decode cX12_touch 37 = .ok (.iconst 0, 1) := by decide +kernel
theorem dX12_touch_38 : decode cX12_touch 38 = .ok (.iaload, 1) := by decide +kernel
theorem dX12_touch_39 : decode cX12_touch 39 = .ok (.if_icmp .gt 36, 3) := by decide +kernel
theorem dX12_touch_42 : decode cX12_touch 42 = .ok (.lload_n 3, 1) := by decide +kernel
theorem dX12_touch_43 : decode cX12_touch 43 = .ok (.aload_n 0, 1) := by decide +kernel
theorem dX12_touch_44 : decode cX12_touch 44 = .ok (.getfield 25, 3) := by decide +kernel
theorem dX12_touch_47 : decode cX12_touch 47 = .ok (.iload 5, 2) := by decide +kernel
theorem dX12_touch_49 : decode cX12_touch 49 = .ok (.laload, 1) := by decide +kernel
theorem dX12_touch_50 : decode cX12_touch 50 = .ok (.aload_n 0, 1) := by decide +kernel
theorem dX12_touch_51 : decode cX12_touch 51 = .ok (.iload_n 1, 1) := by decide +kernel
theorem dX12_touch_52 : decode cX12_touch 52 = .ok (.aload_n 0, 1) := by decide +kernel
theorem dX12_touch_53 : decode cX12_touch 53 = .ok (.getfield 19, 3) := by decide +kernel
theorem dX12_touch_56 : decode cX12_touch 56 = .ok (.bipush 6, 2) := by decide +kernel
theorem dX12_touch_58 : decode cX12_touch 58 = .ok (.iaload, 1) := by decide +kernel
theorem dX12_touch_59 : decode cX12_touch 59 = .ok (.iload 5, 2) := by decide +kernel
theorem dX12_touch_61 : decode cX12_touch 61 = .ok (.iload_n 2, 1) := by decide +kernel
theorem dX12_touch_62 : decode cX12_touch 62 = .ok (.invokevirtual 168, 3) := by decide +kernel
theorem dX12_touch_65 : decode cX12_touch 65 = .ok (.i2l, 1) := by decide +kernel
theorem dX12_touch_66 : decode cX12_touch 66 = .ok (.lmul, 1) := by decide +kernel
theorem dX12_touch_67 : decode cX12_touch 67 = .ok (.ladd, 1) := by decide +kernel
theorem dX12_touch_68 : decode cX12_touch 68 = .ok (.lstore_n 3, 1) := by decide +kernel
theorem dX12_touch_69 : decode cX12_touch 69 = .ok (.iinc 5 1, 3) := by decide +kernel
theorem dX12_touch_72 : decode cX12_touch 72 = .ok (.goto (-41), 3) := by decide +kernel
theorem dX12_touch_75 : decode cX12_touch 75 = .ok (.lload_n 3, 1) := by decide +kernel
theorem dX12_touch_76 : decode cX12_touch 76 = .ok (.lconst 0, 1) := by decide +kernel
theorem dX12_touch_77 : decode cX12_touch 77 = .ok (.lcmp, 1) := by decide +kernel
theorem dX12_touch_78 : decode cX12_touch 78 = .ok (.ifCond .ne 6, 3) := by decide +kernel
theorem dX12_touch_81 : decode cX12_touch 81 = .ok (.ldc 172, 2) := by decide +kernel
theorem dX12_touch_83 : decode cX12_touch 83 = .ok (.ireturn, 1) := by decide +kernel
theorem dX12_touch_84 : decode cX12_touch 84 = .ok (.aload_n 0, 1) := by decide +kernel
theorem dX12_touch_85 : decode cX12_touch 85 = .ok (.getfield 19, 3) := by decide +kernel
theorem dX12_touch_88 : decode cX12_touch 88 = .ok (.bipush 9, 2) := by decide +kernel
theorem dX12_touch_90 : decode cX12_touch 90 = .ok (.iaload, 1) := by decide +kernel
theorem dX12_touch_91 : decode cX12_touch 91 = .ok (.bipush 10, 2) := by decide +kernel
theorem dX12_touch_93 : decode cX12_touch 93 = .ok (.if_icmp .ne 6, 3) := by decide +kernel
theorem dX12_touch_96 : decode cX12_touch 96 = .ok (.ldc 84, 2) := by decide +kernel
theorem dX12_touch_98 : decode cX12_touch 98 = .ok (.ireturn, 1) := by decide +kernel
theorem dX12_touch_99 : decode cX12_touch 99 = .ok (.aload_n 0, 1) := by decide +kernel
theorem dX12_touch_100 : decode cX12_touch 100 = .ok (.invokevirtual 173, 3) := by decide +kernel
theorem dX12_touch_103 : decode cX12_touch 103 = .ok (.iconst 0, 1) := by decide +kernel
theorem dX12_touch_104 : decode cX12_touch 104 = .ok (.istore 5, 2) := by decide +kernel
theorem dX12_touch_106 : decode cX12_touch 106 = .ok (.iload 5, 2) := by decide +kernel
theorem dX12_touch_108 : decode cX12_touch 108 = .ok (.aload_n 0, 1) := by decide +kernel
theorem dX12_touch_109 : decode cX12_touch 109 = .ok (.getfield 19, 3) := by decide +kernel
theorem dX12_touch_112 : decode cX12_touch 112 = .ok (.iconst 0, 1) := by decide +kernel
theorem dX12_touch_113 : decode cX12_touch 113 = .ok (.iaload, 1) := by decide +kernel
theorem dX12_touch_114 : decode cX12_touch 114 = .ok (.if_icmp .gt 35, 3) := by decide +kernel
theorem dX12_touch_117 : decode cX12_touch 117 = .ok (.aload_n 0, 1) := by decide +kernel
theorem dX12_touch_118 : decode cX12_touch 118 = .ok (.getfield 25, 3) := by decide +kernel
theorem dX12_touch_121 : decode cX12_touch 121 = .ok (.iload 5, 2) := by decide +kernel
theorem dX12_touch_123 : decode cX12_touch 123 = .ok (.dup2, 1) := by decide +kernel
theorem dX12_touch_124 : decode cX12_touch 124 = .ok (.laload, 1) := by decide +kernel
theorem dX12_touch_125 : decode cX12_touch 125 = .ok (.aload_n 0, 1) := by decide +kernel
theorem dX12_touch_126 : decode cX12_touch 126 = .ok (.iload_n 1, 1) := by decide +kernel
theorem dX12_touch_127 : decode cX12_touch 127 = .ok (.aload_n 0, 1) := by decide +kernel
theorem dX12_touch_128 : decode cX12_touch 128 = .ok (.getfield 19, 3) := by decide +kernel
theorem dX12_touch_131 : decode cX12_touch 131 = .ok (.bipush 6, 2) := by decide +kernel
theorem dX12_touch_133 : decode cX12_touch 133 = .ok (.iaload, 1) := by decide +kernel
theorem dX12_touch_134 : decode cX12_touch 134 = .ok (.iload 5, 2) := by decide +kernel
theorem dX12_touch_136 : decode cX12_touch 136 = .ok (.iload_n 2, 1) := by decide +kernel
theorem dX12_touch_137 : decode cX12_touch 137 = .ok (.invokevirtual 168, 3) := by decide +kernel
theorem dX12_touch_140 : decode cX12_touch 140 = .ok (.i2l, 1) := by decide +kernel
theorem dX12_touch_141 : decode cX12_touch 141 = .ok (.lmul, 1) := by decide +kernel
theorem dX12_touch_142 : decode cX12_touch 142 = .ok (.lastore, 1) := by decide +kernel
theorem dX12_touch_143 : decode cX12_touch 143 = .ok (.iinc 5 1, 3) := by decide +kernel
theorem dX12_touch_146 : decode cX12_touch 146 = .ok (.goto (-40), 3) := by decide +kernel
theorem dX12_touch_149 : decode cX12_touch 149 = .ok (.aload_n 0, 1) := by decide +kernel
theorem dX12_touch_150 : decode cX12_touch 150 = .ok (.getfield 19, 3) := by decide +kernel
theorem dX12_touch_153 : decode cX12_touch 153 = .ok (.bipush 8, 2) := by decide +kernel
theorem dX12_touch_155 : decode cX12_touch 155 = .ok (.dup2, 1) := by decide +kernel
theorem dX12_touch_156 : decode cX12_touch 156 = .ok (.iaload, 1) := by decide +kernel
theorem dX12_touch_157 : decode cX12_touch 157 = .ok (.iconst 1, 1) := by decide +kernel
theorem dX12_touch_158 : decode cX12_touch 158 = .ok (.iadd, 1) := by decide +kernel
theorem dX12_touch_159 : decode cX12_touch 159 = .ok (.iastore, 1) := by decide +kernel
theorem dX12_touch_160 : decode cX12_touch 160 = .ok (.aload_n 0, 1) := by decide +kernel
theorem dX12_touch_161 : decode cX12_touch 161 = .ok (.getfield 19, 3) := by decide +kernel
theorem dX12_touch_164 : decode cX12_touch 164 = .ok (.bipush 9, 2) := by decide +kernel
theorem dX12_touch_166 : decode cX12_touch 166 = .ok (.dup2, 1) := by decide +kernel
theorem dX12_touch_167 : decode cX12_touch 167 = .ok (.iaload, 1) := by decide +kernel
theorem dX12_touch_168 : decode cX12_touch 168 = .ok (.iconst 1, 1) := by decide +kernel
theorem dX12_touch_169 : decode cX12_touch 169 = .ok (.iadd, 1) := by decide +kernel
theorem dX12_touch_170 : decode cX12_touch 170 = .ok (.iastore, 1) := by decide +kernel
theorem dX12_touch_171 : decode cX12_touch 171 = .ok (.aload_n 0, 1) := by decide +kernel
theorem dX12_touch_172 : decode cX12_touch 172 = .ok (.getfield 19, 3) := by decide +kernel
theorem dX12_touch_175 : decode cX12_touch 175 = .ok (.bipush 10, 2) := by decide +kernel
theorem dX12_touch_177 : decode cX12_touch 177 = .ok (.iload_n 2, 1) := by decide +kernel
theorem dX12_touch_178 : decode cX12_touch 178 = .ok (.iastore, 1) := by decide +kernel
theorem dX12_touch_179 : decode cX12_touch 179 = .ok (.aload_n 0, 1) := by decide +kernel
theorem dX12_touch_180 : decode cX12_touch 180 = .ok (.getfield 19, 3) := by decide +kernel
theorem dX12_touch_183 : decode cX12_touch 183 = .ok (.bipush 9, 2) := by decide +kernel
theorem dX12_touch_185 : decode cX12_touch 185 = .ok (.iaload, 1) := by decide +kernel
theorem dX12_touch_186 : decode cX12_touch 186 = .ok (.ireturn, 1) := by decide +kernel
theorem dX12_go_0 : decode cX12_go 0 = .ok (.aload_n 0, 1) := by decide +kernel
theorem dX12_go_1 : decode cX12_go 1 = .ok (.iconst 0, 1) := by decide +kernel
theorem dX12_go_2 : decode cX12_go 2 = .ok (.putfield 54, 3) := by decide +kernel
theorem dX12_go_5 : decode cX12_go 5 = .ok (.aload_n 0, 1) := by decide +kernel
theorem dX12_go_6 : decode cX12_go 6 = .ok (.invokevirtual 176, 3) := by decide +kernel
theorem dX12_go_9 : decode cX12_go 9 = .ok (.ifCond .ne 6, 3) := by decide +kernel
theorem dX12_go_12 : decode cX12_go 12 = .ok (.ldc 172, 2) := by decide +kernel
theorem dX12_go_14 : decode cX12_go 14 = .ok (.ireturn, 1) := by decide +kernel
theorem dX12_go_15 : decode cX12_go 15 = .ok (.iload_n 1, 1) := by decide +kernel
theorem dX12_go_16 : decode cX12_go 16 = .ok (.i2l, 1) := by decide +kernel
theorem dX12_go_17 : decode cX12_go 17 = .ok (.lconst 1, 1) := by decide +kernel
theorem dX12_go_18 : decode cX12_go 18 = .ok (.ldc2_w 179, 3) := by decide +kernel
theorem dX12_go_21 : decode cX12_go 21 = .ok (.invokestatic 64, 3) := by decide +kernel
theorem dX12_go_24 : decode cX12_go 24 = .ok (.ifCond .ne 6, 3) := by decide +kernel
theorem dX12_go_27 : decode cX12_go 27 = .ok (.ldc 74, 2) := by decide +kernel
theorem dX12_go_29 : decode cX12_go 29 = .ok (.ireturn, 1) := by decide +kernel
theorem dX12_go_30 : decode cX12_go 30 = .ok (.aload_n 0, 1) := by decide +kernel
theorem dX12_go_31 : decode cX12_go 31 = .ok (.invokevirtual 173, 3) := by decide +kernel
theorem dX12_go_34 : decode cX12_go 34 = .ok (.iconst 0, 1) := by decide +kernel
theorem dX12_go_35 : decode cX12_go 35 = .ok (.istore_n 2, 1) := by decide +kernel
theorem dX12_go_36 : decode cX12_go 36 = .ok (.iload_n 2, 1) := by decide +kernel
theorem dX12_go_37 : decode cX12_go 37 = .ok (.iload_n 1, 1) := by decide +kernel
theorem dX12_go_38 : decode cX12_go 38 = .ok (.if_icmp .ge 35, 3) := by decide +kernel
theorem dX12_go_41 : decode cX12_go 41 = .ok (.aload_n 0, 1) := by decide +kernel
theorem dX12_go_42 : decode cX12_go 42 = .ok (.getfield 19, 3) := by decide +kernel
theorem dX12_go_45 : decode cX12_go 45 = .ok (.bipush 6, 2) := by decide +kernel
theorem dX12_go_47 : decode cX12_go 47 = .ok (.aload_n 0, 1) := by decide +kernel
theorem dX12_go_48 : decode cX12_go 48 = .ok (.aload_n 0, 1) := by decide +kernel
theorem dX12_go_49 : decode cX12_go 49 = .ok (.getfield 19, 3) := by decide +kernel
theorem dX12_go_52 : decode cX12_go 52 = .ok (.bipush 6, 2) := by decide +kernel
theorem dX12_go_54 : decode cX12_go 54 = .ok (.iaload, 1) := by decide +kernel
theorem dX12_go_55 : decode cX12_go 55 = .ok (.aload_n 0, 1) := by decide +kernel
theorem dX12_go_56 : decode cX12_go 56 = .ok (.getfield 19, 3) := by decide +kernel
theorem dX12_go_59 : decode cX12_go 59 = .ok (.bipush 7, 2) := by decide +kernel
theorem dX12_go_61 : decode cX12_go 61 = .ok (.iaload, 1) := by decide +kernel
theorem dX12_go_62 : decode cX12_go 62 = .ok (.iadd, 1) := by decide +kernel
theorem dX12_go_63 : decode cX12_go 63 = .ok (.invokevirtual 181, 3) := by decide +kernel
theorem dX12_go_66 : decode cX12_go 66 = .ok (.iastore, 1) := by decide +kernel
theorem dX12_go_67 : decode cX12_go 67 = .ok (.iinc 2 1, 3) := by decide +kernel
theorem dX12_go_70 : decode cX12_go 70 = .ok (.goto (-34), 3) := by decide +kernel
theorem dX12_go_73 : decode cX12_go 73 = .ok (.aload_n 0, 1) := by decide +kernel
theorem dX12_go_74 : decode cX12_go 74 = .ok (.getfield 19, 3) := by decide +kernel
theorem dX12_go_77 : decode cX12_go 77 = .ok (.bipush 8, 2) := by decide +kernel
theorem dX12_go_79 : decode cX12_go 79 = .ok (.dup2, 1) := by decide +kernel
theorem dX12_go_80 : decode cX12_go 80 = .ok (.iaload, 1) := by decide +kernel
theorem dX12_go_81 : decode cX12_go 81 = .ok (.iload_n 1, 1) := by decide +kernel
theorem dX12_go_82 : decode cX12_go 82 = .ok (.aload_n 0, 1) := by decide +kernel
theorem dX12_go_83 : decode cX12_go 83 = .ok (.getfield 19, 3) := by decide +kernel
theorem dX12_go_86 : decode cX12_go 86 = .ok (.iconst 1, 1) := by decide +kernel
theorem dX12_go_87 : decode cX12_go 87 = .ok (.iaload, 1) := by decide +kernel
theorem dX12_go_88 : decode cX12_go 88 = .ok (.imul, 1) := by decide +kernel
theorem dX12_go_89 : decode cX12_go 89 = .ok (.iadd, 1) := by decide +kernel
theorem dX12_go_90 : decode cX12_go 90 = .ok (.iastore, 1) := by decide +kernel
theorem dX12_go_91 : decode cX12_go 91 = .ok (.aload_n 0, 1) := by decide +kernel
theorem dX12_go_92 : decode cX12_go 92 = .ok (.getfield 19, 3) := by decide +kernel
theorem dX12_go_95 : decode cX12_go 95 = .ok (.bipush 6, 2) := by decide +kernel
theorem dX12_go_97 : decode cX12_go 97 = .ok (.iaload, 1) := by decide +kernel
theorem dX12_go_98 : decode cX12_go 98 = .ok (.ireturn, 1) := by decide +kernel
theorem dX12_over_0 : decode cX12_over 0 = .ok (.aload_n 0, 1) := by decide +kernel
theorem dX12_over_1 : decode cX12_over 1 = .ok (.iconst 0, 1) := by decide +kernel
theorem dX12_over_2 : decode cX12_over 2 = .ok (.putfield 54, 3) := by decide +kernel
theorem dX12_over_5 : decode cX12_over 5 = .ok (.aload_n 0, 1) := by decide +kernel
theorem dX12_over_6 : decode cX12_over 6 = .ok (.invokevirtual 176, 3) := by decide +kernel
theorem dX12_over_9 : decode cX12_over 9 = .ok (.ifCond .ne 6, 3) := by decide +kernel
theorem dX12_over_12 : decode cX12_over 12 = .ok (.ldc 172, 2) := by decide +kernel
theorem dX12_over_14 : decode cX12_over 14 = .ok (.ireturn, 1) := by decide +kernel
theorem dX12_over_15 : decode cX12_over 15 = .ok (.aload_n 0, 1) := by decide +kernel
theorem dX12_over_16 : decode cX12_over 16 = .ok (.invokevirtual 173, 3) := by decide +kernel
theorem dX12_over_19 : decode cX12_over 19 = .ok (.aload_n 0, 1) := by decide +kernel
theorem dX12_over_20 : decode cX12_over 20 = .ok (.getfield 19, 3) := by decide +kernel
theorem dX12_over_23 : decode cX12_over 23 = .ok (.bipush 8, 2) := by decide +kernel
theorem dX12_over_25 : decode cX12_over 25 = .ok (.dup2, 1) := by decide +kernel
theorem dX12_over_26 : decode cX12_over 26 = .ok (.iaload, 1) := by decide +kernel
theorem dX12_over_27 : decode cX12_over 27 = .ok (.aload_n 0, 1) := by decide +kernel
theorem dX12_over_28 : decode cX12_over 28 = .ok (.getfield 19, 3) := by decide +kernel
theorem dX12_over_31 : decode cX12_over 31 = .ok (.iconst 2, 1) := by decide +kernel
theorem dX12_over_32 : decode cX12_over 32 = .ok (.iaload, 1) := by decide +kernel
theorem dX12_over_33 : decode cX12_over 33 = .ok (.iadd, 1) := by decide +kernel
theorem dX12_over_34 : decode cX12_over 34 = .ok (.iastore, 1) := by decide +kernel
theorem dX12_over_35 : decode cX12_over 35 = .ok (.aload_n 0, 1) := by decide +kernel
theorem dX12_over_36 : decode cX12_over 36 = .ok (.getfield 19, 3) := by decide +kernel
theorem dX12_over_39 : decode cX12_over 39 = .ok (.bipush 7, 2) := by decide +kernel
theorem dX12_over_41 : decode cX12_over 41 = .ok (.aload_n 0, 1) := by decide +kernel
theorem dX12_over_42 : decode cX12_over 42 = .ok (.getfield 19, 3) := by decide +kernel
theorem dX12_over_45 : decode cX12_over 45 = .ok (.bipush 7, 2) := by decide +kernel
theorem dX12_over_47 : decode cX12_over 47 = .ok (.iaload, 1) := by decide +kernel
theorem dX12_over_48 : decode cX12_over 48 = .ok (.ineg, 1) := by decide +kernel
theorem dX12_over_49 : decode cX12_over 49 = .ok (.iastore, 1) := by decide +kernel
theorem dX12_over_50 : decode cX12_over 50 = .ok (.aload_n 0, 1) := by decide +kernel
theorem dX12_over_51 : decode cX12_over 51 = .ok (.getfield 19, 3) := by decide +kernel
theorem dX12_over_54 : decode cX12_over 54 = .ok (.bipush 7, 2) := by decide +kernel
theorem dX12_over_56 : decode cX12_over 56 = .ok (.iaload, 1) := by decide +kernel
theorem dX12_over_57 : decode cX12_over 57 = .ok (.ireturn, 1) := by decide +kernel
theorem dX12_likeliestBut_0 : decode cX12_likeliestBut 0 = .ok (.ldc 97, 2) := by decide +kernel
theorem dX12_likeliestBut_2 : decode cX12_likeliestBut 2 = .ok (.istore_n 2, 1) := by decide +kernel
theorem dX12_likeliestBut_3 : decode cX12_likeliestBut 3 = .ok (.iconst 0, 1) := by decide +kernel
theorem dX12_likeliestBut_4 : decode cX12_likeliestBut 4 = .ok (.istore_n 3, 1) := by decide +kernel
theorem dX12_likeliestBut_5 : decode cX12_likeliestBut 5 = .ok (.iload_n 3, 1) := by decide +kernel
theorem dX12_likeliestBut_6 : decode cX12_likeliestBut 6 = .ok (.aload_n 0, 1) := by decide +kernel
theorem dX12_likeliestBut_7 : decode cX12_likeliestBut 7 = .ok (.getfield 19, 3) := by decide +kernel
theorem dX12_likeliestBut_10 : decode cX12_likeliestBut 10 = .ok (.iconst 0, 1) := by decide +kernel
theorem dX12_likeliestBut_11 : decode cX12_likeliestBut 11 = .ok (.iaload, 1) := by decide +kernel
theorem dX12_likeliestBut_12 : decode cX12_likeliestBut 12 = .ok (.if_icmp .ge 42, 3) := by decide +kernel
theorem dX12_likeliestBut_15 : decode cX12_likeliestBut 15 = .ok (.iload_n 3, 1) := by decide +kernel
theorem dX12_likeliestBut_16 : decode cX12_likeliestBut 16 = .ok (.iload_n 1, 1) := by decide +kernel
theorem dX12_likeliestBut_17 : decode cX12_likeliestBut 17 = .ok (.if_icmp .eq 29, 3) := by decide +kernel
theorem dX12_likeliestBut_20 : decode cX12_likeliestBut 20 = .ok (.iload_n 2, 1) := by decide +kernel
theorem dX12_likeliestBut_21 : decode cX12_likeliestBut 21 = .ok (.ldc 97, 2) := by decide +kernel
theorem dX12_likeliestBut_23 : decode cX12_likeliestBut 23 = .ok (.if_icmp .eq 19, 3) := by decide +kernel
theorem dX12_likeliestBut_26 : decode cX12_likeliestBut 26 = .ok (.aload_n 0, 1) := by decide +kernel
theorem dX12_likeliestBut_27 : decode cX12_likeliestBut 27 = .ok (.getfield 38, 3) := by decide +kernel
theorem dX12_likeliestBut_30 : decode cX12_likeliestBut 30 = .ok (.iload_n 3, 1) := by decide +kernel
theorem dX12_likeliestBut_31 : decode cX12_likeliestBut 31 = .ok (.laload, 1) := by decide +kernel
theorem dX12_likeliestBut_32 : decode cX12_likeliestBut 32 = .ok (.aload_n 0, 1) := by decide +kernel
theorem dX12_likeliestBut_33 : decode cX12_likeliestBut 33 = .ok (.getfield 38, 3) := by decide +kernel
theorem dX12_likeliestBut_36 : decode cX12_likeliestBut 36 = .ok (.iload_n 2, 1) := by decide +kernel
theorem dX12_likeliestBut_37 : decode cX12_likeliestBut 37 = .ok (.laload, 1) := by decide +kernel
theorem dX12_likeliestBut_38 : decode cX12_likeliestBut 38 = .ok (.lcmp, 1) := by decide +kernel
theorem dX12_likeliestBut_39 : decode cX12_likeliestBut 39 = .ok (.ifCond .le 7, 3) := by decide +kernel
theorem dX12_likeliestBut_42 : decode cX12_likeliestBut 42 = .ok (.iload_n 3, 1) := by decide +kernel
theorem dX12_likeliestBut_43 : decode cX12_likeliestBut 43 = .ok (.goto 4, 3) := by decide +kernel
theorem dX12_likeliestBut_46 : decode cX12_likeliestBut 46 = .ok (.iload_n 2, 1) := by decide +kernel
theorem dX12_likeliestBut_47 : decode cX12_likeliestBut 47 = .ok (.istore_n 2, 1) := by decide +kernel
theorem dX12_likeliestBut_48 : decode cX12_likeliestBut 48 = .ok (.iinc 3 1, 3) := by decide +kernel
theorem dX12_likeliestBut_51 : decode cX12_likeliestBut 51 = .ok (.goto (-46), 3) := by decide +kernel
theorem dX12_likeliestBut_54 : decode cX12_likeliestBut 54 = .ok (.iload_n 2, 1) := by decide +kernel
theorem dX12_likeliestBut_55 : decode cX12_likeliestBut 55 = .ok (.ireturn, 1) := by decide +kernel
theorem dX12_nextOf_0 : decode cX12_nextOf 0 = .ok (.aload_n 0, 1) := by decide +kernel
theorem dX12_nextOf_1 : decode cX12_nextOf 1 = .ok (.iload_n 1, 1) := by decide +kernel
theorem dX12_nextOf_2 : decode cX12_nextOf 2 = .ok (.iconst 0, 1) := by decide +kernel
theorem dX12_nextOf_3 : decode cX12_nextOf 3 = .ok (.invokevirtual 159, 3) := by decide +kernel
theorem dX12_nextOf_6 : decode cX12_nextOf 6 = .ok (.tableswitch 106 2 5 #[30, 106, 61, 67], 30) := by decide +kernel
theorem dX12_nextOf_36 : decode cX12_nextOf 36 = .ok (.aload_n 0, 1) := by decide +kernel
theorem dX12_nextOf_37 : decode cX12_nextOf 37 = .ok (.iload_n 3, 1) := by decide +kernel
theorem dX12_nextOf_38 : decode cX12_nextOf 38 = .ok (.iconst 1, 1) := by decide +kernel
theorem dX12_nextOf_39 : decode cX12_nextOf 39 = .ok (.if_icmp .ne 15, 3) := by decide +kernel
theorem dX12_nextOf_42 : decode cX12_nextOf 42 = .ok (.iload_n 2, 1) := by decide +kernel
theorem dX12_nextOf_43 : decode cX12_nextOf 43 = .ok (.aload_n 0, 1) := by decide +kernel
theorem dX12_nextOf_44 : decode cX12_nextOf 44 = .ok (.getfield 19, 3) := by decide +kernel
theorem dX12_nextOf_47 : decode cX12_nextOf 47 = .ok (.bipush 7, 2) := by decide +kernel
theorem dX12_nextOf_49 : decode cX12_nextOf 49 = .ok (.iaload, 1) := by decide +kernel
theorem dX12_nextOf_50 : decode cX12_nextOf 50 = .ok (.isub, 1) := by decide +kernel
theorem dX12_nextOf_51 : decode cX12_nextOf 51 = .ok (.goto 12, 3) := by decide +kernel
theorem dX12_nextOf_54 : decode cX12_nextOf 54 = .ok (.iload_n 2, 1) := by decide +kernel
theorem dX12_nextOf_55 : decode cX12_nextOf 55 = .ok (.aload_n 0, 1) := by decide +kernel
theorem dX12_nextOf_56 : decode cX12_nextOf 56 = .ok (.getfield 19, 3) := by decide +kernel
theorem dX12_nextOf_59 : decode cX12_nextOf 59 = .ok (.bipush 7, 2) := by decide +kernel
theorem dX12_nextOf_61 : decode cX12_nextOf 61 = .ok (.iaload, 1) := by decide +kernel
theorem dX12_nextOf_62 : decode cX12_nextOf 62 = .ok (.iadd, 1) := by decide +kernel
theorem dX12_nextOf_63 : decode cX12_nextOf 63 = .ok (.invokevirtual 181, 3) := by decide +kernel
theorem dX12_nextOf_66 : decode cX12_nextOf 66 = .ok (.ireturn, 1) := by decide +kernel
theorem dX12_nextOf_67 : decode cX12_nextOf 67 = .ok (.aload_n 0, 1) := by decide +kernel
theorem dX12_nextOf_68 : decode cX12_nextOf 68 = .ok (.iload_n 2, 1) := by decide +kernel
theorem dX12_nextOf_69 : decode cX12_nextOf 69 = .ok (.invokevirtual 184, 3) := by decide +kernel
theorem dX12_nextOf_72 : decode cX12_nextOf 72 = .ok (.ireturn, 1) := by decide +kernel
theorem dX12_nextOf_73 : decode cX12_nextOf 73 = .ok (.aload_n 0, 1) := by decide +kernel
theorem dX12_nextOf_74 : decode cX12_nextOf 74 = .ok (.getfield 19, 3) := by decide +kernel
theorem dX12_nextOf_77 : decode cX12_nextOf 77 = .ok (.bipush 11, 2) := by decide +kernel
theorem dX12_nextOf_79 : decode cX12_nextOf 79 = .ok (.iaload, 1) := by decide +kernel
theorem dX12_nextOf_80 : decode cX12_nextOf 80 = .ok (.ldc 97, 2) := by decide +kernel
theorem dX12_nextOf_82 : decode cX12_nextOf 82 = .ok (.if_icmp .eq 24, 3) := by decide +kernel
theorem dX12_nextOf_85 : decode cX12_nextOf 85 = .ok (.aload_n 0, 1) := by decide +kernel
theorem dX12_nextOf_86 : decode cX12_nextOf 86 = .ok (.getfield 19, 3) := by decide +kernel
theorem dX12_nextOf_89 : decode cX12_nextOf 89 = .ok (.bipush 11, 2) := by decide +kernel
theorem dX12_nextOf_91 : decode cX12_nextOf 91 = .ok (.iaload, 1) := by decide +kernel
theorem dX12_nextOf_92 : decode cX12_nextOf 92 = .ok (.iload_n 2, 1) := by decide +kernel
theorem dX12_nextOf_93 : decode cX12_nextOf 93 = .ok (.if_icmp .eq 13, 3) := by decide +kernel
theorem dX12_nextOf_96 : decode cX12_nextOf 96 = .ok (.aload_n 0, 1) := by decide +kernel
theorem dX12_nextOf_97 : decode cX12_nextOf 97 = .ok (.getfield 19, 3) := by decide +kernel
theorem dX12_nextOf_100 : decode cX12_nextOf 100 = .ok (.bipush 11, 2) := by decide +kernel
theorem dX12_nextOf_102 : decode cX12_nextOf 102 = .ok (.iaload, 1) := by decide +kernel
theorem dX12_nextOf_103 : decode cX12_nextOf 103 = .ok (.goto 8, 3) := by decide +kernel
theorem dX12_nextOf_106 : decode cX12_nextOf 106 = .ok (.aload_n 0, 1) := by decide +kernel
theorem dX12_nextOf_107 : decode cX12_nextOf 107 = .ok (.iload_n 2, 1) := by decide +kernel
theorem dX12_nextOf_108 : decode cX12_nextOf 108 = .ok (.invokevirtual 184, 3) := by decide +kernel
theorem dX12_nextOf_111 : decode cX12_nextOf 111 = .ok (.ireturn, 1) := by decide +kernel
theorem dX12_nextOf_112 : decode cX12_nextOf 112 = .ok (.aload_n 0, 1) := by decide +kernel
theorem dX12_nextOf_113 : decode cX12_nextOf 113 = .ok (.iload_n 2, 1) := by decide +kernel
theorem dX12_nextOf_114 : decode cX12_nextOf 114 = .ok (.aload_n 0, 1) := by decide +kernel
theorem dX12_nextOf_115 : decode cX12_nextOf 115 = .ok (.getfield 19, 3) := by decide +kernel
theorem dX12_nextOf_118 : decode cX12_nextOf 118 = .ok (.bipush 7, 2) := by decide +kernel
theorem dX12_nextOf_120 : decode cX12_nextOf 120 = .ok (.iaload, 1) := by decide +kernel
theorem dX12_nextOf_121 : decode cX12_nextOf 121 = .ok (.iadd, 1) := by decide +kernel
theorem dX12_nextOf_122 : decode cX12_nextOf 122 = .ok (.invokevirtual 181, 3) := by decide +kernel
theorem dX12_nextOf_125 : decode cX12_nextOf 125 = .ok (.ireturn, 1) := by decide +kernel
theorem dX12_nextNow_0 : decode cX12_nextNow 0 = .ok (.iconst 0, 1) := by decide +kernel
theorem dX12_nextNow_1 : decode cX12_nextNow 1 = .ok (.istore_n 2, 1) := by decide +kernel
theorem dX12_nextNow_2 : decode cX12_nextNow 2 = .ok (.iload_n 2, 1) := by decide +kernel
theorem dX12_nextNow_3 : decode cX12_nextNow 3 = .ok (.bipush 13, 2) := by decide +kernel
theorem dX12_nextNow_5 : decode cX12_nextNow 5 = .ok (.if_icmp .ge 21, 3) := by decide +kernel
theorem dX12_nextNow_8 : decode cX12_nextNow 8 = .ok (.aload_n 0, 1) := by decide +kernel
theorem dX12_nextNow_9 : decode cX12_nextNow 9 = .ok (.getfield 38, 3) := by decide +kernel
theorem dX12_nextNow_12 : decode cX12_nextNow 12 = .ok (.iload_n 2, 1) := by decide +kernel
theorem dX12_nextNow_13 : decode cX12_nextNow 13 = .ok (.aload_n 0, 1) := by decide +kernel
theorem dX12_nextNow_14 : decode cX12_nextNow 14 = .ok (.getfield 25, 3) := by decide +kernel
theorem dX12_nextNow_17 : decode cX12_nextNow 17 = .ok (.iload_n 2, 1) := by decide +kernel
theorem dX12_nextNow_18 : decode cX12_nextNow 18 = .ok (.laload, 1) := by decide +kernel
theorem dX12_nextNow_19 : decode cX12_nextNow 19 = .ok (.lastore, 1) := by decide +kernel
theorem dX12_nextNow_20 : decode cX12_nextNow 20 = .ok (.iinc 2 1, 3) := by decide +kernel
theorem dX12_nextNow_23 : decode cX12_nextNow 23 = .ok (.goto (-21), 3) := by decide +kernel
theorem dX12_nextNow_26 : decode cX12_nextNow 26 = .ok (.aload_n 0, 1) := by decide +kernel
theorem dX12_nextNow_27 : decode cX12_nextNow 27 = .ok (.iload_n 1, 1) := by decide +kernel
theorem dX12_nextNow_28 : decode cX12_nextNow 28 = .ok (.aload_n 0, 1) := by decide +kernel
theorem dX12_nextNow_29 : decode cX12_nextNow 29 = .ok (.getfield 19, 3) := by decide +kernel
theorem dX12_nextNow_32 : decode cX12_nextNow 32 = .ok (.bipush 6, 2) := by decide +kernel
theorem dX12_nextNow_34 : decode cX12_nextNow 34 = .ok (.iaload, 1) := by decide +kernel
theorem dX12_nextNow_35 : decode cX12_nextNow 35 = .ok (.aload_n 0, 1) := by decide +kernel
theorem dX12_nextNow_36 : decode cX12_nextNow 36 = .ok (.getfield 19, 3) := by decide +kernel
theorem dX12_nextNow_39 : decode cX12_nextNow 39 = .ok (.bipush 10, 2) := by decide +kernel
theorem dX12_nextNow_41 : decode cX12_nextNow 41 = .ok (.iaload, 1) := by decide +kernel
theorem dX12_nextNow_42 : decode cX12_nextNow 42 = .ok (.invokevirtual 187, 3) := by decide +kernel
theorem dX12_nextNow_45 : decode cX12_nextNow 45 = .ok (.ireturn, 1) := by decide +kernel
theorem dX12_seek_0 : decode cX12_seek 0 = .ok (.aload_n 0, 1) := by decide +kernel
theorem dX12_seek_1 : decode cX12_seek 1 = .ok (.iconst 0, 1) := by decide +kernel
theorem dX12_seek_2 : decode cX12_seek 2 = .ok (.putfield 54, 3) := by decide +kernel
theorem dX12_seek_5 : decode cX12_seek 5 = .ok (.aload_n 0, 1) := by decide +kernel
theorem dX12_seek_6 : decode cX12_seek 6 = .ok (.iload_n 1, 1) := by decide +kernel
theorem dX12_seek_7 : decode cX12_seek 7 = .ok (.invokevirtual 165, 3) := by decide +kernel
theorem dX12_seek_10 : decode cX12_seek 10 = .ok (.ifCond .ne 6, 3) := by decide +kernel
theorem dX12_seek_13 : decode cX12_seek 13 = .ok (.ldc 74, 2) := by decide +kernel
theorem dX12_seek_15 : decode cX12_seek 15 = .ok (.ireturn, 1) := by decide +kernel
theorem dX12_seek_16 : decode cX12_seek 16 = .ok (.aload_n 0, 1) := by decide +kernel
theorem dX12_seek_17 : decode cX12_seek 17 = .ok (.iload_n 1, 1) := by decide +kernel
theorem dX12_seek_18 : decode cX12_seek 18 = .ok (.invokevirtual 191, 3) := by decide +kernel
theorem dX12_seek_21 : decode cX12_seek 21 = .ok (.istore_n 2, 1) := by decide +kernel
theorem dX12_seek_22 : decode cX12_seek 22 = .ok (.aload_n 0, 1) := by decide +kernel
theorem dX12_seek_23 : decode cX12_seek 23 = .ok (.invokevirtual 173, 3) := by decide +kernel
theorem dX12_seek_26 : decode cX12_seek 26 = .ok (.aload_n 0, 1) := by decide +kernel
theorem dX12_seek_27 : decode cX12_seek 27 = .ok (.iload_n 2, 1) := by decide +kernel
theorem dX12_seek_28 : decode cX12_seek 28 = .ok (.aload_n 0, 1) := by decide +kernel
theorem dX12_seek_29 : decode cX12_seek 29 = .ok (.getfield 19, 3) := by decide +kernel
theorem dX12_seek_32 : decode cX12_seek 32 = .ok (.bipush 6, 2) := by decide +kernel
theorem dX12_seek_34 : decode cX12_seek 34 = .ok (.iaload, 1) := by decide +kernel
theorem dX12_seek_35 : decode cX12_seek 35 = .ok (.isub, 1) := by decide +kernel
theorem dX12_seek_36 : decode cX12_seek 36 = .ok (.invokevirtual 181, 3) := by decide +kernel
theorem dX12_seek_39 : decode cX12_seek 39 = .ok (.istore_n 3, 1) := by decide +kernel
theorem dX12_seek_40 : decode cX12_seek 40 = .ok (.iload_n 3, 1) := by decide +kernel
theorem dX12_seek_41 : decode cX12_seek 41 = .ok (.aload_n 0, 1) := by decide +kernel
theorem dX12_seek_42 : decode cX12_seek 42 = .ok (.getfield 19, 3) := by decide +kernel
theorem dX12_seek_45 : decode cX12_seek 45 = .ok (.iconst 0, 1) := by decide +kernel
theorem dX12_seek_46 : decode cX12_seek 46 = .ok (.iaload, 1) := by decide +kernel
theorem dX12_seek_47 : decode cX12_seek 47 = .ok (.iload_n 3, 1) := by decide +kernel
theorem dX12_seek_48 : decode cX12_seek 48 = .ok (.isub, 1) := by decide +kernel
theorem dX12_seek_49 : decode cX12_seek 49 = .ok (.if_icmp .le 14, 3) := by decide +kernel
theorem dX12_seek_52 : decode cX12_seek 52 = .ok (.aload_n 0, 1) := by decide +kernel
theorem dX12_seek_53 : decode cX12_seek 53 = .ok (.getfield 19, 3) := by decide +kernel
theorem dX12_seek_56 : decode cX12_seek 56 = .ok (.iconst 0, 1) := by decide +kernel
theorem dX12_seek_57 : decode cX12_seek 57 = .ok (.iaload, 1) := by decide +kernel
theorem dX12_seek_58 : decode cX12_seek 58 = .ok (.iload_n 3, 1) := by decide +kernel
theorem dX12_seek_59 : decode cX12_seek 59 = .ok (.isub, 1) := by decide +kernel
theorem dX12_seek_60 : decode cX12_seek 60 = .ok (.goto 4, 3) := by decide +kernel
theorem dX12_seek_63 : decode cX12_seek 63 = .ok (.iload_n 3, 1) := by decide +kernel
theorem dX12_seek_64 : decode cX12_seek 64 = .ok (.istore_n 3, 1) := by decide +kernel
theorem dX12_seek_65 : decode cX12_seek 65 = .ok (.aload_n 0, 1) := by decide +kernel
theorem dX12_seek_66 : decode cX12_seek 66 = .ok (.getfield 19, 3) := by decide +kernel
theorem dX12_seek_69 : decode cX12_seek 69 = .ok (.bipush 8, 2) := by decide +kernel
theorem dX12_seek_71 : decode cX12_seek 71 = .ok (.dup2, 1) := by decide +kernel
theorem dX12_seek_72 : decode cX12_seek 72 = .ok (.iaload, 1) := by decide +kernel
theorem dX12_seek_73 : decode cX12_seek 73 = .ok (.iload_n 3, 1) := by decide +kernel
theorem dX12_seek_74 : decode cX12_seek 74 = .ok (.aload_n 0, 1) := by decide +kernel
theorem dX12_seek_75 : decode cX12_seek 75 = .ok (.getfield 19, 3) := by decide +kernel
theorem dX12_seek_78 : decode cX12_seek 78 = .ok (.iconst 1, 1) := by decide +kernel
theorem dX12_seek_79 : decode cX12_seek 79 = .ok (.iaload, 1) := by decide +kernel
theorem dX12_seek_80 : decode cX12_seek 80 = .ok (.imul, 1) := by decide +kernel
theorem dX12_seek_81 : decode cX12_seek 81 = .ok (.iadd, 1) := by decide +kernel
theorem dX12_seek_82 : decode cX12_seek 82 = .ok (.iastore, 1) := by decide +kernel
theorem dX12_seek_83 : decode cX12_seek 83 = .ok (.aload_n 0, 1) := by decide +kernel
theorem dX12_seek_84 : decode cX12_seek 84 = .ok (.getfield 19, 3) := by decide +kernel
theorem dX12_seek_87 : decode cX12_seek 87 = .ok (.bipush 6, 2) := by decide +kernel
theorem dX12_seek_89 : decode cX12_seek 89 = .ok (.iload_n 2, 1) := by decide +kernel
theorem dX12_seek_90 : decode cX12_seek 90 = .ok (.iastore, 1) := by decide +kernel
theorem dX12_seek_91 : decode cX12_seek 91 = .ok (.iload_n 2, 1) := by decide +kernel
theorem dX12_seek_92 : decode cX12_seek 92 = .ok (.ireturn, 1) := by decide +kernel
theorem dX12_fold_0 : decode cX12_fold 0 = .ok (.aload_n 0, 1) := by decide +kernel
theorem dX12_fold_1 : decode cX12_fold 1 = .ok (.iconst 0, 1) := by decide +kernel
theorem dX12_fold_2 : decode cX12_fold 2 = .ok (.putfield 54, 3) := by decide +kernel
theorem dX12_fold_5 : decode cX12_fold 5 = .ok (.aload_n 0, 1) := by decide +kernel
theorem dX12_fold_6 : decode cX12_fold 6 = .ok (.invokevirtual 176, 3) := by decide +kernel
theorem dX12_fold_9 : decode cX12_fold 9 = .ok (.ifCond .ne 6, 3) := by decide +kernel
theorem dX12_fold_12 : decode cX12_fold 12 = .ok (.ldc 172, 2) := by decide +kernel
theorem dX12_fold_14 : decode cX12_fold 14 = .ok (.ireturn, 1) := by decide +kernel
theorem dX12_fold_15 : decode cX12_fold 15 = .ok (.aload_n 0, 1) := by decide +kernel
theorem dX12_fold_16 : decode cX12_fold 16 = .ok (.iload_n 1, 1) := by decide +kernel
theorem dX12_fold_17 : decode cX12_fold 17 = .ok (.invokevirtual 194, 3) := by decide +kernel
theorem dX12_fold_20 : decode cX12_fold 20 = .ok (.ifCond .ne 6, 3) := by decide +kernel
theorem dX12_fold_23 : decode cX12_fold 23 = .ok (.ldc 74, 2) := by decide +kernel
theorem dX12_fold_25 : decode cX12_fold 25 = .ok (.ireturn, 1) := by decide +kernel
theorem dX12_fold_26 : decode cX12_fold 26 = .ok (.aload_n 0, 1) := by decide +kernel
theorem dX12_fold_27 : decode cX12_fold 27 = .ok (.invokevirtual 173, 3) := by decide +kernel
theorem dX12_fold_30 : decode cX12_fold 30 = .ok (.aload_n 0, 1) := by decide +kernel
theorem dX12_fold_31 : decode cX12_fold 31 = .ok (.getfield 19, 3) := by decide +kernel
theorem dX12_fold_34 : decode cX12_fold 34 = .ok (.bipush 11, 2) := by decide +kernel
theorem dX12_fold_36 : decode cX12_fold 36 = .ok (.iaload, 1) := by decide +kernel
theorem dX12_fold_37 : decode cX12_fold 37 = .ok (.istore_n 2, 1) := by decide +kernel
theorem dX12_fold_38 : decode cX12_fold 38 = .ok (.aload_n 0, 1) := by decide +kernel
theorem dX12_fold_39 : decode cX12_fold 39 = .ok (.getfield 19, 3) := by decide +kernel
theorem dX12_fold_42 : decode cX12_fold 42 = .ok (.bipush 11, 2) := by decide +kernel
theorem dX12_fold_44 : decode cX12_fold 44 = .ok (.iload_n 1, 1) := by decide +kernel
theorem dX12_fold_45 : decode cX12_fold 45 = .ok (.iastore, 1) := by decide +kernel
theorem dX12_fold_46 : decode cX12_fold 46 = .ok (.iload_n 2, 1) := by decide +kernel
theorem dX12_fold_47 : decode cX12_fold 47 = .ok (.ireturn, 1) := by decide +kernel
theorem dX12_undo_0 : decode cX12_undo 0 = .ok (.aload_n 0, 1) := by decide +kernel
theorem dX12_undo_1 : decode cX12_undo 1 = .ok (.iconst 0, 1) := by decide +kernel
theorem dX12_undo_2 : decode cX12_undo 2 = .ok (.putfield 54, 3) := by decide +kernel
theorem dX12_undo_5 : decode cX12_undo 5 = .ok (.aload_n 0, 1) := by decide +kernel
theorem dX12_undo_6 : decode cX12_undo 6 = .ok (.getfield 156, 3) := by decide +kernel
theorem dX12_undo_9 : decode cX12_undo 9 = .ok (.ifCond .ne 6, 3) := by decide +kernel
theorem dX12_undo_12 : decode cX12_undo 12 = .ok (.ldc 172, 2) := by decide +kernel
theorem dX12_undo_14 : decode cX12_undo 14 = .ok (.ireturn, 1) := by decide +kernel
theorem dX12_undo_15 : decode cX12_undo 15 = .ok (.aload_n 0, 1) := by decide +kernel
theorem dX12_undo_16 : decode cX12_undo 16 = .ok (.dup, 1) := by decide +kernel
theorem dX12_undo_17 : decode cX12_undo 17 = .ok (.getfield 156, 3) := by decide +kernel
theorem dX12_undo_20 : decode cX12_undo 20 = .ok (.iconst 1, 1) := by decide +kernel
theorem dX12_undo_21 : decode cX12_undo 21 = .ok (.isub, 1) := by decide +kernel
theorem dX12_undo_22 : decode cX12_undo 22 = .ok (.putfield 156, 3) := by decide +kernel
theorem dX12_undo_25 : decode cX12_undo 25 = .ok (.iconst 0, 1) := by decide +kernel
theorem dX12_undo_26 : decode cX12_undo 26 = .ok (.istore_n 1, 1) := by decide +kernel
theorem dX12_undo_27 : decode cX12_undo 27 = .ok (.iload_n 1, 1) := by decide +kernel
theorem dX12_undo_28 : decode cX12_undo 28 = .ok (.bipush 48, 2) := by decide +kernel
theorem dX12_undo_30 : decode cX12_undo 30 = .ok (.if_icmp .ge 29, 3) := by decide +kernel
theorem dX12_undo_33 : decode cX12_undo 33 = .ok (.aload_n 0, 1) := by decide +kernel
theorem dX12_undo_34 : decode cX12_undo 34 = .ok (.getfield 19, 3) := by decide +kernel
theorem dX12_undo_37 : decode cX12_undo 37 = .ok (.iload_n 1, 1) := by decide +kernel
theorem dX12_undo_38 : decode cX12_undo 38 = .ok (.aload_n 0, 1) := by decide +kernel
theorem dX12_undo_39 : decode cX12_undo 39 = .ok (.getfield 29, 3) := by decide +kernel
theorem dX12_undo_42 : decode cX12_undo 42 = .ok (.bipush 48, 2) := by decide +kernel
theorem dX12_undo_44 : decode cX12_undo 44 = .ok (.aload_n 0, 1) := by decide +kernel
theorem dX12_undo_45 : decode cX12_undo 45 = .ok (.getfield 156, 3) := by decide +kernel
theorem dX12_undo_48 : decode cX12_undo 48 = .ok (.imul, 1) := by decide +kernel
theorem dX12_undo_49 : decode cX12_undo 49 = .ok (.iload_n 1, 1) := by decide +kernel
theorem dX12_undo_50 : decode cX12_undo 50 = .ok (.iadd, 1) := by decide +kernel
theorem dX12_undo_51 : decode cX12_undo 51 = .ok (.iaload, 1) := by decide +kernel
theorem dX12_undo_52 : decode cX12_undo 52 = .ok (.iastore, 1) := by decide +kernel
theorem dX12_undo_53 : decode cX12_undo 53 = .ok (.iinc 1 1, 3) := by decide +kernel
theorem dX12_undo_56 : decode cX12_undo 56 = .ok (.goto (-29), 3) := by decide +kernel
theorem dX12_undo_59 : decode cX12_undo 59 = .ok (.iconst 0, 1) := by decide +kernel
theorem dX12_undo_60 : decode cX12_undo 60 = .ok (.istore_n 1, 1) := by decide +kernel
theorem dX12_undo_61 : decode cX12_undo 61 = .ok (.iload_n 1, 1) := by decide +kernel
theorem dX12_undo_62 : decode cX12_undo 62 = .ok (.bipush 13, 2) := by decide +kernel
theorem dX12_undo_64 : decode cX12_undo 64 = .ok (.if_icmp .ge 29, 3) := by decide +kernel
theorem dX12_undo_67 : decode cX12_undo 67 = .ok (.aload_n 0, 1) := by decide +kernel
theorem dX12_undo_68 : decode cX12_undo 68 = .ok (.getfield 25, 3) := by decide +kernel
theorem dX12_undo_71 : decode cX12_undo 71 = .ok (.iload_n 1, 1) := by decide +kernel
theorem dX12_undo_72 : decode cX12_undo 72 = .ok (.aload_n 0, 1) := by decide +kernel
theorem dX12_undo_73 : decode cX12_undo 73 = .ok (.getfield 32, 3) := by decide +kernel
theorem dX12_undo_76 : decode cX12_undo 76 = .ok (.bipush 13, 2) := by decide +kernel
theorem dX12_undo_78 : decode cX12_undo 78 = .ok (.aload_n 0, 1) := by decide +kernel
theorem dX12_undo_79 : decode cX12_undo 79 = .ok (.getfield 156, 3) := by decide +kernel
theorem dX12_undo_82 : decode cX12_undo 82 = .ok (.imul, 1) := by decide +kernel
theorem dX12_undo_83 : decode cX12_undo 83 = .ok (.iload_n 1, 1) := by decide +kernel
theorem dX12_undo_84 : decode cX12_undo 84 = .ok (.iadd, 1) := by decide +kernel
theorem dX12_undo_85 : decode cX12_undo 85 = .ok (.laload, 1) := by decide +kernel
theorem dX12_undo_86 : decode cX12_undo 86 = .ok (.lastore, 1) := by decide +kernel
theorem dX12_undo_87 : decode cX12_undo 87 = .ok (.iinc 1 1, 3) := by decide +kernel
theorem dX12_undo_90 : decode cX12_undo 90 = .ok (.goto (-29), 3) := by decide +kernel
theorem dX12_undo_93 : decode cX12_undo 93 = .ok (.aload_n 0, 1) := by decide +kernel
theorem dX12_undo_94 : decode cX12_undo 94 = .ok (.getfield 156, 3) := by decide +kernel
theorem dX12_undo_97 : decode cX12_undo 97 = .ok (.ireturn, 1) := by decide +kernel
theorem dX12_nail_0 : decode cX12_nail 0 = .ok (.aload_n 0, 1) := by decide +kernel
theorem dX12_nail_1 : decode cX12_nail 1 = .ok (.iconst 0, 1) := by decide +kernel
theorem dX12_nail_2 : decode cX12_nail 2 = .ok (.putfield 54, 3) := by decide +kernel
theorem dX12_nail_5 : decode cX12_nail 5 = .ok (.aload_n 0, 1) := by decide +kernel
theorem dX12_nail_6 : decode cX12_nail 6 = .ok (.invokevirtual 176, 3) := by decide +kernel
theorem dX12_nail_9 : decode cX12_nail 9 = .ok (.ifCond .ne 8, 3) := by decide +kernel
theorem dX12_nail_12 : decode cX12_nail 12 = .ok (.ldc 172, 2) := by decide +kernel
theorem dX12_nail_14 : decode cX12_nail 14 = .ok (.goto 29, 3) := by decide +kernel
theorem dX12_nail_17 : decode cX12_nail 17 = .ok (.iload_n 1, 1) := by decide +kernel
theorem dX12_nail_18 : decode cX12_nail 18 = .ok (.i2l, 1) := by decide +kernel
theorem dX12_nail_19 : decode cX12_nail 19 = .ok (.lconst 0, 1) := by decide +kernel
theorem dX12_nail_20 : decode cX12_nail 20 = .ok (.ldc2_w 197, 3) := by decide +kernel
theorem dX12_nail_23 : decode cX12_nail 23 = .ok (.invokestatic 64, 3) := by decide +kernel
theorem dX12_nail_26 : decode cX12_nail 26 = .ok (.ifCond .eq 15, 3) := by decide +kernel
theorem dX12_nail_29 : decode cX12_nail 29 = .ok (.aload_n 0, 1) := by decide +kernel
theorem dX12_nail_30 : decode cX12_nail 30 = .ok (.getfield 19, 3) := by decide +kernel
theorem dX12_nail_33 : decode cX12_nail 33 = .ok (.bipush 6, 2) := by decide +kernel
theorem dX12_nail_35 : decode cX12_nail 35 = .ok (.iload_n 1, 1) := by decide +kernel
theorem dX12_nail_36 : decode cX12_nail 36 = .ok (.iadd, 1) := by decide +kernel
theorem dX12_nail_37 : decode cX12_nail 37 = .ok (.iaload, 1) := by decide +kernel
theorem dX12_nail_38 : decode cX12_nail 38 = .ok (.goto 5, 3) := by decide +kernel
theorem dX12_nail_41 : decode cX12_nail 41 = .ok (.ldc 74, 2) := by decide +kernel
theorem dX12_nail_43 : decode cX12_nail 43 = .ok (.ireturn, 1) := by decide +kernel
theorem dX12_place_0 : decode cX12_place 0 = .ok (.aload_n 0, 1) := by decide +kernel
theorem dX12_place_1 : decode cX12_place 1 = .ok (.iconst 0, 1) := by decide +kernel
theorem dX12_place_2 : decode cX12_place 2 = .ok (.putfield 54, 3) := by decide +kernel
theorem dX12_place_5 : decode cX12_place 5 = .ok (.aload_n 0, 1) := by decide +kernel
theorem dX12_place_6 : decode cX12_place 6 = .ok (.iload_n 1, 1) := by decide +kernel
theorem dX12_place_7 : decode cX12_place 7 = .ok (.invokevirtual 194, 3) := by decide +kernel
theorem dX12_place_10 : decode cX12_place 10 = .ok (.ifCond .eq 30, 3) := by decide +kernel
theorem dX12_place_13 : decode cX12_place 13 = .ok (.iload_n 2, 1) := by decide +kernel
theorem dX12_place_14 : decode cX12_place 14 = .ok (.i2l, 1) := by decide +kernel
theorem dX12_place_15 : decode cX12_place 15 = .ok (.lconst 0, 1) := by decide +kernel
theorem dX12_place_16 : decode cX12_place 16 = .ok (.lconst 1, 1) := by decide +kernel
theorem dX12_place_17 : decode cX12_place 17 = .ok (.invokestatic 64, 3) := by decide +kernel
theorem dX12_place_20 : decode cX12_place 20 = .ok (.ifCond .eq 20, 3) := by decide +kernel
theorem dX12_place_23 : decode cX12_place 23 = .ok (.aload_n 0, 1) := by decide +kernel
theorem dX12_place_24 : decode cX12_place 24 = .ok (.getfield 19, 3) := by decide +kernel
theorem dX12_place_27 : decode cX12_place 27 = .ok (.bipush 12, 2) := by decide +kernel
theorem dX12_place_29 : decode cX12_place 29 = .ok (.bipush 12, 2) := by decide +kernel
theorem dX12_place_31 : decode cX12_place 31 = .ok (.iload_n 2, 1) := by decide +kernel
theorem dX12_place_32 : decode cX12_place 32 = .ok (.imul, 1) := by decide +kernel
theorem dX12_place_33 : decode cX12_place 33 = .ok (.iadd, 1) := by decide +kernel
theorem dX12_place_34 : decode cX12_place 34 = .ok (.iload_n 1, 1) := by decide +kernel
theorem dX12_place_35 : decode cX12_place 35 = .ok (.iadd, 1) := by decide +kernel
theorem dX12_place_36 : decode cX12_place 36 = .ok (.iaload, 1) := by decide +kernel
theorem dX12_place_37 : decode cX12_place 37 = .ok (.goto 5, 3) := by decide +kernel
theorem dX12_place_40 : decode cX12_place 40 = .ok (.ldc 74, 2) := by decide +kernel
theorem dX12_place_42 : decode cX12_place 42 = .ok (.ireturn, 1) := by decide +kernel
theorem dX12_seeker_0 : decode cX12_seeker 0 = .ok (.aload_n 0, 1) := by decide +kernel
theorem dX12_seeker_1 : decode cX12_seeker 1 = .ok (.iconst 0, 1) := by decide +kernel
theorem dX12_seeker_2 : decode cX12_seeker 2 = .ok (.putfield 54, 3) := by decide +kernel
theorem dX12_seeker_5 : decode cX12_seeker 5 = .ok (.aload_n 0, 1) := by decide +kernel
theorem dX12_seeker_6 : decode cX12_seeker 6 = .ok (.iload_n 1, 1) := by decide +kernel
theorem dX12_seeker_7 : decode cX12_seeker 7 = .ok (.invokevirtual 165, 3) := by decide +kernel
theorem dX12_seeker_10 : decode cX12_seeker 10 = .ok (.ifCond .eq 15, 3) := by decide +kernel
theorem dX12_seeker_13 : decode cX12_seeker 13 = .ok (.iload_n 2, 1) := by decide +kernel
theorem dX12_seeker_14 : decode cX12_seeker 14 = .ok (.i2l, 1) := by decide +kernel
theorem dX12_seeker_15 : decode cX12_seeker 15 = .ok (.lconst 0, 1) := by decide +kernel
theorem dX12_seeker_16 : decode cX12_seeker 16 = .ok (.ldc2_w 199, 3) := by decide +kernel
theorem dX12_seeker_19 : decode cX12_seeker 19 = .ok (.invokestatic 64, 3) := by decide +kernel
theorem dX12_seeker_22 : decode cX12_seeker 22 = .ok (.ifCond .ne 6, 3) := by decide +kernel
theorem dX12_seeker_25 : decode cX12_seeker 25 = .ok (.ldc 74, 2) := by decide +kernel
theorem dX12_seeker_27 : decode cX12_seeker 27 = .ok (.ireturn, 1) := by decide +kernel
theorem dX12_seeker_28 : decode cX12_seeker 28 = .ok (.iload_n 2, 1) := by decide +kernel
theorem dX12_seeker_29 : decode cX12_seeker 29 = .ok (.iconst 2, 1) := by decide +kernel
theorem dX12_seeker_30 : decode cX12_seeker 30 = .ok (.if_icmp .ge 14, 3) := by decide +kernel
theorem dX12_seeker_33 : decode cX12_seeker 33 = .ok (.aload_n 0, 1) := by decide +kernel
theorem dX12_seeker_34 : decode cX12_seeker 34 = .ok (.iload_n 1, 1) := by decide +kernel
theorem dX12_seeker_35 : decode cX12_seeker 35 = .ok (.iconst 1, 1) := by decide +kernel
theorem dX12_seeker_36 : decode cX12_seeker 36 = .ok (.iload_n 2, 1) := by decide +kernel
theorem dX12_seeker_37 : decode cX12_seeker 37 = .ok (.iadd, 1) := by decide +kernel
theorem dX12_seeker_38 : decode cX12_seeker 38 = .ok (.invokevirtual 159, 3) := by decide +kernel
theorem dX12_seeker_41 : decode cX12_seeker 41 = .ok (.goto 28, 3) := by decide +kernel
theorem dX12_seeker_44 : decode cX12_seeker 44 = .ok (.iload_n 2, 1) := by decide +kernel
theorem dX12_seeker_45 : decode cX12_seeker 45 = .ok (.iconst 2, 1) := by decide +kernel
theorem dX12_seeker_46 : decode cX12_seeker 46 = .ok (.if_icmp .ne 18, 3) := by decide +kernel
theorem dX12_seeker_49 : decode cX12_seeker 49 = .ok (.aload_n 0, 1) := by decide +kernel
theorem dX12_seeker_50 : decode cX12_seeker 50 = .ok (.iload_n 1, 1) := by decide +kernel
theorem dX12_seeker_51 : decode cX12_seeker 51 = .ok (.aload_n 0, 1) := by decide +kernel
theorem dX12_seeker_52 : decode cX12_seeker 52 = .ok (.getfield 19, 3) := by decide +kernel
theorem dX12_seeker_55 : decode cX12_seeker 55 = .ok (.bipush 7, 2) := by decide +kernel
theorem dX12_seeker_57 : decode cX12_seeker 57 = .ok (.iaload, 1) := by decide +kernel
theorem dX12_seeker_58 : decode cX12_seeker 58 = .ok (.invokevirtual 162, 3) := by decide +kernel
theorem dX12_seeker_61 : decode cX12_seeker 61 = .ok (.goto 8, 3) := by decide +kernel
theorem dX12_seeker_64 : decode cX12_seeker 64 = .ok (.aload_n 0, 1) := by decide +kernel
theorem dX12_seeker_65 : decode cX12_seeker 65 = .ok (.iload_n 1, 1) := by decide +kernel
theorem dX12_seeker_66 : decode cX12_seeker 66 = .ok (.invokevirtual 191, 3) := by decide +kernel
theorem dX12_seeker_69 : decode cX12_seeker 69 = .ok (.ireturn, 1) := by decide +kernel
theorem dX12_likelihood_0 : decode cX12_likelihood 0 = .ok (.aload_n 0, 1) := by decide +kernel
theorem dX12_likelihood_1 : decode cX12_likelihood 1 = .ok (.iconst 0, 1) := by decide +kernel
theorem dX12_likelihood_2 : decode cX12_likelihood 2 = .ok (.putfield 54, 3) := by decide +kernel
theorem dX12_likelihood_5 : decode cX12_likelihood 5 = .ok (.aload_n 0, 1) := by decide +kernel
theorem dX12_likelihood_6 : decode cX12_likelihood 6 = .ok (.invokevirtual 176, 3) := by decide +kernel
theorem dX12_likelihood_9 : decode cX12_likelihood 9 = .ok (.ifCond .eq 28, 3) := by decide +kernel
theorem dX12_likelihood_12 : decode cX12_likelihood 12 = .ok (.iload_n 1, 1) := by decide +kernel
theorem dX12_likelihood_13 : decode cX12_likelihood 13 = .ok (.i2l, 1) := by decide +kernel
theorem dX12_likelihood_14 : decode cX12_likelihood 14 = .ok (.lconst 0, 1) := by decide +kernel
theorem dX12_likelihood_15 : decode cX12_likelihood 15 = .ok (.aload_n 0, 1) := by decide +kernel
theorem dX12_likelihood_16 : decode cX12_likelihood 16 = .ok (.getfield 19, 3) := by decide +kernel
theorem dX12_likelihood_19 : decode cX12_likelihood 19 = .ok (.iconst 0, 1) := by decide +kernel
theorem dX12_likelihood_20 : decode cX12_likelihood 20 = .ok (.iaload, 1) := by decide +kernel
theorem dX12_likelihood_21 : decode cX12_likelihood 21 = .ok (.i2l, 1) := by decide +kernel
theorem dX12_likelihood_22 : decode cX12_likelihood 22 = .ok (.invokestatic 64, 3) := by decide +kernel
theorem dX12_likelihood_25 : decode cX12_likelihood 25 = .ok (.ifCond .eq 12, 3) := by decide +kernel
theorem dX12_likelihood_28 : decode cX12_likelihood 28 = .ok (.aload_n 0, 1) := by decide +kernel
theorem dX12_likelihood_29 : decode cX12_likelihood 29 = .ok (.getfield 25, 3) := by decide +kernel
theorem dX12_likelihood_32 : decode cX12_likelihood 32 = .ok (.iload_n 1, 1) := by decide +kernel
theorem dX12_likelihood_33 : decode cX12_likelihood 33 = .ok (.laload, 1) := by decide +kernel
theorem dX12_likelihood_34 : decode cX12_likelihood 34 = .ok (.goto 6, 3) := by decide +kernel
theorem dX12_likelihood_37 : decode cX12_likelihood 37 = .ok (.ldc2_w 201, 3) := by decide +kernel
theorem dX12_likelihood_40 : decode cX12_likelihood 40 = .ok (.lreturn, 1) := by decide +kernel
theorem dX12_part_0 : decode cX12_part 0 = .ok (.lload_n 0, 1) := by decide +kernel
theorem dX12_part_1 : decode cX12_part 1 = .ok (.lstore 5, 2) := by decide +kernel
theorem dX12_part_3 : decode cX12_part 3 = .ok (.lload_n 2, 1) := by decide +kernel
theorem dX12_part_4 : decode cX12_part 4 = .ok (.lstore 7, 2) := by decide +kernel
theorem dX12_part_6 : decode cX12_part 6 = .ok (.lload 7, 2) := by decide +kernel
theorem dX12_part_8 : decode cX12_part 8 = .ok (.lconst 0, 1) := by decide +kernel
theorem dX12_part_9 : decode cX12_part 9 = .ok (.lcmp, 1) := by decide +kernel
theorem dX12_part_10 : decode cX12_part 10 = .ok (.ifCond .eq 21, 3) := by decide +kernel
theorem dX12_part_13 : decode cX12_part 13 = .ok (.lload 5, 2) := by decide +kernel
theorem dX12_part_15 : decode cX12_part 15 = .ok (.lload 7, 2) := by decide +kernel
theorem dX12_part_17 : decode cX12_part 17 = .ok (.lrem, 1) := by decide +kernel
theorem dX12_part_18 : decode cX12_part 18 = .ok (.lstore 9, 2) := by decide +kernel
theorem dX12_part_20 : decode cX12_part 20 = .ok (.lload 7, 2) := by decide +kernel
theorem dX12_part_22 : decode cX12_part 22 = .ok (.lstore 5, 2) := by decide +kernel
theorem dX12_part_24 : decode cX12_part 24 = .ok (.lload 9, 2) := by decide +kernel
theorem dX12_part_26 : decode cX12_part 26 = .ok (.lstore 7, 2) := by decide +kernel
theorem dX12_part_28 : decode cX12_part 28 = .ok (.goto (-22), 3) := by decide +kernel
theorem dX12_part_31 : decode cX12_part 31 = .ok (.iload 4, 2) := by decide +kernel
theorem dX12_part_33 : decode cX12_part 33 = .ok (.ifCond .ne 7, 3) := by decide +kernel
theorem dX12_part_36 : decode cX12_part 36 = .ok (.lload_n 0, 1) := by decide +kernel
theorem dX12_part_37 : decode cX12_part 37 = .ok (.goto 4, 3) := by decide +kernel
theorem dX12_part_40 : decode cX12_part 40 = .ok (.lload_n 2, 1) := by decide +kernel
theorem dX12_part_41 : decode cX12_part 41 = .ok (.lload 5, 2) := by decide +kernel
theorem dX12_part_43 : decode cX12_part 43 = .ok (.ldiv, 1) := by decide +kernel
theorem dX12_part_44 : decode cX12_part 44 = .ok (.lreturn, 1) := by decide +kernel
theorem dX12_allLike_0 : decode cX12_allLike 0 = .ok (.lconst 0, 1) := by decide +kernel
theorem dX12_allLike_1 : decode cX12_allLike 1 = .ok (.lstore_n 1, 1) := by decide +kernel
theorem dX12_allLike_2 : decode cX12_allLike 2 = .ok (.iconst 0, 1) := by decide +kernel
theorem dX12_allLike_3 : decode cX12_allLike 3 = .ok (.istore_n 3, 1) := by decide +kernel
theorem dX12_allLike_4 : decode cX12_allLike 4 = .ok (.iload_n 3, 1) := by decide +kernel
theorem dX12_allLike_5 : decode cX12_allLike 5 = .ok (.aload_n 0, 1) := by decide +kernel
theorem dX12_allLike_6 : decode cX12_allLike 6 = .ok (.getfield 19, 3) := by decide +kernel
theorem dX12_allLike_9 : decode cX12_allLike 9 = .ok (.iconst 0, 1) := by decide +kernel
theorem dX12_allLike_10 : decode cX12_allLike 10 = .ok (.iaload, 1) := by decide +kernel
theorem dX12_allLike_11 : decode cX12_allLike 11 = .ok (.if_icmp .gt 18, 3) := by decide +kernel
theorem dX12_allLike_14 : decode cX12_allLike 14 = .ok (.lload_n 1, 1) := by decide +kernel
theorem dX12_allLike_15 : decode cX12_allLike 15 = .ok (.aload_n 0, 1) := by decide +kernel
theorem dX12_allLike_16 : decode cX12_allLike 16 = .ok (.getfield 25, 3) := by decide +kernel
theorem dX12_allLike_19 : decode cX12_allLike 19 = .ok (.iload_n 3, 1) := by decide +kernel
theorem dX12_allLike_20 : decode cX12_allLike 20 = .ok (.laload, 1) := by decide +kernel
theorem dX12_allLike_21 : decode cX12_allLike 21 = .ok (.ladd, 1) := by decide +kernel
theorem dX12_allLike_22 : decode cX12_allLike 22 = .ok (.lstore_n 1, 1) := by decide +kernel
theorem dX12_allLike_23 : decode cX12_allLike 23 = .ok (.iinc 3 1, 3) := by decide +kernel
theorem dX12_allLike_26 : decode cX12_allLike 26 = .ok (.goto (-22), 3) := by decide +kernel
theorem dX12_allLike_29 : decode cX12_allLike 29 = .ok (.lload_n 1, 1) := by decide +kernel
theorem dX12_allLike_30 : decode cX12_allLike 30 = .ok (.lreturn, 1) := by decide +kernel
theorem dX12_tens_0 : decode cX12_tens 0 = .ok (.lconst 1, 1) := by decide +kernel
theorem dX12_tens_1 : decode cX12_tens 1 = .ok (.lstore_n 1, 1) := by decide +kernel
theorem dX12_tens_2 : decode cX12_tens 2 = .ok (.iconst 0, 1) := by decide +kernel
theorem dX12_tens_3 : decode cX12_tens 3 = .ok (.istore_n 3, 1) := by decide +kernel
theorem dX12_tens_4 : decode cX12_tens 4 = .ok (.iload_n 3, 1) := by decide +kernel
theorem dX12_tens_5 : decode cX12_tens 5 = .ok (.iload_n 0, 1) := by decide +kernel
theorem dX12_tens_6 : decode cX12_tens 6 = .ok (.if_icmp .ge 15, 3) := by decide +kernel
theorem dX12_tens_9 : decode cX12_tens 9 = .ok (.lload_n 1, 1) := by decide +kernel
theorem dX12_tens_10 : decode cX12_tens 10 = .ok (.ldc2_w 203, 3) := by decide +kernel
theorem dX12_tens_13 : decode cX12_tens 13 = .ok (.lmul, 1) := by decide +kernel
theorem dX12_tens_14 : decode cX12_tens 14 = .ok (.lstore_n 1, 1) := by decide +kernel
theorem dX12_tens_15 : decode cX12_tens 15 = .ok (.iinc 3 1, 3) := by decide +kernel
theorem dX12_tens_18 : decode cX12_tens 18 = .ok (.goto (-14), 3) := by decide +kernel
theorem dX12_tens_21 : decode cX12_tens 21 = .ok (.lload_n 1, 1) := by decide +kernel
theorem dX12_tens_22 : decode cX12_tens 22 = .ok (.lreturn, 1) := by decide +kernel
theorem dX12_likely_0 : decode cX12_likely 0 = .ok (.aload_n 0, 1) := by decide +kernel
theorem dX12_likely_1 : decode cX12_likely 1 = .ok (.iconst 0, 1) := by decide +kernel
theorem dX12_likely_2 : decode cX12_likely 2 = .ok (.putfield 54, 3) := by decide +kernel
theorem dX12_likely_5 : decode cX12_likely 5 = .ok (.aload_n 0, 1) := by decide +kernel
theorem dX12_likely_6 : decode cX12_likely 6 = .ok (.invokevirtual 176, 3) := by decide +kernel
theorem dX12_likely_9 : decode cX12_likely 9 = .ok (.ifCond .eq 46, 3) := by decide +kernel
theorem dX12_likely_12 : decode cX12_likely 12 = .ok (.iload_n 1, 1) := by decide +kernel
theorem dX12_likely_13 : decode cX12_likely 13 = .ok (.i2l, 1) := by decide +kernel
theorem dX12_likely_14 : decode cX12_likely 14 = .ok (.lconst 0, 1) := by decide +kernel
theorem dX12_likely_15 : decode cX12_likely 15 = .ok (.aload_n 0, 1) := by decide +kernel
theorem dX12_likely_16 : decode cX12_likely 16 = .ok (.getfield 19, 3) := by decide +kernel
theorem dX12_likely_19 : decode cX12_likely 19 = .ok (.iconst 0, 1) := by decide +kernel
theorem dX12_likely_20 : decode cX12_likely 20 = .ok (.iaload, 1) := by decide +kernel
theorem dX12_likely_21 : decode cX12_likely 21 = .ok (.i2l, 1) := by decide +kernel
theorem dX12_likely_22 : decode cX12_likely 22 = .ok (.invokestatic 64, 3) := by decide +kernel
theorem dX12_likely_25 : decode cX12_likely 25 = .ok (.ifCond .eq 30, 3) := by decide +kernel
theorem dX12_likely_28 : decode cX12_likely 28 = .ok (.iload_n 2, 1) := by decide +kernel
theorem dX12_likely_29 : decode cX12_likely 29 = .ok (.i2l, 1) := by decide +kernel
theorem dX12_likely_30 : decode cX12_likely 30 = .ok (.lconst 0, 1) := by decide +kernel
theorem dX12_likely_31 : decode cX12_likely 31 = .ok (.lconst 1, 1) := by decide +kernel
theorem dX12_likely_32 : decode cX12_likely 32 = .ok (.invokestatic 64, 3) := by decide +kernel
theorem dX12_likely_35 : decode cX12_likely 35 = .ok (.ifCond .eq 20, 3) := by decide +kernel
theorem dX12_likely_38 : decode cX12_likely 38 = .ok (.aload_n 0, 1) := by decide +kernel
theorem dX12_likely_39 : decode cX12_likely 39 = .ok (.getfield 25, 3) := by decide +kernel
theorem dX12_likely_42 : decode cX12_likely 42 = .ok (.iload_n 1, 1) := by decide +kernel
theorem dX12_likely_43 : decode cX12_likely 43 = .ok (.laload, 1) := by decide +kernel
theorem dX12_likely_44 : decode cX12_likely 44 = .ok (.aload_n 0, 1) := by decide +kernel
theorem dX12_likely_45 : decode cX12_likely 45 = .ok (.invokevirtual 205, 3) := by decide +kernel
theorem dX12_likely_48 : decode cX12_likely 48 = .ok (.iload_n 2, 1) := by decide +kernel
theorem dX12_likely_49 : decode cX12_likely 49 = .ok (.invokestatic 209, 3) := by decide +kernel
theorem dX12_likely_52 : decode cX12_likely 52 = .ok (.goto 6, 3) := by decide +kernel
theorem dX12_likely_55 : decode cX12_likely 55 = .ok (.ldc2_w 201, 3) := by decide +kernel
theorem dX12_likely_58 : decode cX12_likely 58 = .ok (.lreturn, 1) := by decide +kernel
theorem dX12_felt_0 : decode cX12_felt 0 = .ok (.aload_n 0, 1) := by decide +kernel
theorem dX12_felt_1 : decode cX12_felt 1 = .ok (.iconst 0, 1) := by decide +kernel
theorem dX12_felt_2 : decode cX12_felt 2 = .ok (.putfield 54, 3) := by decide +kernel
theorem dX12_felt_5 : decode cX12_felt 5 = .ok (.aload_n 0, 1) := by decide +kernel
theorem dX12_felt_6 : decode cX12_felt 6 = .ok (.iload_n 1, 1) := by decide +kernel
theorem dX12_felt_7 : decode cX12_felt 7 = .ok (.invokevirtual 165, 3) := by decide +kernel
theorem dX12_felt_10 : decode cX12_felt 10 = .ok (.ifCond .eq 13, 3) := by decide +kernel
theorem dX12_felt_13 : decode cX12_felt 13 = .ok (.iload_n 2, 1) := by decide +kernel
theorem dX12_felt_14 : decode cX12_felt 14 = .ok (.i2l, 1) := by decide +kernel
theorem dX12_felt_15 : decode cX12_felt 15 = .ok (.lconst 0, 1) := by decide +kernel
theorem dX12_felt_16 : decode cX12_felt 16 = .ok (.lconst 1, 1) := by decide +kernel
theorem dX12_felt_17 : decode cX12_felt 17 = .ok (.invokestatic 64, 3) := by decide +kernel
theorem dX12_felt_20 : decode cX12_felt 20 = .ok (.ifCond .ne 7, 3) := by decide +kernel
theorem dX12_felt_23 : decode cX12_felt 23 = .ok (.ldc2_w 201, 3) := by decide +kernel
theorem dX12_felt_26 : decode cX12_felt 26 = .ok (.lreturn, 1) := by decide +kernel
theorem dX12_felt_27 : decode cX12_felt 27 = .ok (.lconst 0, 1) := by decide +kernel
theorem dX12_felt_28 : decode cX12_felt 28 = .ok (.lstore_n 3, 1) := by decide +kernel
theorem dX12_felt_29 : decode cX12_felt 29 = .ok (.iconst 0, 1) := by decide +kernel
theorem dX12_felt_30 : decode cX12_felt 30 = .ok (.istore 5, 2) := by decide +kernel
theorem dX12_felt_32 : decode cX12_felt 32 = .ok (.iload 5, 2) := by decide +kernel
theorem dX12_felt_34 : decode cX12_felt 34 = .ok (.aload_n 0, 1) := by decide +kernel
theorem dX12_felt_35 : decode cX12_felt 35 = .ok (.getfield 19, 3) := by decide +kernel
theorem dX12_felt_38 : decode cX12_felt 38 = .ok (.iconst 0, 1) := by decide +kernel
theorem dX12_felt_39 : decode cX12_felt 39 = .ok (.iaload, 1) := by decide +kernel
theorem dX12_felt_40 : decode cX12_felt 40 = .ok (.if_icmp .gt 36, 3) := by decide +kernel
theorem dX12_felt_43 : decode cX12_felt 43 = .ok (.lload_n 3, 1) := by decide +kernel
theorem dX12_felt_44 : decode cX12_felt 44 = .ok (.aload_n 0, 1) := by decide +kernel
theorem dX12_felt_45 : decode cX12_felt 45 = .ok (.getfield 25, 3) := by decide +kernel
theorem dX12_felt_48 : decode cX12_felt 48 = .ok (.iload 5, 2) := by decide +kernel
theorem dX12_felt_50 : decode cX12_felt 50 = .ok (.laload, 1) := by decide +kernel
theorem dX12_felt_51 : decode cX12_felt 51 = .ok (.aload_n 0, 1) := by decide +kernel
theorem dX12_felt_52 : decode cX12_felt 52 = .ok (.iload_n 1, 1) := by decide +kernel
theorem dX12_felt_53 : decode cX12_felt 53 = .ok (.aload_n 0, 1) := by decide +kernel
theorem dX12_felt_54 : decode cX12_felt 54 = .ok (.getfield 19, 3) := by decide +kernel
theorem dX12_felt_57 : decode cX12_felt 57 = .ok (.bipush 6, 2) := by decide +kernel
theorem dX12_felt_59 : decode cX12_felt 59 = .ok (.iaload, 1) := by decide +kernel
theorem dX12_felt_60 : decode cX12_felt 60 = .ok (.iload 5, 2) := by decide +kernel
theorem dX12_felt_62 : decode cX12_felt 62 = .ok (.iconst 1, 1) := by decide +kernel
theorem dX12_felt_63 : decode cX12_felt 63 = .ok (.invokevirtual 168, 3) := by decide +kernel
theorem dX12_felt_66 : decode cX12_felt 66 = .ok (.i2l, 1) := by decide +kernel
theorem dX12_felt_67 : decode cX12_felt 67 = .ok (.lmul, 1) := by decide +kernel
theorem dX12_felt_68 : decode cX12_felt 68 = .ok (.ladd, 1) := by decide +kernel
theorem dX12_felt_69 : decode cX12_felt 69 = .ok (.lstore_n 3, 1) := by decide +kernel
theorem dX12_felt_70 : decode cX12_felt 70 = .ok (.iinc 5 1, 3) := by decide +kernel
theorem dX12_felt_73 : decode cX12_felt 73 = .ok (.goto (-41), 3) := by decide +kernel
theorem dX12_felt_76 : decode cX12_felt 76 = .ok (.lload_n 3, 1) := by decide +kernel
theorem dX12_felt_77 : decode cX12_felt 77 = .ok (.ldc2_w 203, 3) := by decide +kernel
theorem dX12_felt_80 : decode cX12_felt 80 = .ok (.aload_n 0, 1) := by decide +kernel
theorem dX12_felt_81 : decode cX12_felt 81 = .ok (.invokevirtual 205, 3) := by decide +kernel
theorem dX12_felt_84 : decode cX12_felt 84 = .ok (.lmul, 1) := by decide +kernel
theorem dX12_felt_85 : decode cX12_felt 85 = .ok (.iload_n 2, 1) := by decide +kernel
theorem dX12_felt_86 : decode cX12_felt 86 = .ok (.invokestatic 209, 3) := by decide +kernel
theorem dX12_felt_89 : decode cX12_felt 89 = .ok (.lreturn, 1) := by decide +kernel
theorem dX12_surest_0 : decode cX12_surest 0 = .ok (.aload_n 0, 1) := by decide +kernel
theorem dX12_surest_1 : decode cX12_surest 1 = .ok (.iconst 0, 1) := by decide +kernel
theorem dX12_surest_2 : decode cX12_surest 2 = .ok (.putfield 54, 3) := by decide +kernel
theorem dX12_surest_5 : decode cX12_surest 5 = .ok (.aload_n 0, 1) := by decide +kernel
theorem dX12_surest_6 : decode cX12_surest 6 = .ok (.invokevirtual 176, 3) := by decide +kernel
theorem dX12_surest_9 : decode cX12_surest 9 = .ok (.ifCond .ne 6, 3) := by decide +kernel
theorem dX12_surest_12 : decode cX12_surest 12 = .ok (.ldc 172, 2) := by decide +kernel
theorem dX12_surest_14 : decode cX12_surest 14 = .ok (.ireturn, 1) := by decide +kernel
theorem dX12_surest_15 : decode cX12_surest 15 = .ok (.iconst 0, 1) := by decide +kernel
theorem dX12_surest_16 : decode cX12_surest 16 = .ok (.istore_n 1, 1) := by decide +kernel
theorem dX12_surest_17 : decode cX12_surest 17 = .ok (.iconst 1, 1) := by decide +kernel
theorem dX12_surest_18 : decode cX12_surest 18 = .ok (.istore_n 2, 1) := by decide +kernel
theorem dX12_surest_19 : decode cX12_surest 19 = .ok (.iload_n 2, 1) := by decide +kernel
theorem dX12_surest_20 : decode cX12_surest 20 = .ok (.aload_n 0, 1) := by decide +kernel
theorem dX12_surest_21 : decode cX12_surest 21 = .ok (.getfield 19, 3) := by decide +kernel
theorem dX12_surest_24 : decode cX12_surest 24 = .ok (.iconst 0, 1) := by decide +kernel
theorem dX12_surest_25 : decode cX12_surest 25 = .ok (.iaload, 1) := by decide +kernel
theorem dX12_surest_26 : decode cX12_surest 26 = .ok (.if_icmp .ge 31, 3) := by decide +kernel
theorem dX12_surest_29 : decode cX12_surest 29 = .ok (.aload_n 0, 1) := by decide +kernel
theorem dX12_surest_30 : decode cX12_surest 30 = .ok (.getfield 25, 3) := by decide +kernel
theorem dX12_surest_33 : decode cX12_surest 33 = .ok (.iload_n 2, 1) := by decide +kernel
theorem dX12_surest_34 : decode cX12_surest 34 = .ok (.laload, 1) := by decide +kernel
theorem dX12_surest_35 : decode cX12_surest 35 = .ok (.aload_n 0, 1) := by decide +kernel
theorem dX12_surest_36 : decode cX12_surest 36 = .ok (.getfield 25, 3) := by decide +kernel
theorem dX12_surest_39 : decode cX12_surest 39 = .ok (.iload_n 1, 1) := by decide +kernel
theorem dX12_surest_40 : decode cX12_surest 40 = .ok (.laload, 1) := by decide +kernel
theorem dX12_surest_41 : decode cX12_surest 41 = .ok (.lcmp, 1) := by decide +kernel
theorem dX12_surest_42 : decode cX12_surest 42 = .ok (.ifCond .le 7, 3) := by decide +kernel
theorem dX12_surest_45 : decode cX12_surest 45 = .ok (.iload_n 2, 1) := by decide +kernel
theorem dX12_surest_46 : decode cX12_surest 46 = .ok (.goto 4, 3) := by decide +kernel
theorem dX12_surest_49 : decode cX12_surest 49 = .ok (.iload_n 1, 1) := by decide +kernel
theorem dX12_surest_50 : decode cX12_surest 50 = .ok (.istore_n 1, 1) := by decide +kernel
theorem dX12_surest_51 : decode cX12_surest 51 = .ok (.iinc 2 1, 3) := by decide +kernel
theorem dX12_surest_54 : decode cX12_surest 54 = .ok (.goto (-35), 3) := by decide +kernel
theorem dX12_surest_57 : decode cX12_surest 57 = .ok (.iload_n 1, 1) := by decide +kernel
theorem dX12_surest_58 : decode cX12_surest 58 = .ok (.ireturn, 1) := by decide +kernel
theorem dX12_meanOf_0 : decode cX12_meanOf 0 = .ok (.aload_n 0, 1) := by decide +kernel
theorem dX12_meanOf_1 : decode cX12_meanOf 1 = .ok (.getfield 19, 3) := by decide +kernel
theorem dX12_meanOf_4 : decode cX12_meanOf 4 = .ok (.iconst 0, 1) := by decide +kernel
theorem dX12_meanOf_5 : decode cX12_meanOf 5 = .ok (.iaload, 1) := by decide +kernel
theorem dX12_meanOf_6 : decode cX12_meanOf 6 = .ok (.istore 5, 2) := by decide +kernel
theorem dX12_meanOf_8 : decode cX12_meanOf 8 = .ok (.aload_n 0, 1) := by decide +kernel
theorem dX12_meanOf_9 : decode cX12_meanOf 9 = .ok (.iload_n 1, 1) := by decide +kernel
theorem dX12_meanOf_10 : decode cX12_meanOf 10 = .ok (.iload_n 3, 1) := by decide +kernel
theorem dX12_meanOf_11 : decode cX12_meanOf 11 = .ok (.invokevirtual 162, 3) := by decide +kernel
theorem dX12_meanOf_14 : decode cX12_meanOf 14 = .ok (.istore 6, 2) := by decide +kernel
theorem dX12_meanOf_16 : decode cX12_meanOf 16 = .ok (.lconst 1, 1) := by decide +kernel
theorem dX12_meanOf_17 : decode cX12_meanOf 17 = .ok (.iload 4, 2) := by decide +kernel
theorem dX12_meanOf_19 : decode cX12_meanOf 19 = .ok (.iload 5, 2) := by decide +kernel
theorem dX12_meanOf_21 : decode cX12_meanOf 21 = .ok (.imul, 1) := by decide +kernel
theorem dX12_meanOf_22 : decode cX12_meanOf 22 = .ok (.iconst 1, 1) := by decide +kernel
theorem dX12_meanOf_23 : decode cX12_meanOf 23 = .ok (.isub, 1) := by decide +kernel
theorem dX12_meanOf_24 : decode cX12_meanOf 24 = .ok (.i2l, 1) := by decide +kernel
theorem dX12_meanOf_25 : decode cX12_meanOf 25 = .ok (.aload_n 0, 1) := by decide +kernel
theorem dX12_meanOf_26 : decode cX12_meanOf 26 = .ok (.getfield 19, 3) := by decide +kernel
theorem dX12_meanOf_29 : decode cX12_meanOf 29 = .ok (.iconst 1, 1) := by decide +kernel
theorem dX12_meanOf_30 : decode cX12_meanOf 30 = .ok (.iaload, 1) := by decide +kernel
theorem dX12_meanOf_31 : decode cX12_meanOf 31 = .ok (.iconst 1, 1) := by decide +kernel
theorem dX12_meanOf_32 : decode cX12_meanOf 32 = .ok (.iadd, 1) := by decide +kernel
theorem dX12_meanOf_33 : decode cX12_meanOf 33 = .ok (.i2l, 1) := by decide +kernel
theorem dX12_meanOf_34 : decode cX12_meanOf 34 = .ok (.lmul, 1) := by decide +kernel
theorem dX12_meanOf_35 : decode cX12_meanOf 35 = .ok (.ladd, 1) := by decide +kernel
theorem dX12_meanOf_36 : decode cX12_meanOf 36 = .ok (.lstore 7, 2) := by decide +kernel
theorem dX12_meanOf_38 : decode cX12_meanOf 38 = .ok (.aload_n 0, 1) := by decide +kernel
theorem dX12_meanOf_39 : decode cX12_meanOf 39 = .ok (.getfield 25, 3) := by decide +kernel
theorem dX12_meanOf_42 : decode cX12_meanOf 42 = .ok (.iload 5, 2) := by decide +kernel
theorem dX12_meanOf_44 : decode cX12_meanOf 44 = .ok (.laload, 1) := by decide +kernel
theorem dX12_meanOf_45 : decode cX12_meanOf 45 = .ok (.lload 7, 2) := by decide +kernel
theorem dX12_meanOf_47 : decode cX12_meanOf 47 = .ok (.lmul, 1) := by decide +kernel
theorem dX12_meanOf_48 : decode cX12_meanOf 48 = .ok (.iload 4, 2) := by decide +kernel
theorem dX12_meanOf_50 : decode cX12_meanOf 50 = .ok (.invokestatic 213, 3) := by decide +kernel
theorem dX12_meanOf_53 : decode cX12_meanOf 53 = .ok (.lmul, 1) := by decide +kernel
theorem dX12_meanOf_54 : decode cX12_meanOf 54 = .ok (.lstore 9, 2) := by decide +kernel
theorem dX12_meanOf_56 : decode cX12_meanOf 56 = .ok (.iconst 0, 1) := by decide +kernel
theorem dX12_meanOf_57 : decode cX12_meanOf 57 = .ok (.istore 11, 2) := by decide +kernel
theorem dX12_meanOf_59 : decode cX12_meanOf 59 = .ok (.iload 11, 2) := by decide +kernel
theorem dX12_meanOf_61 : decode cX12_meanOf 61 = .ok (.iload 5, 2) := by decide +kernel
theorem dX12_meanOf_63 : decode cX12_meanOf 63 = .ok (.if_icmp .ge 134, 3) := by decide +kernel
theorem dX12_meanOf_66 : decode cX12_meanOf 66 = .ok (.aload_n 0, 1) := by decide +kernel
theorem dX12_meanOf_67 : decode cX12_meanOf 67 = .ok (.iload_n 3, 1) := by decide +kernel
theorem dX12_meanOf_68 : decode cX12_meanOf 68 = .ok (.iconst 1, 1) := by decide +kernel
theorem dX12_meanOf_69 : decode cX12_meanOf 69 = .ok (.if_icmp .ne 10, 3) := by decide +kernel
theorem dX12_meanOf_72 : decode cX12_meanOf 72 = .ok (.iload 11, 2) := by decide +kernel
theorem dX12_meanOf_74 : decode cX12_meanOf 74 = .ok (.iload_n 2, 1) := by decide +kernel
theorem dX12_meanOf_75 : decode cX12_meanOf 75 = .ok (.isub, 1) := by decide +kernel
theorem dX12_meanOf_76 : decode cX12_meanOf 76 = .ok (.goto 7, 3) := by decide +kernel
theorem dX12_meanOf_79 : decode cX12_meanOf 79 = .ok (.iload_n 2, 1) := by decide +kernel
theorem dX12_meanOf_80 : decode cX12_meanOf 80 = .ok (.iload 11, 2) := by decide +kernel
theorem dX12_meanOf_82 : decode cX12_meanOf 82 = .ok (.isub, 1) := by decide +kernel
theorem dX12_meanOf_83 : decode cX12_meanOf 83 = .ok (.invokevirtual 181, 3) := by decide +kernel
theorem dX12_meanOf_86 : decode cX12_meanOf 86 = .ok (.istore 12, 2) := by decide +kernel
theorem dX12_meanOf_88 : decode cX12_meanOf 88 = .ok (.iload 4, 2) := by decide +kernel
theorem dX12_meanOf_90 : decode cX12_meanOf 90 = .ok (.invokestatic 213, 3) := by decide +kernel
theorem dX12_meanOf_93 : decode cX12_meanOf 93 = .ok (.lstore 13, 2) := by decide +kernel
theorem dX12_meanOf_95 : decode cX12_meanOf 95 = .ok (.lconst 0, 1) := by decide +kernel
theorem dX12_meanOf_96 : decode cX12_meanOf 96 = .ok (.lstore 15, 2) := by decide +kernel
theorem dX12_meanOf_98 : decode cX12_meanOf 98 = .ok (.iconst 0, 1) := by decide +kernel
theorem dX12_meanOf_99 : decode cX12_meanOf 99 = .ok (.istore 17, 2) := by decide +kernel
theorem dX12_meanOf_101 : decode cX12_meanOf 101 = .ok (.iload 17, 2) := by decide +kernel
theorem dX12_meanOf_103 : decode cX12_meanOf 103 = .ok (.iload 4, 2) := by decide +kernel
theorem dX12_meanOf_105 : decode cX12_meanOf 105 = .ok (.if_icmp .ge 65, 3) := by decide +kernel
theorem dX12_meanOf_108 : decode cX12_meanOf 108 = .ok (.lconst 1, 1) := by decide +kernel
theorem dX12_meanOf_109 : decode cX12_meanOf 109 = .ok (.iload 12, 2) := by decide +kernel
theorem dX12_meanOf_111 : decode cX12_meanOf 111 = .ok (.iload 17, 2) := by decide +kernel
theorem dX12_meanOf_113 : decode cX12_meanOf 113 = .ok (.iload 5, 2) := by decide +kernel
theorem dX12_meanOf_115 : decode cX12_meanOf 115 = .ok (.imul, 1) := by decide +kernel
theorem dX12_meanOf_116 : decode cX12_meanOf 116 = .ok (.iadd, 1) := by decide +kernel
theorem dX12_meanOf_117 : decode cX12_meanOf 117 = .ok (.i2l, 1) := by decide +kernel
theorem dX12_meanOf_118 : decode cX12_meanOf 118 = .ok (.aload_n 0, 1) := by decide +kernel
theorem dX12_meanOf_119 : decode cX12_meanOf 119 = .ok (.getfield 19, 3) := by decide +kernel
theorem dX12_meanOf_122 : decode cX12_meanOf 122 = .ok (.iconst 1, 1) := by decide +kernel
theorem dX12_meanOf_123 : decode cX12_meanOf 123 = .ok (.iaload, 1) := by decide +kernel
theorem dX12_meanOf_124 : decode cX12_meanOf 124 = .ok (.iconst 1, 1) := by decide +kernel
theorem dX12_meanOf_125 : decode cX12_meanOf 125 = .ok (.iadd, 1) := by decide +kernel
theorem dX12_meanOf_126 : decode cX12_meanOf 126 = .ok (.i2l, 1) := by decide +kernel
theorem dX12_meanOf_127 : decode cX12_meanOf 127 = .ok (.lmul, 1) := by decide +kernel
theorem dX12_meanOf_128 : decode cX12_meanOf 128 = .ok (.ladd, 1) := by decide +kernel
theorem dX12_meanOf_129 : decode cX12_meanOf 129 = .ok (.lstore 18, 2) := by decide +kernel
theorem dX12_meanOf_131 : decode cX12_meanOf 131 = .ok (.lload 15, 2) := by decide +kernel
theorem dX12_meanOf_133 : decode cX12_meanOf 133 = .ok (.lload 13, 2) := by decide +kernel
theorem dX12_meanOf_135 : decode cX12_meanOf 135 = .ok (.ldc2_w 203, 3) := by decide +kernel
theorem dX12_meanOf_138 : decode cX12_meanOf 138 = .ok (.ldiv, 1) := by decide +kernel
theorem dX12_meanOf_139 : decode cX12_meanOf 139 = .ok (.iload 6, 2) := by decide +kernel
theorem dX12_meanOf_141 : decode cX12_meanOf 141 = .ok (.i2l, 1) := by decide +kernel
theorem dX12_meanOf_142 : decode cX12_meanOf 142 = .ok (.lmul, 1) := by decide +kernel
theorem dX12_meanOf_143 : decode cX12_meanOf 143 = .ok (.lload 18, 2) := by decide +kernel
theorem dX12_meanOf_145 : decode cX12_meanOf 145 = .ok (.lmul, 1) := by decide +kernel
theorem dX12_meanOf_146 : decode cX12_meanOf 146 = .ok (.ladd, 1) := by decide +kernel
theorem dX12_meanOf_147 : decode cX12_meanOf 147 = .ok (.lstore 15, 2) := by decide +kernel
theorem dX12_meanOf_149 : decode cX12_meanOf 149 = .ok (.lload 13, 2) := by decide +kernel
theorem dX12_meanOf_151 : decode cX12_meanOf 151 = .ok (.ldc2_w 203, 3) := by decide +kernel
theorem dX12_meanOf_154 : decode cX12_meanOf 154 = .ok (.ldiv, 1) := by decide +kernel
theorem dX12_meanOf_155 : decode cX12_meanOf 155 = .ok (.bipush 10, 2) := by decide +kernel
theorem dX12_meanOf_157 : decode cX12_meanOf 157 = .ok (.iload 6, 2) := by decide +kernel
theorem dX12_meanOf_159 : decode cX12_meanOf 159 = .ok (.isub, 1) := by decide +kernel
theorem dX12_meanOf_160 : decode cX12_meanOf 160 = .ok (.i2l, 1) := by decide +kernel
theorem dX12_meanOf_161 : decode cX12_meanOf 161 = .ok (.lmul, 1) := by decide +kernel
theorem dX12_meanOf_162 : decode cX12_meanOf 162 = .ok (.lstore 13, 2) := by decide +kernel
theorem dX12_meanOf_164 : decode cX12_meanOf 164 = .ok (.iinc 17 1, 3) := by decide +kernel
theorem dX12_meanOf_167 : decode cX12_meanOf 167 = .ok (.goto (-66), 3) := by decide +kernel
theorem dX12_meanOf_170 : decode cX12_meanOf 170 = .ok (.lload 9, 2) := by decide +kernel
theorem dX12_meanOf_172 : decode cX12_meanOf 172 = .ok (.aload_n 0, 1) := by decide +kernel
theorem dX12_meanOf_173 : decode cX12_meanOf 173 = .ok (.getfield 25, 3) := by decide +kernel
theorem dX12_meanOf_176 : decode cX12_meanOf 176 = .ok (.iload 11, 2) := by decide +kernel
theorem dX12_meanOf_178 : decode cX12_meanOf 178 = .ok (.laload, 1) := by decide +kernel
theorem dX12_meanOf_179 : decode cX12_meanOf 179 = .ok (.lload 15, 2) := by decide +kernel
theorem dX12_meanOf_181 : decode cX12_meanOf 181 = .ok (.lload 13, 2) := by decide +kernel
theorem dX12_meanOf_183 : decode cX12_meanOf 183 = .ok (.lload 7, 2) := by decide +kernel
theorem dX12_meanOf_185 : decode cX12_meanOf 185 = .ok (.lmul, 1) := by decide +kernel
theorem dX12_meanOf_186 : decode cX12_meanOf 186 = .ok (.ladd, 1) := by decide +kernel
theorem dX12_meanOf_187 : decode cX12_meanOf 187 = .ok (.lmul, 1) := by decide +kernel
theorem dX12_meanOf_188 : decode cX12_meanOf 188 = .ok (.ladd, 1) := by decide +kernel
theorem dX12_meanOf_189 : decode cX12_meanOf 189 = .ok (.lstore 9, 2) := by decide +kernel
theorem dX12_meanOf_191 : decode cX12_meanOf 191 = .ok (.iinc 11 1, 3) := by decide +kernel
theorem dX12_meanOf_194 : decode cX12_meanOf 194 = .ok (.goto (-135), 3) := by decide +kernel
theorem dX12_meanOf_197 : decode cX12_meanOf 197 = .ok (.lload 9, 2) := by decide +kernel
theorem dX12_meanOf_199 : decode cX12_meanOf 199 = .ok (.lreturn, 1) := by decide +kernel
theorem dX12_isWay_0 : decode cX12_isWay 0 = .ok (.iload_n 0, 1) := by decide +kernel
theorem dX12_isWay_1 : decode cX12_isWay 1 = .ok (.iconst 1, 1) := by decide +kernel
theorem dX12_isWay_2 : decode cX12_isWay 2 = .ok (.if_icmp .eq 8, 3) := by decide +kernel
theorem dX12_isWay_5 : decode cX12_isWay 5 = .ok (.iload_n 0, 1) := by decide +kernel
theorem dX12_isWay_6 : decode cX12_isWay 6 = .ok (.iconst (-1), 1) := by decide +kernel
theorem dX12_isWay_7 : decode cX12_isWay 7 = .ok (.if_icmp .ne 7, 3) := by decide +kernel
theorem dX12_isWay_10 : decode cX12_isWay 10 = .ok (.iconst 1, 1) := by decide +kernel
theorem dX12_isWay_11 : decode cX12_isWay 11 = .ok (.goto 4, 3) := by decide +kernel
theorem dX12_isWay_14 : decode cX12_isWay 14 = .ok (.iconst 0, 1) := by decide +kernel
theorem dX12_isWay_15 : decode cX12_isWay 15 = .ok (.ireturn, 1) := by decide +kernel
theorem dX12_mean_0 : decode cX12_mean 0 = .ok (.aload_n 0, 1) := by decide +kernel
theorem dX12_mean_1 : decode cX12_mean 1 = .ok (.iconst 0, 1) := by decide +kernel
theorem dX12_mean_2 : decode cX12_mean 2 = .ok (.putfield 54, 3) := by decide +kernel
theorem dX12_mean_5 : decode cX12_mean 5 = .ok (.aload_n 0, 1) := by decide +kernel
theorem dX12_mean_6 : decode cX12_mean 6 = .ok (.iload_n 1, 1) := by decide +kernel
theorem dX12_mean_7 : decode cX12_mean 7 = .ok (.invokevirtual 165, 3) := by decide +kernel
theorem dX12_mean_10 : decode cX12_mean 10 = .ok (.ifCond .eq 42, 3) := by decide +kernel
theorem dX12_mean_13 : decode cX12_mean 13 = .ok (.aload_n 0, 1) := by decide +kernel
theorem dX12_mean_14 : decode cX12_mean 14 = .ok (.iload_n 2, 1) := by decide +kernel
theorem dX12_mean_15 : decode cX12_mean 15 = .ok (.invokevirtual 194, 3) := by decide +kernel
theorem dX12_mean_18 : decode cX12_mean 18 = .ok (.ifCond .eq 34, 3) := by decide +kernel
theorem dX12_mean_21 : decode cX12_mean 21 = .ok (.iload_n 3, 1) := by decide +kernel
theorem dX12_mean_22 : decode cX12_mean 22 = .ok (.invokestatic 217, 3) := by decide +kernel
theorem dX12_mean_25 : decode cX12_mean 25 = .ok (.ifCond .eq 27, 3) := by decide +kernel
theorem dX12_mean_28 : decode cX12_mean 28 = .ok (.iload 4, 2) := by decide +kernel
theorem dX12_mean_30 : decode cX12_mean 30 = .ok (.i2l, 1) := by decide +kernel
theorem dX12_mean_31 : decode cX12_mean 31 = .ok (.lconst 1, 1) := by decide +kernel
theorem dX12_mean_32 : decode cX12_mean 32 = .ok (.ldc2_w 199, 3) := by decide +kernel
theorem dX12_mean_35 : decode cX12_mean 35 = .ok (.invokestatic 64, 3) := by decide +kernel
theorem dX12_mean_38 : decode cX12_mean 38 = .ok (.ifCond .eq 14, 3) := by decide +kernel
theorem dX12_mean_41 : decode cX12_mean 41 = .ok (.iload 5, 2) := by decide +kernel
theorem dX12_mean_43 : decode cX12_mean 43 = .ok (.i2l, 1) := by decide +kernel
theorem dX12_mean_44 : decode cX12_mean 44 = .ok (.lconst 0, 1) := by decide +kernel
theorem dX12_mean_45 : decode cX12_mean 45 = .ok (.lconst 1, 1) := by decide +kernel
theorem dX12_mean_46 : decode cX12_mean 46 = .ok (.invokestatic 64, 3) := by decide +kernel
theorem dX12_mean_49 : decode cX12_mean 49 = .ok (.ifCond .ne 7, 3) := by decide +kernel
theorem dX12_mean_52 : decode cX12_mean 52 = .ok (.ldc2_w 201, 3) := by decide +kernel
theorem dX12_mean_55 : decode cX12_mean 55 = .ok (.lreturn, 1) := by decide +kernel
theorem dX12_mean_56 : decode cX12_mean 56 = .ok (.aload_n 0, 1) := by decide +kernel
theorem dX12_mean_57 : decode cX12_mean 57 = .ok (.iload_n 1, 1) := by decide +kernel
theorem dX12_mean_58 : decode cX12_mean 58 = .ok (.iload_n 2, 1) := by decide +kernel
theorem dX12_mean_59 : decode cX12_mean 59 = .ok (.iload_n 3, 1) := by decide +kernel
theorem dX12_mean_60 : decode cX12_mean 60 = .ok (.iload 4, 2) := by decide +kernel
theorem dX12_mean_62 : decode cX12_mean 62 = .ok (.invokevirtual 220, 3) := by decide +kernel
theorem dX12_mean_65 : decode cX12_mean 65 = .ok (.iload 4, 2) := by decide +kernel
theorem dX12_mean_67 : decode cX12_mean 67 = .ok (.invokestatic 213, 3) := by decide +kernel
theorem dX12_mean_70 : decode cX12_mean 70 = .ok (.aload_n 0, 1) := by decide +kernel
theorem dX12_mean_71 : decode cX12_mean 71 = .ok (.invokevirtual 205, 3) := by decide +kernel
theorem dX12_mean_74 : decode cX12_mean 74 = .ok (.lmul, 1) := by decide +kernel
theorem dX12_mean_75 : decode cX12_mean 75 = .ok (.iload 5, 2) := by decide +kernel
theorem dX12_mean_77 : decode cX12_mean 77 = .ok (.invokestatic 209, 3) := by decide +kernel
theorem dX12_mean_80 : decode cX12_mean 80 = .ok (.lreturn, 1) := by decide +kernel
theorem dX12_begin_0 : decode cX12_begin 0 = .ok (.aload_n 0, 1) := by decide +kernel
theorem dX12_begin_1 : decode cX12_begin 1 = .ok (.iconst 0, 1) := by decide +kernel
theorem dX12_begin_2 : decode cX12_begin 2 = .ok (.putfield 54, 3) := by decide +kernel
theorem dX12_begin_5 : decode cX12_begin 5 = .ok (.aload_n 0, 1) := by decide +kernel
theorem dX12_begin_6 : decode cX12_begin 6 = .ok (.iload_n 1, 1) := by decide +kernel
theorem dX12_begin_7 : decode cX12_begin 7 = .ok (.invokevirtual 165, 3) := by decide +kernel
theorem dX12_begin_10 : decode cX12_begin 10 = .ok (.ifCond .eq 15, 3) := by decide +kernel
theorem dX12_begin_13 : decode cX12_begin 13 = .ok (.iload_n 2, 1) := by decide +kernel
theorem dX12_begin_14 : decode cX12_begin 14 = .ok (.i2l, 1) := by decide +kernel
theorem dX12_begin_15 : decode cX12_begin 15 = .ok (.lconst 1, 1) := by decide +kernel
theorem dX12_begin_16 : decode cX12_begin 16 = .ok (.ldc2_w 199, 3) := by decide +kernel
theorem dX12_begin_19 : decode cX12_begin 19 = .ok (.invokestatic 64, 3) := by decide +kernel
theorem dX12_begin_22 : decode cX12_begin 22 = .ok (.ifCond .ne 6, 3) := by decide +kernel
theorem dX12_begin_25 : decode cX12_begin 25 = .ok (.ldc 74, 2) := by decide +kernel
theorem dX12_begin_27 : decode cX12_begin 27 = .ok (.ireturn, 1) := by decide +kernel
theorem dX12_begin_28 : decode cX12_begin 28 = .ok (.ldc 97, 2) := by decide +kernel
theorem dX12_begin_30 : decode cX12_begin 30 = .ok (.istore_n 3, 1) := by decide +kernel
theorem dX12_begin_31 : decode cX12_begin 31 = .ok (.lconst 0, 1) := by decide +kernel
theorem dX12_begin_32 : decode cX12_begin 32 = .ok (.lstore 4, 2) := by decide +kernel
theorem dX12_begin_34 : decode cX12_begin 34 = .ok (.iconst 0, 1) := by decide +kernel
theorem dX12_begin_35 : decode cX12_begin 35 = .ok (.istore 6, 2) := by decide +kernel
theorem dX12_begin_37 : decode cX12_begin 37 = .ok (.iload 6, 2) := by decide +kernel
theorem dX12_begin_39 : decode cX12_begin 39 = .ok (.iconst 2, 1) := by decide +kernel
theorem dX12_begin_40 : decode cX12_begin 40 = .ok (.aload_n 0, 1) := by decide +kernel
theorem dX12_begin_41 : decode cX12_begin 41 = .ok (.getfield 19, 3) := by decide +kernel
theorem dX12_begin_44 : decode cX12_begin 44 = .ok (.iconst 0, 1) := by decide +kernel
theorem dX12_begin_45 : decode cX12_begin 45 = .ok (.iaload, 1) := by decide +kernel
theorem dX12_begin_46 : decode cX12_begin 46 = .ok (.imul, 1) := by decide +kernel
theorem dX12_begin_47 : decode cX12_begin 47 = .ok (.if_icmp .ge 54, 3) := by decide +kernel
theorem dX12_begin_50 : decode cX12_begin 50 = .ok (.aload_n 0, 1) := by decide +kernel
theorem dX12_begin_51 : decode cX12_begin 51 = .ok (.iload_n 1, 1) := by decide +kernel
theorem dX12_begin_52 : decode cX12_begin 52 = .ok (.iload 6, 2) := by decide +kernel
theorem dX12_begin_54 : decode cX12_begin 54 = .ok (.iconst 2, 1) := by decide +kernel
theorem dX12_begin_55 : decode cX12_begin 55 = .ok (.idiv, 1) := by decide +kernel
theorem dX12_begin_56 : decode cX12_begin 56 = .ok (.iload 6, 2) := by decide +kernel
theorem dX12_begin_58 : decode cX12_begin 58 = .ok (.iconst 2, 1) := by decide +kernel
theorem dX12_begin_59 : decode cX12_begin 59 = .ok (.irem, 1) := by decide +kernel
theorem dX12_begin_60 : decode cX12_begin 60 = .ok (.ifCond .ne 7, 3) := by decide +kernel
theorem dX12_begin_63 : decode cX12_begin 63 = .ok (.iconst 1, 1) := by decide +kernel
theorem dX12_begin_64 : decode cX12_begin 64 = .ok (.goto 4, 3) := by decide +kernel
theorem dX12_begin_67 : decode cX12_begin 67 = .ok (.iconst (-1), 1) := by decide +kernel
theorem dX12_begin_68 : decode cX12_begin 68 = .ok (.iload_n 2, 1) := by decide +kernel
theorem dX12_begin_69 : decode cX12_begin 69 = .ok (.invokevirtual 220, 3) := by decide +kernel
theorem dX12_begin_72 : decode cX12_begin 72 = .ok (.lstore 7, 2) := by decide +kernel
theorem dX12_begin_74 : decode cX12_begin 74 = .ok (.iload_n 3, 1) := by decide +kernel
theorem dX12_begin_75 : decode cX12_begin 75 = .ok (.ldc 97, 2) := by decide +kernel
theorem dX12_begin_77 : decode cX12_begin 77 = .ok (.if_icmp .eq 11, 3) := by decide +kernel
theorem dX12_begin_80 : decode cX12_begin 80 = .ok (.lload 7, 2) := by decide +kernel
theorem dX12_begin_82 : decode cX12_begin 82 = .ok (.lload 4, 2) := by decide +kernel
theorem dX12_begin_84 : decode cX12_begin 84 = .ok (.lcmp, 1) := by decide +kernel
theorem dX12_begin_85 : decode cX12_begin 85 = .ok (.ifCond .ge 10, 3) := by decide +kernel
theorem dX12_begin_88 : decode cX12_begin 88 = .ok (.iload 6, 2) := by decide +kernel
theorem dX12_begin_90 : decode cX12_begin 90 = .ok (.istore_n 3, 1) := by decide +kernel
theorem dX12_begin_91 : decode cX12_begin 91 = .ok (.lload 7, 2) := by decide +kernel
theorem dX12_begin_93 : decode cX12_begin 93 = .ok (.lstore 4, 2) := by decide +kernel
theorem dX12_begin_95 : decode cX12_begin 95 = .ok (.iinc 6 1, 3) := by decide +kernel
theorem dX12_begin_98 : decode cX12_begin 98 = .ok (.goto (-61), 3) := by decide +kernel
theorem dX12_begin_101 : decode cX12_begin 101 = .ok (.iload_n 3, 1) := by decide +kernel
theorem dX12_begin_102 : decode cX12_begin 102 = .ok (.ireturn, 1) := by decide +kernel
theorem dX12_noEnd_0 : decode cX12_noEnd 0 = .ok (.aload_n 0, 1) := by decide +kernel
theorem dX12_noEnd_1 : decode cX12_noEnd 1 = .ok (.iconst 0, 1) := by decide +kernel
theorem dX12_noEnd_2 : decode cX12_noEnd 2 = .ok (.putfield 54, 3) := by decide +kernel
theorem dX12_noEnd_5 : decode cX12_noEnd 5 = .ok (.aload_n 0, 1) := by decide +kernel
theorem dX12_noEnd_6 : decode cX12_noEnd 6 = .ok (.iload_n 1, 1) := by decide +kernel
theorem dX12_noEnd_7 : decode cX12_noEnd 7 = .ok (.invokevirtual 165, 3) := by decide +kernel
theorem dX12_noEnd_10 : decode cX12_noEnd 10 = .ok (.ifCond .eq 22, 3) := by decide +kernel
theorem dX12_noEnd_13 : decode cX12_noEnd 13 = .ok (.iload_n 2, 1) := by decide +kernel
theorem dX12_noEnd_14 : decode cX12_noEnd 14 = .ok (.invokestatic 217, 3) := by decide +kernel
theorem dX12_noEnd_17 : decode cX12_noEnd 17 = .ok (.ifCond .eq 15, 3) := by decide +kernel
theorem dX12_noEnd_20 : decode cX12_noEnd 20 = .ok (.iload_n 3, 1) := by decide +kernel
theorem dX12_noEnd_21 : decode cX12_noEnd 21 = .ok (.i2l, 1) := by decide +kernel
theorem dX12_noEnd_22 : decode cX12_noEnd 22 = .ok (.lconst 0, 1) := by decide +kernel
theorem dX12_noEnd_23 : decode cX12_noEnd 23 = .ok (.ldc2_w 224, 3) := by decide +kernel
theorem dX12_noEnd_26 : decode cX12_noEnd 26 = .ok (.invokestatic 64, 3) := by decide +kernel
theorem dX12_noEnd_29 : decode cX12_noEnd 29 = .ok (.ifCond .ne 6, 3) := by decide +kernel
theorem dX12_noEnd_32 : decode cX12_noEnd 32 = .ok (.ldc 74, 2) := by decide +kernel
theorem dX12_noEnd_34 : decode cX12_noEnd 34 = .ok (.ireturn, 1) := by decide +kernel
theorem dX12_noEnd_35 : decode cX12_noEnd 35 = .ok (.aload_n 0, 1) := by decide +kernel
theorem dX12_noEnd_36 : decode cX12_noEnd 36 = .ok (.invokevirtual 205, 3) := by decide +kernel
theorem dX12_noEnd_39 : decode cX12_noEnd 39 = .ok (.aload_n 0, 1) := by decide +kernel
theorem dX12_noEnd_40 : decode cX12_noEnd 40 = .ok (.getfield 25, 3) := by decide +kernel
theorem dX12_noEnd_43 : decode cX12_noEnd 43 = .ok (.aload_n 0, 1) := by decide +kernel
theorem dX12_noEnd_44 : decode cX12_noEnd 44 = .ok (.getfield 19, 3) := by decide +kernel
theorem dX12_noEnd_47 : decode cX12_noEnd 47 = .ok (.iconst 0, 1) := by decide +kernel
theorem dX12_noEnd_48 : decode cX12_noEnd 48 = .ok (.iaload, 1) := by decide +kernel
theorem dX12_noEnd_49 : decode cX12_noEnd 49 = .ok (.laload, 1) := by decide +kernel
theorem dX12_noEnd_50 : decode cX12_noEnd 50 = .ok (.lsub, 1) := by decide +kernel
theorem dX12_noEnd_51 : decode cX12_noEnd 51 = .ok (.lstore 4, 2) := by decide +kernel
theorem dX12_noEnd_53 : decode cX12_noEnd 53 = .ok (.aload_n 0, 1) := by decide +kernel
theorem dX12_noEnd_54 : decode cX12_noEnd 54 = .ok (.getfield 25, 3) := by decide +kernel
theorem dX12_noEnd_57 : decode cX12_noEnd 57 = .ok (.aload_n 0, 1) := by decide +kernel
theorem dX12_noEnd_58 : decode cX12_noEnd 58 = .ok (.getfield 19, 3) := by decide +kernel
theorem dX12_noEnd_61 : decode cX12_noEnd 61 = .ok (.iconst 0, 1) := by decide +kernel
theorem dX12_noEnd_62 : decode cX12_noEnd 62 = .ok (.iaload, 1) := by decide +kernel
theorem dX12_noEnd_63 : decode cX12_noEnd 63 = .ok (.laload, 1) := by decide +kernel
theorem dX12_noEnd_64 : decode cX12_noEnd 64 = .ok (.lstore 6, 2) := by decide +kernel
theorem dX12_noEnd_66 : decode cX12_noEnd 66 = .ok (.iconst 0, 1) := by decide +kernel
theorem dX12_noEnd_67 : decode cX12_noEnd 67 = .ok (.istore 8, 2) := by decide +kernel
theorem dX12_noEnd_69 : decode cX12_noEnd 69 = .ok (.iload 8, 2) := by decide +kernel
theorem dX12_noEnd_71 : decode cX12_noEnd 71 = .ok (.iconst 4, 1) := by decide +kernel
theorem dX12_noEnd_72 : decode cX12_noEnd 72 = .ok (.if_icmp .gt 53, 3) := by decide +kernel
theorem dX12_noEnd_75 : decode cX12_noEnd 75 = .ok (.lload 4, 2) := by decide +kernel
theorem dX12_noEnd_77 : decode cX12_noEnd 77 = .ok (.ldc2_w 226, 3) := by decide +kernel
theorem dX12_noEnd_80 : decode cX12_noEnd 80 = .ok (.lmul, 1) := by decide +kernel
theorem dX12_noEnd_81 : decode cX12_noEnd 81 = .ok (.lload 4, 2) := by decide +kernel
theorem dX12_noEnd_83 : decode cX12_noEnd 83 = .ok (.lload 6, 2) := by decide +kernel
theorem dX12_noEnd_85 : decode cX12_noEnd 85 = .ok (.ladd, 1) := by decide +kernel
theorem dX12_noEnd_86 : decode cX12_noEnd 86 = .ok (.iload_n 3, 1) := by decide +kernel
theorem dX12_noEnd_87 : decode cX12_noEnd 87 = .ok (.i2l, 1) := by decide +kernel
theorem dX12_noEnd_88 : decode cX12_noEnd 88 = .ok (.lmul, 1) := by decide +kernel
theorem dX12_noEnd_89 : decode cX12_noEnd 89 = .ok (.lcmp, 1) := by decide +kernel
theorem dX12_noEnd_90 : decode cX12_noEnd 90 = .ok (.ifCond .gt 6, 3) := by decide +kernel
theorem dX12_noEnd_93 : decode cX12_noEnd 93 = .ok (.iload 8, 2) := by decide +kernel
theorem dX12_noEnd_95 : decode cX12_noEnd 95 = .ok (.ireturn, 1) := by decide +kernel
theorem dX12_noEnd_96 : decode cX12_noEnd 96 = .ok (.lload 4, 2) := by decide +kernel
theorem dX12_noEnd_98 : decode cX12_noEnd 98 = .ok (.bipush 10, 2) := by decide +kernel
theorem dX12_noEnd_100 : decode cX12_noEnd 100 = .ok (.aload_n 0, 1) := by decide +kernel
theorem dX12_noEnd_101 : decode cX12_noEnd 101 = .ok (.iload_n 1, 1) := by decide +kernel
theorem dX12_noEnd_102 : decode cX12_noEnd 102 = .ok (.iload_n 2, 1) := by decide +kernel
theorem dX12_noEnd_103 : decode cX12_noEnd 103 = .ok (.invokevirtual 162, 3) := by decide +kernel
theorem dX12_noEnd_106 : decode cX12_noEnd 106 = .ok (.isub, 1) := by decide +kernel
theorem dX12_noEnd_107 : decode cX12_noEnd 107 = .ok (.i2l, 1) := by decide +kernel
theorem dX12_noEnd_108 : decode cX12_noEnd 108 = .ok (.lmul, 1) := by decide +kernel
theorem dX12_noEnd_109 : decode cX12_noEnd 109 = .ok (.lstore 4, 2) := by decide +kernel
theorem dX12_noEnd_111 : decode cX12_noEnd 111 = .ok (.lload 6, 2) := by decide +kernel
theorem dX12_noEnd_113 : decode cX12_noEnd 113 = .ok (.ldc2_w 203, 3) := by decide +kernel
theorem dX12_noEnd_116 : decode cX12_noEnd 116 = .ok (.lmul, 1) := by decide +kernel
theorem dX12_noEnd_117 : decode cX12_noEnd 117 = .ok (.lstore 6, 2) := by decide +kernel
theorem dX12_noEnd_119 : decode cX12_noEnd 119 = .ok (.iinc 8 1, 3) := by decide +kernel
theorem dX12_noEnd_122 : decode cX12_noEnd 122 = .ok (.goto (-53), 3) := by decide +kernel
theorem dX12_noEnd_125 : decode cX12_noEnd 125 = .ok (.ldc 97, 2) := by decide +kernel
theorem dX12_noEnd_127 : decode cX12_noEnd 127 = .ok (.ireturn, 1) := by decide +kernel
theorem dX12_isSplinter_0 : decode cX12_isSplinter 0 = .ok (.iload_n 0, 1) := by decide +kernel
theorem dX12_isSplinter_1 : decode cX12_isSplinter 1 = .ok (.i2l, 1) := by decide +kernel
theorem dX12_isSplinter_2 : decode cX12_isSplinter 2 = .ok (.lconst 1, 1) := by decide +kernel
theorem dX12_isSplinter_3 : decode cX12_isSplinter 3 = .ok (.ldc2_w 228, 3) := by decide +kernel
theorem dX12_isSplinter_6 : decode cX12_isSplinter 6 = .ok (.invokestatic 64, 3) := by decide +kernel
theorem dX12_isSplinter_9 : decode cX12_isSplinter 9 = .ok (.ifCond .eq 29, 3) := by decide +kernel
theorem dX12_isSplinter_12 : decode cX12_isSplinter 12 = .ok (.iload_n 1, 1) := by decide +kernel
theorem dX12_isSplinter_13 : decode cX12_isSplinter 13 = .ok (.i2l, 1) := by decide +kernel
theorem dX12_isSplinter_14 : decode cX12_isSplinter 14 = .ok (.lconst 1, 1) := by decide +kernel
theorem dX12_isSplinter_15 : decode cX12_isSplinter 15 = .ok (.ldc2_w 230, 3) := by decide +kernel
theorem dX12_isSplinter_18 : decode cX12_isSplinter 18 = .ok (.invokestatic 64, 3) := by decide +kernel
theorem dX12_isSplinter_21 : decode cX12_isSplinter 21 = .ok (.ifCond .eq 17, 3) := by decide +kernel
theorem dX12_isSplinter_24 : decode cX12_isSplinter 24 = .ok (.iload_n 2, 1) := by decide +kernel
theorem dX12_isSplinter_25 : decode cX12_isSplinter 25 = .ok (.i2l, 1) := by decide +kernel
theorem dX12_isSplinter_26 : decode cX12_isSplinter 26 = .ok (.lconst 0, 1) := by decide +kernel
theorem dX12_isSplinter_27 : decode cX12_isSplinter 27 = .ok (.lconst 1, 1) := by decide +kernel
theorem dX12_isSplinter_28 : decode cX12_isSplinter 28 = .ok (.invokestatic 64, 3) := by decide +kernel
theorem dX12_isSplinter_31 : decode cX12_isSplinter 31 = .ok (.ifCond .eq 7, 3) := by decide +kernel
theorem dX12_isSplinter_34 : decode cX12_isSplinter 34 = .ok (.iconst 1, 1) := by decide +kernel
theorem dX12_isSplinter_35 : decode cX12_isSplinter 35 = .ok (.goto 4, 3) := by decide +kernel
theorem dX12_isSplinter_38 : decode cX12_isSplinter 38 = .ok (.iconst 0, 1) := by decide +kernel
theorem dX12_isSplinter_39 : decode cX12_isSplinter 39 = .ok (.ireturn, 1) := by decide +kernel
theorem dX12_wide_0 : decode cX12_wide 0 = .ok (.iload_n 2, 1) := by decide +kernel
theorem dX12_wide_1 : decode cX12_wide 1 = .ok (.ifCond .ne 11, 3) := by decide +kernel
theorem dX12_wide_4 : decode cX12_wide 4 = .ok (.iload_n 0, 1) := by decide +kernel
theorem dX12_wide_5 : decode cX12_wide 5 = .ok (.iload_n 1, 1) := by decide +kernel
theorem dX12_wide_6 : decode cX12_wide 6 = .ok (.iload_n 3, 1) := by decide +kernel
theorem dX12_wide_7 : decode cX12_wide 7 = .ok (.imul, 1) := by decide +kernel
theorem dX12_wide_8 : decode cX12_wide 8 = .ok (.isub, 1) := by decide +kernel
theorem dX12_wide_9 : decode cX12_wide 9 = .ok (.goto 8, 3) := by decide +kernel
theorem dX12_wide_12 : decode cX12_wide 12 = .ok (.iload_n 0, 1) := by decide +kernel
theorem dX12_wide_13 : decode cX12_wide 13 = .ok (.iload_n 1, 1) := by decide +kernel
theorem dX12_wide_14 : decode cX12_wide 14 = .ok (.iload_n 3, 1) := by decide +kernel
theorem dX12_wide_15 : decode cX12_wide 15 = .ok (.imul, 1) := by decide +kernel
theorem dX12_wide_16 : decode cX12_wide 16 = .ok (.iadd, 1) := by decide +kernel
theorem dX12_wide_17 : decode cX12_wide 17 = .ok (.istore 4, 2) := by decide +kernel
theorem dX12_wide_19 : decode cX12_wide 19 = .ok (.iload 4, 2) := by decide +kernel
theorem dX12_wide_21 : decode cX12_wide 21 = .ok (.ifCond .ge 7, 3) := by decide +kernel
theorem dX12_wide_24 : decode cX12_wide 24 = .ok (.iconst 0, 1) := by decide +kernel
theorem dX12_wide_25 : decode cX12_wide 25 = .ok (.goto 17, 3) := by decide +kernel
theorem dX12_wide_28 : decode cX12_wide 28 = .ok (.iload 4, 2) := by decide +kernel
theorem dX12_wide_30 : decode cX12_wide 30 = .ok (.bipush 20, 2) := by decide +kernel
theorem dX12_wide_32 : decode cX12_wide 32 = .ok (.if_icmp .le 8, 3) := by decide +kernel
theorem dX12_wide_35 : decode cX12_wide 35 = .ok (.bipush 20, 2) := by decide +kernel
theorem dX12_wide_37 : decode cX12_wide 37 = .ok (.goto 5, 3) := by decide +kernel
theorem dX12_wide_40 : decode cX12_wide 40 = .ok (.iload 4, 2) := by decide +kernel
theorem dX12_wide_42 : decode cX12_wide 42 = .ok (.ireturn, 1) := by decide +kernel
theorem dX12_width_0 : decode cX12_width 0 = .ok (.aload_n 0, 1) := by decide +kernel
theorem dX12_width_1 : decode cX12_width 1 = .ok (.iconst 0, 1) := by decide +kernel
theorem dX12_width_2 : decode cX12_width 2 = .ok (.putfield 54, 3) := by decide +kernel
theorem dX12_width_5 : decode cX12_width 5 = .ok (.iload_n 1, 1) := by decide +kernel
theorem dX12_width_6 : decode cX12_width 6 = .ok (.iload_n 2, 1) := by decide +kernel
theorem dX12_width_7 : decode cX12_width 7 = .ok (.iload_n 3, 1) := by decide +kernel
theorem dX12_width_8 : decode cX12_width 8 = .ok (.invokestatic 232, 3) := by decide +kernel
theorem dX12_width_11 : decode cX12_width 11 = .ok (.ifCond .eq 27, 3) := by decide +kernel
theorem dX12_width_14 : decode cX12_width 14 = .ok (.iload 4, 2) := by decide +kernel
theorem dX12_width_16 : decode cX12_width 16 = .ok (.i2l, 1) := by decide +kernel
theorem dX12_width_17 : decode cX12_width 17 = .ok (.lconst 0, 1) := by decide +kernel
theorem dX12_width_18 : decode cX12_width 18 = .ok (.ldc2_w 236, 3) := by decide +kernel
theorem dX12_width_21 : decode cX12_width 21 = .ok (.invokestatic 64, 3) := by decide +kernel
theorem dX12_width_24 : decode cX12_width 24 = .ok (.ifCond .eq 14, 3) := by decide +kernel
theorem dX12_width_27 : decode cX12_width 27 = .ok (.iload_n 1, 1) := by decide +kernel
theorem dX12_width_28 : decode cX12_width 28 = .ok (.iload_n 2, 1) := by decide +kernel
theorem dX12_width_29 : decode cX12_width 29 = .ok (.iload_n 3, 1) := by decide +kernel
theorem dX12_width_30 : decode cX12_width 30 = .ok (.iload 4, 2) := by decide +kernel
theorem dX12_width_32 : decode cX12_width 32 = .ok (.invokestatic 238, 3) := by decide +kernel
theorem dX12_width_35 : decode cX12_width 35 = .ok (.goto 5, 3) := by decide +kernel
theorem dX12_width_38 : decode cX12_width 38 = .ok (.ldc 74, 2) := by decide +kernel
theorem dX12_width_40 : decode cX12_width 40 = .ok (.ireturn, 1) := by decide +kernel
theorem dX12_lost_0 : decode cX12_lost 0 = .ok (.aload_n 0, 1) := by decide +kernel
theorem dX12_lost_1 : decode cX12_lost 1 = .ok (.iconst 0, 1) := by decide +kernel
theorem dX12_lost_2 : decode cX12_lost 2 = .ok (.putfield 54, 3) := by decide +kernel
theorem dX12_lost_5 : decode cX12_lost 5 = .ok (.iload_n 1, 1) := by decide +kernel
theorem dX12_lost_6 : decode cX12_lost 6 = .ok (.iload_n 2, 1) := by decide +kernel
theorem dX12_lost_7 : decode cX12_lost 7 = .ok (.iload_n 3, 1) := by decide +kernel
theorem dX12_lost_8 : decode cX12_lost 8 = .ok (.invokestatic 232, 3) := by decide +kernel
theorem dX12_lost_11 : decode cX12_lost 11 = .ok (.ifCond .ne 6, 3) := by decide +kernel
theorem dX12_lost_14 : decode cX12_lost 14 = .ok (.ldc 74, 2) := by decide +kernel
theorem dX12_lost_16 : decode cX12_lost 16 = .ok (.ireturn, 1) := by decide +kernel
theorem dX12_lost_17 : decode cX12_lost 17 = .ok (.iconst 0, 1) := by decide +kernel
theorem dX12_lost_18 : decode cX12_lost 18 = .ok (.istore 4, 2) := by decide +kernel
theorem dX12_lost_20 : decode cX12_lost 20 = .ok (.iconst 0, 1) := by decide +kernel
theorem dX12_lost_21 : decode cX12_lost 21 = .ok (.istore 5, 2) := by decide +kernel
theorem dX12_lost_23 : decode cX12_lost 23 = .ok (.iload_n 1, 1) := by decide +kernel
theorem dX12_lost_24 : decode cX12_lost 24 = .ok (.iload_n 2, 1) := by decide +kernel
theorem dX12_lost_25 : decode cX12_lost 25 = .ok (.iload_n 3, 1) := by decide +kernel
theorem dX12_lost_26 : decode cX12_lost 26 = .ok (.iload 5, 2) := by decide +kernel
theorem dX12_lost_28 : decode cX12_lost 28 = .ok (.invokestatic 238, 3) := by decide +kernel
theorem dX12_lost_31 : decode cX12_lost 31 = .ok (.i2l, 1) := by decide +kernel
theorem dX12_lost_32 : decode cX12_lost 32 = .ok (.lconst 1, 1) := by decide +kernel
theorem dX12_lost_33 : decode cX12_lost 33 = .ok (.ldc2_w 228, 3) := by decide +kernel
theorem dX12_lost_36 : decode cX12_lost 36 = .ok (.invokestatic 64, 3) := by decide +kernel
theorem dX12_lost_39 : decode cX12_lost 39 = .ok (.ifCond .eq 25, 3) := by decide +kernel
theorem dX12_lost_42 : decode cX12_lost 42 = .ok (.iload 4, 2) := by decide +kernel
theorem dX12_lost_44 : decode cX12_lost 44 = .ok (.bipush 20, 2) := by decide +kernel
theorem dX12_lost_46 : decode cX12_lost 46 = .ok (.iload_n 1, 1) := by decide +kernel
theorem dX12_lost_47 : decode cX12_lost 47 = .ok (.iload_n 2, 1) := by decide +kernel
theorem dX12_lost_48 : decode cX12_lost 48 = .ok (.iload_n 3, 1) := by decide +kernel
theorem dX12_lost_49 : decode cX12_lost 49 = .ok (.iload 5, 2) := by decide +kernel
theorem dX12_lost_51 : decode cX12_lost 51 = .ok (.invokestatic 238, 3) := by decide +kernel
theorem dX12_lost_54 : decode cX12_lost 54 = .ok (.isub, 1) := by decide +kernel
theorem dX12_lost_55 : decode cX12_lost 55 = .ok (.iadd, 1) := by decide +kernel
theorem dX12_lost_56 : decode cX12_lost 56 = .ok (.istore 4, 2) := by decide +kernel
theorem dX12_lost_58 : decode cX12_lost 58 = .ok (.iinc 5 1, 3) := by decide +kernel
theorem dX12_lost_61 : decode cX12_lost 61 = .ok (.goto (-38), 3) := by decide +kernel
theorem dX12_lost_64 : decode cX12_lost 64 = .ok (.iload 4, 2) := by decide +kernel
theorem dX12_lost_66 : decode cX12_lost 66 = .ok (.ireturn, 1) := by decide +kernel
theorem dX12_pays_0 : decode cX12_pays 0 = .ok (.aload_n 0, 1) := by decide +kernel
theorem dX12_pays_1 : decode cX12_pays 1 = .ok (.iconst 0, 1) := by decide +kernel
theorem dX12_pays_2 : decode cX12_pays 2 = .ok (.putfield 54, 3) := by decide +kernel
theorem dX12_pays_5 : decode cX12_pays 5 = .ok (.aload_n 0, 1) := by decide +kernel
theorem dX12_pays_6 : decode cX12_pays 6 = .ok (.iload_n 1, 1) := by decide +kernel
theorem dX12_pays_7 : decode cX12_pays 7 = .ok (.invokevirtual 165, 3) := by decide +kernel
theorem dX12_pays_10 : decode cX12_pays 10 = .ok (.ifCond .eq 15, 3) := by decide +kernel
theorem dX12_pays_13 : decode cX12_pays 13 = .ok (.iload_n 2, 1) := by decide +kernel
theorem dX12_pays_14 : decode cX12_pays 14 = .ok (.i2l, 1) := by decide +kernel
theorem dX12_pays_15 : decode cX12_pays 15 = .ok (.lconst 0, 1) := by decide +kernel
theorem dX12_pays_16 : decode cX12_pays 16 = .ok (.ldc2_w 224, 3) := by decide +kernel
theorem dX12_pays_19 : decode cX12_pays 19 = .ok (.invokestatic 64, 3) := by decide +kernel
theorem dX12_pays_22 : decode cX12_pays 22 = .ok (.ifCond .ne 6, 3) := by decide +kernel
theorem dX12_pays_25 : decode cX12_pays 25 = .ok (.ldc 74, 2) := by decide +kernel
theorem dX12_pays_27 : decode cX12_pays 27 = .ok (.ireturn, 1) := by decide +kernel
theorem dX12_pays_28 : decode cX12_pays 28 = .ok (.ldc2_w 203, 3) := by decide +kernel
theorem dX12_pays_31 : decode cX12_pays 31 = .ok (.aload_n 0, 1) := by decide +kernel
theorem dX12_pays_32 : decode cX12_pays 32 = .ok (.invokevirtual 205, 3) := by decide +kernel
theorem dX12_pays_35 : decode cX12_pays 35 = .ok (.lmul, 1) := by decide +kernel
theorem dX12_pays_36 : decode cX12_pays 36 = .ok (.lstore_n 3, 1) := by decide +kernel
theorem dX12_pays_37 : decode cX12_pays 37 = .ok (.aload_n 0, 1) := by decide +kernel
theorem dX12_pays_38 : decode cX12_pays 38 = .ok (.iload_n 1, 1) := by decide +kernel
theorem dX12_pays_39 : decode cX12_pays 39 = .ok (.iconst 0, 1) := by decide +kernel
theorem dX12_pays_40 : decode cX12_pays 40 = .ok (.iconst 1, 1) := by decide +kernel
theorem dX12_pays_41 : decode cX12_pays 41 = .ok (.iconst 1, 1) := by decide +kernel
theorem dX12_pays_42 : decode cX12_pays 42 = .ok (.invokevirtual 220, 3) := by decide +kernel
theorem dX12_pays_45 : decode cX12_pays 45 = .ok (.lload_n 3, 1) := by decide +kernel
theorem dX12_pays_46 : decode cX12_pays 46 = .ok (.lsub, 1) := by decide +kernel
theorem dX12_pays_47 : decode cX12_pays 47 = .ok (.lstore 5, 2) := by decide +kernel
theorem dX12_pays_49 : decode cX12_pays 49 = .ok (.iconst 0, 1) := by decide +kernel
theorem dX12_pays_50 : decode cX12_pays 50 = .ok (.istore 7, 2) := by decide +kernel
theorem dX12_pays_52 : decode cX12_pays 52 = .ok (.iload 7, 2) := by decide +kernel
theorem dX12_pays_54 : decode cX12_pays 54 = .ok (.bipush 99, 2) := by decide +kernel
theorem dX12_pays_56 : decode cX12_pays 56 = .ok (.if_icmp .gt 26, 3) := by decide +kernel
theorem dX12_pays_59 : decode cX12_pays 59 = .ok (.iload 7, 2) := by decide +kernel
theorem dX12_pays_61 : decode cX12_pays 61 = .ok (.i2l, 1) := by decide +kernel
theorem dX12_pays_62 : decode cX12_pays 62 = .ok (.lload 5, 2) := by decide +kernel
theorem dX12_pays_64 : decode cX12_pays 64 = .ok (.lmul, 1) := by decide +kernel
theorem dX12_pays_65 : decode cX12_pays 65 = .ok (.iload_n 2, 1) := by decide +kernel
theorem dX12_pays_66 : decode cX12_pays 66 = .ok (.i2l, 1) := by decide +kernel
theorem dX12_pays_67 : decode cX12_pays 67 = .ok (.lload_n 3, 1) := by decide +kernel
theorem dX12_pays_68 : decode cX12_pays 68 = .ok (.lmul, 1) := by decide +kernel
theorem dX12_pays_69 : decode cX12_pays 69 = .ok (.lcmp, 1) := by decide +kernel
theorem dX12_pays_70 : decode cX12_pays 70 = .ok (.ifCond .lt 6, 3) := by decide +kernel
theorem dX12_pays_73 : decode cX12_pays 73 = .ok (.iload 7, 2) := by decide +kernel
theorem dX12_pays_75 : decode cX12_pays 75 = .ok (.ireturn, 1) := by decide +kernel
theorem dX12_pays_76 : decode cX12_pays 76 = .ok (.iinc 7 1, 3) := by decide +kernel
theorem dX12_pays_79 : decode cX12_pays 79 = .ok (.goto (-27), 3) := by decide +kernel
theorem dX12_pays_82 : decode cX12_pays 82 = .ok (.ldc 97, 2) := by decide +kernel
theorem dX12_pays_84 : decode cX12_pays 84 = .ok (.ireturn, 1) := by decide +kernel
theorem dX12_isHis_0 : decode cX12_isHis 0 = .ok (.iconst 0, 1) := by decide +kernel
theorem dX12_isHis_1 : decode cX12_isHis 1 = .ok (.istore 4, 2) := by decide +kernel
theorem dX12_isHis_3 : decode cX12_isHis 3 = .ok (.iload 4, 2) := by decide +kernel
theorem dX12_isHis_5 : decode cX12_isHis 5 = .ok (.bipush 13, 2) := by decide +kernel
theorem dX12_isHis_7 : decode cX12_isHis 7 = .ok (.if_icmp .ge 23, 3) := by decide +kernel
theorem dX12_isHis_10 : decode cX12_isHis 10 = .ok (.aload_n 0, 1) := by decide +kernel
theorem dX12_isHis_11 : decode cX12_isHis 11 = .ok (.getfield 38, 3) := by decide +kernel
theorem dX12_isHis_14 : decode cX12_isHis 14 = .ok (.iload 4, 2) := by decide +kernel
theorem dX12_isHis_16 : decode cX12_isHis 16 = .ok (.aload_n 0, 1) := by decide +kernel
theorem dX12_isHis_17 : decode cX12_isHis 17 = .ok (.getfield 25, 3) := by decide +kernel
theorem dX12_isHis_20 : decode cX12_isHis 20 = .ok (.iload 4, 2) := by decide +kernel
theorem dX12_isHis_22 : decode cX12_isHis 22 = .ok (.laload, 1) := by decide +kernel
theorem dX12_isHis_23 : decode cX12_isHis 23 = .ok (.lastore, 1) := by decide +kernel
theorem dX12_isHis_24 : decode cX12_isHis 24 = .ok (.iinc 4 1, 3) := by decide +kernel
theorem dX12_isHis_27 : decode cX12_isHis 27 = .ok (.goto (-24), 3) := by decide +kernel
theorem dX12_isHis_30 : decode cX12_isHis 30 = .ok (.iconst 0, 1) := by decide +kernel
theorem dX12_isHis_31 : decode cX12_isHis 31 = .ok (.istore 4, 2) := by decide +kernel
theorem dX12_isHis_33 : decode cX12_isHis 33 = .ok (.iload 4, 2) := by decide +kernel
theorem dX12_isHis_35 : decode cX12_isHis 35 = .ok (.iload_n 3, 1) := by decide +kernel
theorem dX12_isHis_36 : decode cX12_isHis 36 = .ok (.iconst 1, 1) := by decide +kernel
theorem dX12_isHis_37 : decode cX12_isHis 37 = .ok (.isub, 1) := by decide +kernel
theorem dX12_isHis_38 : decode cX12_isHis 38 = .ok (.if_icmp .ge 88, 3) := by decide +kernel
theorem dX12_isHis_41 : decode cX12_isHis 41 = .ok (.iconst 0, 1) := by decide +kernel
theorem dX12_isHis_42 : decode cX12_isHis 42 = .ok (.istore 5, 2) := by decide +kernel
theorem dX12_isHis_44 : decode cX12_isHis 44 = .ok (.iload 5, 2) := by decide +kernel
theorem dX12_isHis_46 : decode cX12_isHis 46 = .ok (.aload_n 0, 1) := by decide +kernel
theorem dX12_isHis_47 : decode cX12_isHis 47 = .ok (.getfield 19, 3) := by decide +kernel
theorem dX12_isHis_50 : decode cX12_isHis 50 = .ok (.iconst 0, 1) := by decide +kernel
theorem dX12_isHis_51 : decode cX12_isHis 51 = .ok (.iaload, 1) := by decide +kernel
theorem dX12_isHis_52 : decode cX12_isHis 52 = .ok (.if_icmp .gt 37, 3) := by decide +kernel
theorem dX12_isHis_55 : decode cX12_isHis 55 = .ok (.aload_n 0, 1) := by decide +kernel
theorem dX12_isHis_56 : decode cX12_isHis 56 = .ok (.getfield 38, 3) := by decide +kernel
theorem dX12_isHis_59 : decode cX12_isHis 59 = .ok (.iload 5, 2) := by decide +kernel
theorem dX12_isHis_61 : decode cX12_isHis 61 = .ok (.dup2, 1) := by decide +kernel
theorem dX12_isHis_62 : decode cX12_isHis 62 = .ok (.laload, 1) := by decide +kernel
theorem dX12_isHis_63 : decode cX12_isHis 63 = .ok (.aload_n 0, 1) := by decide +kernel
theorem dX12_isHis_64 : decode cX12_isHis 64 = .ok (.iload_n 1, 1) := by decide +kernel
theorem dX12_isHis_65 : decode cX12_isHis 65 = .ok (.aload_n 0, 1) := by decide +kernel
theorem dX12_isHis_66 : decode cX12_isHis 66 = .ok (.getfield 16, 3) := by decide +kernel
theorem dX12_isHis_69 : decode cX12_isHis 69 = .ok (.iload_n 2, 1) := by decide +kernel
theorem dX12_isHis_70 : decode cX12_isHis 70 = .ok (.iload 4, 2) := by decide +kernel
theorem dX12_isHis_72 : decode cX12_isHis 72 = .ok (.iadd, 1) := by decide +kernel
theorem dX12_isHis_73 : decode cX12_isHis 73 = .ok (.iaload, 1) := by decide +kernel
theorem dX12_isHis_74 : decode cX12_isHis 74 = .ok (.iload 5, 2) := by decide +kernel
theorem dX12_isHis_76 : decode cX12_isHis 76 = .ok (.iconst 0, 1) := by decide +kernel
theorem dX12_isHis_77 : decode cX12_isHis 77 = .ok (.invokevirtual 168, 3) := by decide +kernel
theorem dX12_isHis_80 : decode cX12_isHis 80 = .ok (.i2l, 1) := by decide +kernel
theorem dX12_isHis_81 : decode cX12_isHis 81 = .ok (.lmul, 1) := by decide +kernel
theorem dX12_isHis_82 : decode cX12_isHis 82 = .ok (.lastore, 1) := by decide +kernel
theorem dX12_isHis_83 : decode cX12_isHis 83 = .ok (.iinc 5 1, 3) := by decide +kernel
theorem dX12_isHis_86 : decode cX12_isHis 86 = .ok (.goto (-42), 3) := by decide +kernel
theorem dX12_isHis_89 : decode cX12_isHis 89 = .ok (.aload_n 0, 1) := by decide +kernel
theorem dX12_isHis_90 : decode cX12_isHis 90 = .ok (.iload_n 1, 1) := by decide +kernel
theorem dX12_isHis_91 : decode cX12_isHis 91 = .ok (.aload_n 0, 1) := by decide +kernel
theorem dX12_isHis_92 : decode cX12_isHis 92 = .ok (.getfield 16, 3) := by decide +kernel
theorem dX12_isHis_95 : decode cX12_isHis 95 = .ok (.iload_n 2, 1) := by decide +kernel
theorem dX12_isHis_96 : decode cX12_isHis 96 = .ok (.iload 4, 2) := by decide +kernel
theorem dX12_isHis_98 : decode cX12_isHis 98 = .ok (.iadd, 1) := by decide +kernel
theorem dX12_isHis_99 : decode cX12_isHis 99 = .ok (.iaload, 1) := by decide +kernel
theorem dX12_isHis_100 : decode cX12_isHis 100 = .ok (.iconst 0, 1) := by decide +kernel
theorem dX12_isHis_101 : decode cX12_isHis 101 = .ok (.invokevirtual 187, 3) := by decide +kernel
theorem dX12_isHis_104 : decode cX12_isHis 104 = .ok (.aload_n 0, 1) := by decide +kernel
theorem dX12_isHis_105 : decode cX12_isHis 105 = .ok (.getfield 16, 3) := by decide +kernel
theorem dX12_isHis_108 : decode cX12_isHis 108 = .ok (.iload_n 2, 1) := by decide +kernel
theorem dX12_isHis_109 : decode cX12_isHis 109 = .ok (.iload 4, 2) := by decide +kernel
theorem dX12_isHis_111 : decode cX12_isHis 111 = .ok (.iadd, 1) := by decide +kernel
theorem dX12_isHis_112 : decode cX12_isHis 112 = .ok (.iconst 1, 1) := by decide +kernel
theorem dX12_isHis_113 : decode cX12_isHis 113 = .ok (.iadd, 1) := by decide +kernel
theorem dX12_isHis_114 : decode cX12_isHis 114 = .ok (.iaload, 1) := by decide +kernel
theorem dX12_isHis_115 : decode cX12_isHis 115 = .ok (.if_icmp .eq 5, 3) := by decide +kernel
theorem dX12_isHis_118 : decode cX12_isHis 118 = .ok (.iconst 0, 1) := by decide +kernel
theorem dX12_isHis_119 : decode cX12_isHis 119 = .ok (.ireturn, 1) := by decide +kernel
theorem dX12_isHis_120 : decode cX12_isHis 120 = .ok (.iinc 4 1, 3) := by decide +kernel
theorem dX12_isHis_123 : decode cX12_isHis 123 = .ok (.goto (-90), 3) := by decide +kernel
theorem dX12_isHis_126 : decode cX12_isHis 126 = .ok (.iconst 1, 1) := by decide +kernel
theorem dX12_isHis_127 : decode cX12_isHis 127 = .ok (.ireturn, 1) := by decide +kernel
theorem dX12_whose_0 : decode cX12_whose 0 = .ok (.aload_n 0, 1) := by decide +kernel
theorem dX12_whose_1 : decode cX12_whose 1 = .ok (.iconst 0, 1) := by decide +kernel
theorem dX12_whose_2 : decode cX12_whose 2 = .ok (.putfield 54, 3) := by decide +kernel
theorem dX12_whose_5 : decode cX12_whose 5 = .ok (.aload_n 0, 1) := by decide +kernel
theorem dX12_whose_6 : decode cX12_whose 6 = .ok (.invokevirtual 176, 3) := by decide +kernel
theorem dX12_whose_9 : decode cX12_whose 9 = .ok (.ifCond .ne 6, 3) := by decide +kernel
theorem dX12_whose_12 : decode cX12_whose 12 = .ok (.ldc 172, 2) := by decide +kernel
theorem dX12_whose_14 : decode cX12_whose 14 = .ok (.ireturn, 1) := by decide +kernel
theorem dX12_whose_15 : decode cX12_whose 15 = .ok (.iload_n 1, 1) := by decide +kernel
theorem dX12_whose_16 : decode cX12_whose 16 = .ok (.invokestatic 68, 3) := by decide +kernel
theorem dX12_whose_19 : decode cX12_whose 19 = .ok (.ifCond .eq 15, 3) := by decide +kernel
theorem dX12_whose_22 : decode cX12_whose 22 = .ok (.iload_n 3, 1) := by decide +kernel
theorem dX12_whose_23 : decode cX12_whose 23 = .ok (.i2l, 1) := by decide +kernel
theorem dX12_whose_24 : decode cX12_whose 24 = .ok (.lconst 1, 1) := by decide +kernel
theorem dX12_whose_25 : decode cX12_whose 25 = .ok (.ldc2_w 241, 3) := by decide +kernel
theorem dX12_whose_28 : decode cX12_whose 28 = .ok (.invokestatic 64, 3) := by decide +kernel
theorem dX12_whose_31 : decode cX12_whose 31 = .ok (.ifCond .ne 6, 3) := by decide +kernel
theorem dX12_whose_34 : decode cX12_whose 34 = .ok (.ldc 74, 2) := by decide +kernel
theorem dX12_whose_36 : decode cX12_whose 36 = .ok (.ireturn, 1) := by decide +kernel
theorem dX12_whose_37 : decode cX12_whose 37 = .ok (.aload_n 0, 1) := by decide +kernel
theorem dX12_whose_38 : decode cX12_whose 38 = .ok (.getfield 7, 3) := by decide +kernel
theorem dX12_whose_41 : decode cX12_whose 41 = .ok (.iload_n 1, 1) := by decide +kernel
theorem dX12_whose_42 : decode cX12_whose 42 = .ok (.iaload, 1) := by decide +kernel
theorem dX12_whose_43 : decode cX12_whose 43 = .ok (.ifCond .ge 9, 3) := by decide +kernel
theorem dX12_whose_46 : decode cX12_whose 46 = .ok (.aload_n 0, 1) := by decide +kernel
theorem dX12_whose_47 : decode cX12_whose 47 = .ok (.iconst 1, 1) := by decide +kernel
theorem dX12_whose_48 : decode cX12_whose 48 = .ok (.invokevirtual 75, 3) := by decide +kernel
theorem dX12_whose_51 : decode cX12_whose 51 = .ok (.ireturn, 1) := by decide +kernel
theorem dX12_whose_52 : decode cX12_whose 52 = .ok (.iload_n 2, 1) := by decide +kernel
theorem dX12_whose_53 : decode cX12_whose 53 = .ok (.ifCond .lt 19, 3) := by decide +kernel
theorem dX12_whose_56 : decode cX12_whose 56 = .ok (.iload_n 2, 1) := by decide +kernel
theorem dX12_whose_57 : decode cX12_whose 57 = .ok (.i2l, 1) := by decide +kernel
theorem dX12_whose_58 : decode cX12_whose 58 = .ok (.iload_n 3, 1) := by decide +kernel
theorem dX12_whose_59 : decode cX12_whose 59 = .ok (.i2l, 1) := by decide +kernel
theorem dX12_whose_60 : decode cX12_whose 60 = .ok (.ladd, 1) := by decide +kernel
theorem dX12_whose_61 : decode cX12_whose 61 = .ok (.aload_n 0, 1) := by decide +kernel
theorem dX12_whose_62 : decode cX12_whose 62 = .ok (.getfield 13, 3) := by decide +kernel
theorem dX12_whose_65 : decode cX12_whose 65 = .ok (.iload_n 1, 1) := by decide +kernel
theorem dX12_whose_66 : decode cX12_whose 66 = .ok (.iaload, 1) := by decide +kernel
theorem dX12_whose_67 : decode cX12_whose 67 = .ok (.i2l, 1) := by decide +kernel
theorem dX12_whose_68 : decode cX12_whose 68 = .ok (.lcmp, 1) := by decide +kernel
theorem dX12_whose_69 : decode cX12_whose 69 = .ok (.ifCond .le 9, 3) := by decide +kernel
theorem dX12_whose_72 : decode cX12_whose 72 = .ok (.aload_n 0, 1) := by decide +kernel
theorem dX12_whose_73 : decode cX12_whose 73 = .ok (.iconst 2, 1) := by decide +kernel
theorem dX12_whose_74 : decode cX12_whose 74 = .ok (.invokevirtual 75, 3) := by decide +kernel
theorem dX12_whose_77 : decode cX12_whose 77 = .ok (.ireturn, 1) := by decide +kernel
theorem dX12_whose_78 : decode cX12_whose 78 = .ok (.bipush 40, 2) := by decide +kernel
theorem dX12_whose_80 : decode cX12_whose 80 = .ok (.iload_n 1, 1) := by decide +kernel
theorem dX12_whose_81 : decode cX12_whose 81 = .ok (.imul, 1) := by decide +kernel
theorem dX12_whose_82 : decode cX12_whose 82 = .ok (.iload_n 2, 1) := by decide +kernel
theorem dX12_whose_83 : decode cX12_whose 83 = .ok (.iadd, 1) := by decide +kernel
theorem dX12_whose_84 : decode cX12_whose 84 = .ok (.istore 4, 2) := by decide +kernel
theorem dX12_whose_86 : decode cX12_whose 86 = .ok (.iconst 0, 1) := by decide +kernel
theorem dX12_whose_87 : decode cX12_whose 87 = .ok (.istore 5, 2) := by decide +kernel
theorem dX12_whose_89 : decode cX12_whose 89 = .ok (.iload 5, 2) := by decide +kernel
theorem dX12_whose_91 : decode cX12_whose 91 = .ok (.iload_n 3, 1) := by decide +kernel
theorem dX12_whose_92 : decode cX12_whose 92 = .ok (.if_icmp .ge 29, 3) := by decide +kernel
theorem dX12_whose_95 : decode cX12_whose 95 = .ok (.aload_n 0, 1) := by decide +kernel
theorem dX12_whose_96 : decode cX12_whose 96 = .ok (.aload_n 0, 1) := by decide +kernel
theorem dX12_whose_97 : decode cX12_whose 97 = .ok (.getfield 16, 3) := by decide +kernel
theorem dX12_whose_100 : decode cX12_whose 100 = .ok (.iload 4, 2) := by decide +kernel
theorem dX12_whose_102 : decode cX12_whose 102 = .ok (.iload 5, 2) := by decide +kernel
theorem dX12_whose_104 : decode cX12_whose 104 = .ok (.iadd, 1) := by decide +kernel
theorem dX12_whose_105 : decode cX12_whose 105 = .ok (.iaload, 1) := by decide +kernel
theorem dX12_whose_106 : decode cX12_whose 106 = .ok (.invokevirtual 194, 3) := by decide +kernel
theorem dX12_whose_109 : decode cX12_whose 109 = .ok (.ifCond .ne 6, 3) := by decide +kernel
theorem dX12_whose_112 : decode cX12_whose 112 = .ok (.ldc 74, 2) := by decide +kernel
theorem dX12_whose_114 : decode cX12_whose 114 = .ok (.ireturn, 1) := by decide +kernel
theorem dX12_whose_115 : decode cX12_whose 115 = .ok (.iinc 5 1, 3) := by decide +kernel
theorem dX12_whose_118 : decode cX12_whose 118 = .ok (.goto (-29), 3) := by decide +kernel
theorem dX12_whose_121 : decode cX12_whose 121 = .ok (.aload_n 0, 1) := by decide +kernel
theorem dX12_whose_122 : decode cX12_whose 122 = .ok (.iconst 0, 1) := by decide +kernel
theorem dX12_whose_123 : decode cX12_whose 123 = .ok (.putfield 58, 3) := by decide +kernel
theorem dX12_whose_126 : decode cX12_whose 126 = .ok (.iconst 0, 1) := by decide +kernel
theorem dX12_whose_127 : decode cX12_whose 127 = .ok (.istore 5, 2) := by decide +kernel
theorem dX12_whose_129 : decode cX12_whose 129 = .ok (.iconst 0, 1) := by decide +kernel
theorem dX12_whose_130 : decode cX12_whose 130 = .ok (.istore 6, 2) := by decide +kernel
theorem dX12_whose_132 : decode cX12_whose 132 = .ok (.iload 6, 2) := by decide +kernel
theorem dX12_whose_134 : decode cX12_whose 134 = .ok (.aload_n 0, 1) := by decide +kernel
theorem dX12_whose_135 : decode cX12_whose 135 = .ok (.getfield 19, 3) := by decide +kernel
theorem dX12_whose_138 : decode cX12_whose 138 = .ok (.iconst 5, 1) := by decide +kernel
theorem dX12_whose_139 : decode cX12_whose 139 = .ok (.iaload, 1) := by decide +kernel
theorem dX12_whose_140 : decode cX12_whose 140 = .ok (.if_icmp .ge 34, 3) := by decide +kernel
theorem dX12_whose_143 : decode cX12_whose 143 = .ok (.iload 5, 2) := by decide +kernel
theorem dX12_whose_145 : decode cX12_whose 145 = .ok (.aload_n 0, 1) := by decide +kernel
theorem dX12_whose_146 : decode cX12_whose 146 = .ok (.iload 6, 2) := by decide +kernel
theorem dX12_whose_148 : decode cX12_whose 148 = .ok (.iload 4, 2) := by decide +kernel
theorem dX12_whose_150 : decode cX12_whose 150 = .ok (.iload_n 3, 1) := by decide +kernel
theorem dX12_whose_151 : decode cX12_whose 151 = .ok (.invokevirtual 243, 3) := by decide +kernel
theorem dX12_whose_154 : decode cX12_whose 154 = .ok (.ifCond .eq 10, 3) := by decide +kernel
theorem dX12_whose_157 : decode cX12_whose 157 = .ok (.iconst 1, 1) := by decide +kernel
theorem dX12_whose_158 : decode cX12_whose 158 = .ok (.iload 6, 2) := by decide +kernel
theorem dX12_whose_160 : decode cX12_whose 160 = .ok (.ishl, 1) := by decide +kernel
theorem dX12_whose_161 : decode cX12_whose 161 = .ok (.goto 4, 3) := by decide +kernel
theorem dX12_whose_164 : decode cX12_whose 164 = .ok (.iconst 0, 1) := by decide +kernel
theorem dX12_whose_165 : decode cX12_whose 165 = .ok (.ior, 1) := by decide +kernel
theorem dX12_whose_166 : decode cX12_whose 166 = .ok (.istore 5, 2) := by decide +kernel
theorem dX12_whose_168 : decode cX12_whose 168 = .ok (.iinc 6 1, 3) := by decide +kernel
theorem dX12_whose_171 : decode cX12_whose 171 = .ok (.goto (-39), 3) := by decide +kernel
theorem dX12_whose_174 : decode cX12_whose 174 = .ok (.iload 5, 2) := by decide +kernel
theorem dX12_whose_176 : decode cX12_whose 176 = .ok (.ireturn, 1) := by decide +kernel
theorem dX12_notBy_0 : decode cX12_notBy 0 = .ok (.iconst 0, 1) := by decide +kernel
theorem dX12_notBy_1 : decode cX12_notBy 1 = .ok (.istore 5, 2) := by decide +kernel
theorem dX12_notBy_3 : decode cX12_notBy 3 = .ok (.iload 5, 2) := by decide +kernel
theorem dX12_notBy_5 : decode cX12_notBy 5 = .ok (.bipush 13, 2) := by decide +kernel
theorem dX12_notBy_7 : decode cX12_notBy 7 = .ok (.if_icmp .ge 23, 3) := by decide +kernel
theorem dX12_notBy_10 : decode cX12_notBy 10 = .ok (.aload_n 0, 1) := by decide +kernel
theorem dX12_notBy_11 : decode cX12_notBy 11 = .ok (.getfield 38, 3) := by decide +kernel
theorem dX12_notBy_14 : decode cX12_notBy 14 = .ok (.iload 5, 2) := by decide +kernel
theorem dX12_notBy_16 : decode cX12_notBy 16 = .ok (.aload_n 0, 1) := by decide +kernel
theorem dX12_notBy_17 : decode cX12_notBy 17 = .ok (.getfield 25, 3) := by decide +kernel
theorem dX12_notBy_20 : decode cX12_notBy 20 = .ok (.iload 5, 2) := by decide +kernel
theorem dX12_notBy_22 : decode cX12_notBy 22 = .ok (.laload, 1) := by decide +kernel
theorem dX12_notBy_23 : decode cX12_notBy 23 = .ok (.lastore, 1) := by decide +kernel
theorem dX12_notBy_24 : decode cX12_notBy 24 = .ok (.iinc 5 1, 3) := by decide +kernel
theorem dX12_notBy_27 : decode cX12_notBy 27 = .ok (.goto (-24), 3) := by decide +kernel
theorem dX12_notBy_30 : decode cX12_notBy 30 = .ok (.aload_n 0, 1) := by decide +kernel
theorem dX12_notBy_31 : decode cX12_notBy 31 = .ok (.getfield 19, 3) := by decide +kernel
theorem dX12_notBy_34 : decode cX12_notBy 34 = .ok (.bipush 6, 2) := by decide +kernel
theorem dX12_notBy_36 : decode cX12_notBy 36 = .ok (.iaload, 1) := by decide +kernel
theorem dX12_notBy_37 : decode cX12_notBy 37 = .ok (.istore 5, 2) := by decide +kernel
theorem dX12_notBy_39 : decode cX12_notBy 39 = .ok (.aload_n 0, 1) := by decide +kernel
theorem dX12_notBy_40 : decode cX12_notBy 40 = .ok (.getfield 19, 3) := by decide +kernel
theorem dX12_notBy_43 : decode cX12_notBy 43 = .ok (.bipush 7, 2) := by decide +kernel
theorem dX12_notBy_45 : decode cX12_notBy 45 = .ok (.iaload, 1) := by decide +kernel
theorem dX12_notBy_46 : decode cX12_notBy 46 = .ok (.istore 6, 2) := by decide +kernel
theorem dX12_notBy_48 : decode cX12_notBy 48 = .ok (.iconst 0, 1) := by decide +kernel
theorem dX12_notBy_49 : decode cX12_notBy 49 = .ok (.istore 7, 2) := by decide +kernel
theorem dX12_notBy_51 : decode cX12_notBy 51 = .ok (.iload 7, 2) := by decide +kernel
theorem dX12_notBy_53 : decode cX12_notBy 53 = .ok (.iload 4, 2) := by decide +kernel
theorem dX12_notBy_55 : decode cX12_notBy 55 = .ok (.if_icmp .ge 128, 3) := by decide +kernel
theorem dX12_notBy_58 : decode cX12_notBy 58 = .ok (.iconst 0, 1) := by decide +kernel
theorem dX12_notBy_59 : decode cX12_notBy 59 = .ok (.istore 8, 2) := by decide +kernel
theorem dX12_notBy_61 : decode cX12_notBy 61 = .ok (.iload 8, 2) := by decide +kernel
theorem dX12_notBy_63 : decode cX12_notBy 63 = .ok (.aload_n 0, 1) := by decide +kernel
theorem dX12_notBy_64 : decode cX12_notBy 64 = .ok (.getfield 19, 3) := by decide +kernel
theorem dX12_notBy_67 : decode cX12_notBy 67 = .ok (.iconst 0, 1) := by decide +kernel
theorem dX12_notBy_68 : decode cX12_notBy 68 = .ok (.iaload, 1) := by decide +kernel
theorem dX12_notBy_69 : decode cX12_notBy 69 = .ok (.if_icmp .gt 43, 3) := by decide +kernel
theorem dX12_notBy_72 : decode cX12_notBy 72 = .ok (.aload_n 0, 1) := by decide +kernel
theorem dX12_notBy_73 : decode cX12_notBy 73 = .ok (.getfield 38, 3) := by decide +kernel
theorem dX12_notBy_76 : decode cX12_notBy 76 = .ok (.iload 8, 2) := by decide +kernel
theorem dX12_notBy_78 : decode cX12_notBy 78 = .ok (.dup2, 1) := by decide +kernel
theorem dX12_notBy_79 : decode cX12_notBy 79 = .ok (.laload, 1) := by decide +kernel
theorem dX12_notBy_80 : decode cX12_notBy 80 = .ok (.iload 8, 2) := by decide +kernel
theorem dX12_notBy_82 : decode cX12_notBy 82 = .ok (.iload 5, 2) := by decide +kernel
theorem dX12_notBy_84 : decode cX12_notBy 84 = .ok (.if_icmp .ne 17, 3) := by decide +kernel
theorem dX12_notBy_87 : decode cX12_notBy 87 = .ok (.bipush 10, 2) := by decide +kernel
theorem dX12_notBy_89 : decode cX12_notBy 89 = .ok (.aload_n 0, 1) := by decide +kernel
theorem dX12_notBy_90 : decode cX12_notBy 90 = .ok (.iload_n 1, 1) := by decide +kernel
theorem dX12_notBy_91 : decode cX12_notBy 91 = .ok (.iload 6, 2) := by decide +kernel
theorem dX12_notBy_93 : decode cX12_notBy 93 = .ok (.invokevirtual 162, 3) := by decide +kernel
theorem dX12_notBy_96 : decode cX12_notBy 96 = .ok (.isub, 1) := by decide +kernel
theorem dX12_notBy_97 : decode cX12_notBy 97 = .ok (.i2l, 1) := by decide +kernel
theorem dX12_notBy_98 : decode cX12_notBy 98 = .ok (.goto 6, 3) := by decide +kernel
theorem dX12_notBy_101 : decode cX12_notBy 101 = .ok (.ldc2_w 203, 3) := by decide +kernel
theorem dX12_notBy_104 : decode cX12_notBy 104 = .ok (.lmul, 1) := by decide +kernel
theorem dX12_notBy_105 : decode cX12_notBy 105 = .ok (.lastore, 1) := by decide +kernel
theorem dX12_notBy_106 : decode cX12_notBy 106 = .ok (.iinc 8 1, 3) := by decide +kernel
theorem dX12_notBy_109 : decode cX12_notBy 109 = .ok (.goto (-48), 3) := by decide +kernel
theorem dX12_notBy_112 : decode cX12_notBy 112 = .ok (.aload_n 0, 1) := by decide +kernel
theorem dX12_notBy_113 : decode cX12_notBy 113 = .ok (.getfield 16, 3) := by decide +kernel
theorem dX12_notBy_116 : decode cX12_notBy 116 = .ok (.iload_n 2, 1) := by decide +kernel
theorem dX12_notBy_117 : decode cX12_notBy 117 = .ok (.iload 7, 2) := by decide +kernel
theorem dX12_notBy_119 : decode cX12_notBy 119 = .ok (.iload_n 3, 1) := by decide +kernel
theorem dX12_notBy_120 : decode cX12_notBy 120 = .ok (.irem, 1) := by decide +kernel
theorem dX12_notBy_121 : decode cX12_notBy 121 = .ok (.iadd, 1) := by decide +kernel
theorem dX12_notBy_122 : decode cX12_notBy 122 = .ok (.iaload, 1) := by decide +kernel
theorem dX12_notBy_123 : decode cX12_notBy 123 = .ok (.istore 8, 2) := by decide +kernel
theorem dX12_notBy_125 : decode cX12_notBy 125 = .ok (.iload 8, 2) := by decide +kernel
theorem dX12_notBy_127 : decode cX12_notBy 127 = .ok (.ifCond .ne 7, 3) := by decide +kernel
theorem dX12_notBy_130 : decode cX12_notBy 130 = .ok (.iconst 1, 1) := by decide +kernel
theorem dX12_notBy_131 : decode cX12_notBy 131 = .ok (.goto 14, 3) := by decide +kernel
theorem dX12_notBy_134 : decode cX12_notBy 134 = .ok (.iload 8, 2) := by decide +kernel
theorem dX12_notBy_136 : decode cX12_notBy 136 = .ok (.iconst 2, 1) := by decide +kernel
theorem dX12_notBy_137 : decode cX12_notBy 137 = .ok (.if_icmp .ne 7, 3) := by decide +kernel
theorem dX12_notBy_140 : decode cX12_notBy 140 = .ok (.iconst 2, 1) := by decide +kernel
theorem dX12_notBy_141 : decode cX12_notBy 141 = .ok (.goto 4, 3) := by decide +kernel
theorem dX12_notBy_144 : decode cX12_notBy 144 = .ok (.iconst 0, 1) := by decide +kernel
theorem dX12_notBy_145 : decode cX12_notBy 145 = .ok (.istore 9, 2) := by decide +kernel
theorem dX12_notBy_147 : decode cX12_notBy 147 = .ok (.aload_n 0, 1) := by decide +kernel
theorem dX12_notBy_148 : decode cX12_notBy 148 = .ok (.iload 5, 2) := by decide +kernel
theorem dX12_notBy_150 : decode cX12_notBy 150 = .ok (.iload 9, 2) := by decide +kernel
theorem dX12_notBy_152 : decode cX12_notBy 152 = .ok (.iload 6, 2) := by decide +kernel
theorem dX12_notBy_154 : decode cX12_notBy 154 = .ok (.imul, 1) := by decide +kernel
theorem dX12_notBy_155 : decode cX12_notBy 155 = .ok (.iadd, 1) := by decide +kernel
theorem dX12_notBy_156 : decode cX12_notBy 156 = .ok (.invokevirtual 181, 3) := by decide +kernel
theorem dX12_notBy_159 : decode cX12_notBy 159 = .ok (.istore 5, 2) := by decide +kernel
theorem dX12_notBy_161 : decode cX12_notBy 161 = .ok (.iload 8, 2) := by decide +kernel
theorem dX12_notBy_163 : decode cX12_notBy 163 = .ok (.iconst 1, 1) := by decide +kernel
theorem dX12_notBy_164 : decode cX12_notBy 164 = .ok (.if_icmp .ne 9, 3) := by decide +kernel
theorem dX12_notBy_167 : decode cX12_notBy 167 = .ok (.iload 6, 2) := by decide +kernel
theorem dX12_notBy_169 : decode cX12_notBy 169 = .ok (.ineg, 1) := by decide +kernel
theorem dX12_notBy_170 : decode cX12_notBy 170 = .ok (.goto 5, 3) := by decide +kernel
theorem dX12_notBy_173 : decode cX12_notBy 173 = .ok (.iload 6, 2) := by decide +kernel
theorem dX12_notBy_175 : decode cX12_notBy 175 = .ok (.istore 6, 2) := by decide +kernel
theorem dX12_notBy_177 : decode cX12_notBy 177 = .ok (.iinc 7 1, 3) := by decide +kernel
theorem dX12_notBy_180 : decode cX12_notBy 180 = .ok (.goto (-129), 3) := by decide +kernel
theorem dX12_notBy_183 : decode cX12_notBy 183 = .ok (.lconst 0, 1) := by decide +kernel
theorem dX12_notBy_184 : decode cX12_notBy 184 = .ok (.lstore 7, 2) := by decide +kernel
theorem dX12_notBy_186 : decode cX12_notBy 186 = .ok (.iconst 0, 1) := by decide +kernel
theorem dX12_notBy_187 : decode cX12_notBy 187 = .ok (.istore 9, 2) := by decide +kernel
theorem dX12_notBy_189 : decode cX12_notBy 189 = .ok (.iload 9, 2) := by decide +kernel
theorem dX12_notBy_191 : decode cX12_notBy 191 = .ok (.aload_n 0, 1) := by decide +kernel
theorem dX12_notBy_192 : decode cX12_notBy 192 = .ok (.getfield 19, 3) := by decide +kernel
theorem dX12_notBy_195 : decode cX12_notBy 195 = .ok (.iconst 0, 1) := by decide +kernel
theorem dX12_notBy_196 : decode cX12_notBy 196 = .ok (.iaload, 1) := by decide +kernel
theorem dX12_notBy_197 : decode cX12_notBy 197 = .ok (.if_icmp .gt 21, 3) := by decide +kernel
theorem dX12_notBy_200 : decode cX12_notBy 200 = .ok (.lload 7, 2) := by decide +kernel
theorem dX12_notBy_202 : decode cX12_notBy 202 = .ok (.aload_n 0, 1) := by decide +kernel
theorem dX12_notBy_203 : decode cX12_notBy 203 = .ok (.getfield 38, 3) := by decide +kernel
theorem dX12_notBy_206 : decode cX12_notBy 206 = .ok (.iload 9, 2) := by decide +kernel
theorem dX12_notBy_208 : decode cX12_notBy 208 = .ok (.laload, 1) := by decide +kernel
theorem dX12_notBy_209 : decode cX12_notBy 209 = .ok (.ladd, 1) := by decide +kernel
theorem dX12_notBy_210 : decode cX12_notBy 210 = .ok (.lstore 7, 2) := by decide +kernel
theorem dX12_notBy_212 : decode cX12_notBy 212 = .ok (.iinc 9 1, 3) := by decide +kernel
theorem dX12_notBy_215 : decode cX12_notBy 215 = .ok (.goto (-26), 3) := by decide +kernel
theorem dX12_notBy_218 : decode cX12_notBy 218 = .ok (.lload 7, 2) := by decide +kernel
theorem dX12_notBy_220 : decode cX12_notBy 220 = .ok (.lreturn, 1) := by decide +kernel
theorem dX12_rule_0 : decode cX12_rule 0 = .ok (.aload_n 0, 1) := by decide +kernel
theorem dX12_rule_1 : decode cX12_rule 1 = .ok (.iconst 0, 1) := by decide +kernel
theorem dX12_rule_2 : decode cX12_rule 2 = .ok (.putfield 54, 3) := by decide +kernel
theorem dX12_rule_5 : decode cX12_rule 5 = .ok (.aload_n 0, 1) := by decide +kernel
theorem dX12_rule_6 : decode cX12_rule 6 = .ok (.iload_n 1, 1) := by decide +kernel
theorem dX12_rule_7 : decode cX12_rule 7 = .ok (.invokevirtual 165, 3) := by decide +kernel
theorem dX12_rule_10 : decode cX12_rule 10 = .ok (.ifCond .eq 48, 3) := by decide +kernel
theorem dX12_rule_13 : decode cX12_rule 13 = .ok (.iload_n 2, 1) := by decide +kernel
theorem dX12_rule_14 : decode cX12_rule 14 = .ok (.invokestatic 68, 3) := by decide +kernel
theorem dX12_rule_17 : decode cX12_rule 17 = .ok (.ifCond .eq 41, 3) := by decide +kernel
theorem dX12_rule_20 : decode cX12_rule 20 = .ok (.iload_n 3, 1) := by decide +kernel
theorem dX12_rule_21 : decode cX12_rule 21 = .ok (.i2l, 1) := by decide +kernel
theorem dX12_rule_22 : decode cX12_rule 22 = .ok (.lconst 1, 1) := by decide +kernel
theorem dX12_rule_23 : decode cX12_rule 23 = .ok (.ldc2_w 246, 3) := by decide +kernel
theorem dX12_rule_26 : decode cX12_rule 26 = .ok (.invokestatic 64, 3) := by decide +kernel
theorem dX12_rule_29 : decode cX12_rule 29 = .ok (.ifCond .eq 29, 3) := by decide +kernel
theorem dX12_rule_32 : decode cX12_rule 32 = .ok (.iload 4, 2) := by decide +kernel
theorem dX12_rule_34 : decode cX12_rule 34 = .ok (.i2l, 1) := by decide +kernel
theorem dX12_rule_35 : decode cX12_rule 35 = .ok (.lconst 1, 1) := by decide +kernel
theorem dX12_rule_36 : decode cX12_rule 36 = .ok (.ldc2_w 241, 3) := by decide +kernel
theorem dX12_rule_39 : decode cX12_rule 39 = .ok (.invokestatic 64, 3) := by decide +kernel
theorem dX12_rule_42 : decode cX12_rule 42 = .ok (.ifCond .eq 16, 3) := by decide +kernel
theorem dX12_rule_45 : decode cX12_rule 45 = .ok (.iload 5, 2) := by decide +kernel
theorem dX12_rule_47 : decode cX12_rule 47 = .ok (.i2l, 1) := by decide +kernel
theorem dX12_rule_48 : decode cX12_rule 48 = .ok (.lconst 0, 1) := by decide +kernel
theorem dX12_rule_49 : decode cX12_rule 49 = .ok (.ldc2_w 72, 3) := by decide +kernel
theorem dX12_rule_52 : decode cX12_rule 52 = .ok (.invokestatic 64, 3) := by decide +kernel
theorem dX12_rule_55 : decode cX12_rule 55 = .ok (.ifCond .ne 7, 3) := by decide +kernel
theorem dX12_rule_58 : decode cX12_rule 58 = .ok (.ldc2_w 201, 3) := by decide +kernel
theorem dX12_rule_61 : decode cX12_rule 61 = .ok (.lreturn, 1) := by decide +kernel
theorem dX12_rule_62 : decode cX12_rule 62 = .ok (.aload_n 0, 1) := by decide +kernel
theorem dX12_rule_63 : decode cX12_rule 63 = .ok (.getfield 7, 3) := by decide +kernel
theorem dX12_rule_66 : decode cX12_rule 66 = .ok (.iload_n 2, 1) := by decide +kernel
theorem dX12_rule_67 : decode cX12_rule 67 = .ok (.iaload, 1) := by decide +kernel
theorem dX12_rule_68 : decode cX12_rule 68 = .ok (.ifCond .ge 10, 3) := by decide +kernel
theorem dX12_rule_71 : decode cX12_rule 71 = .ok (.aload_n 0, 1) := by decide +kernel
theorem dX12_rule_72 : decode cX12_rule 72 = .ok (.iconst 1, 1) := by decide +kernel
theorem dX12_rule_73 : decode cX12_rule 73 = .ok (.invokevirtual 75, 3) := by decide +kernel
theorem dX12_rule_76 : decode cX12_rule 76 = .ok (.i2l, 1) := by decide +kernel
theorem dX12_rule_77 : decode cX12_rule 77 = .ok (.lreturn, 1) := by decide +kernel
theorem dX12_rule_78 : decode cX12_rule 78 = .ok (.iload_n 3, 1) := by decide +kernel
theorem dX12_rule_79 : decode cX12_rule 79 = .ok (.aload_n 0, 1) := by decide +kernel
theorem dX12_rule_80 : decode cX12_rule 80 = .ok (.getfield 13, 3) := by decide +kernel
theorem dX12_rule_83 : decode cX12_rule 83 = .ok (.iload_n 2, 1) := by decide +kernel
theorem dX12_rule_84 : decode cX12_rule 84 = .ok (.iaload, 1) := by decide +kernel
theorem dX12_rule_85 : decode cX12_rule 85 = .ok (.if_icmp .le 10, 3) := by decide +kernel
theorem dX12_rule_88 : decode cX12_rule 88 = .ok (.aload_n 0, 1) := by decide +kernel
theorem dX12_rule_89 : decode cX12_rule 89 = .ok (.iconst 2, 1) := by decide +kernel
theorem dX12_rule_90 : decode cX12_rule 90 = .ok (.invokevirtual 75, 3) := by decide +kernel
theorem dX12_rule_93 : decode cX12_rule 93 = .ok (.i2l, 1) := by decide +kernel
theorem dX12_rule_94 : decode cX12_rule 94 = .ok (.lreturn, 1) := by decide +kernel
theorem dX12_rule_95 : decode cX12_rule 95 = .ok (.bipush 40, 2) := by decide +kernel
theorem dX12_rule_97 : decode cX12_rule 97 = .ok (.iload_n 2, 1) := by decide +kernel
theorem dX12_rule_98 : decode cX12_rule 98 = .ok (.imul, 1) := by decide +kernel
theorem dX12_rule_99 : decode cX12_rule 99 = .ok (.istore 6, 2) := by decide +kernel
theorem dX12_rule_101 : decode cX12_rule 101 = .ok (.iconst 0, 1) := by decide +kernel
theorem dX12_rule_102 : decode cX12_rule 102 = .ok (.istore 7, 2) := by decide +kernel
theorem dX12_rule_104 : decode cX12_rule 104 = .ok (.iload 7, 2) := by decide +kernel
theorem dX12_rule_106 : decode cX12_rule 106 = .ok (.iload_n 3, 1) := by decide +kernel
theorem dX12_rule_107 : decode cX12_rule 107 = .ok (.if_icmp .ge 34, 3) := by decide +kernel
theorem dX12_rule_110 : decode cX12_rule 110 = .ok (.aload_n 0, 1) := by decide +kernel
theorem dX12_rule_111 : decode cX12_rule 111 = .ok (.getfield 16, 3) := by decide +kernel
theorem dX12_rule_114 : decode cX12_rule 114 = .ok (.iload 6, 2) := by decide +kernel
theorem dX12_rule_116 : decode cX12_rule 116 = .ok (.iload 7, 2) := by decide +kernel
theorem dX12_rule_118 : decode cX12_rule 118 = .ok (.iadd, 1) := by decide +kernel
theorem dX12_rule_119 : decode cX12_rule 119 = .ok (.iaload, 1) := by decide +kernel
theorem dX12_rule_120 : decode cX12_rule 120 = .ok (.i2l, 1) := by decide +kernel
theorem dX12_rule_121 : decode cX12_rule 121 = .ok (.lconst 0, 1) := by decide +kernel
theorem dX12_rule_122 : decode cX12_rule 122 = .ok (.ldc2_w 199, 3) := by decide +kernel
theorem dX12_rule_125 : decode cX12_rule 125 = .ok (.invokestatic 64, 3) := by decide +kernel
theorem dX12_rule_128 : decode cX12_rule 128 = .ok (.ifCond .ne 7, 3) := by decide +kernel
theorem dX12_rule_131 : decode cX12_rule 131 = .ok (.ldc2_w 201, 3) := by decide +kernel
theorem dX12_rule_134 : decode cX12_rule 134 = .ok (.lreturn, 1) := by decide +kernel
theorem dX12_rule_135 : decode cX12_rule 135 = .ok (.iinc 7 1, 3) := by decide +kernel
theorem dX12_rule_138 : decode cX12_rule 138 = .ok (.goto (-34), 3) := by decide +kernel
theorem dX12_rule_141 : decode cX12_rule 141 = .ok (.aload_n 0, 1) := by decide +kernel
theorem dX12_rule_142 : decode cX12_rule 142 = .ok (.iconst 0, 1) := by decide +kernel
theorem dX12_rule_143 : decode cX12_rule 143 = .ok (.putfield 58, 3) := by decide +kernel
theorem dX12_rule_146 : decode cX12_rule 146 = .ok (.iload 5, 2) := by decide +kernel
theorem dX12_rule_148 : decode cX12_rule 148 = .ok (.iconst 2, 1) := by decide +kernel
theorem dX12_rule_149 : decode cX12_rule 149 = .ok (.if_icmp .ne 95, 3) := by decide +kernel
theorem dX12_rule_152 : decode cX12_rule 152 = .ok (.iload 4, 2) := by decide +kernel
theorem dX12_rule_154 : decode cX12_rule 154 = .ok (.istore 7, 2) := by decide +kernel
theorem dX12_rule_156 : decode cX12_rule 156 = .ok (.iconst 0, 1) := by decide +kernel
theorem dX12_rule_157 : decode cX12_rule 157 = .ok (.istore 8, 2) := by decide +kernel
theorem dX12_rule_159 : decode cX12_rule 159 = .ok (.iload 8, 2) := by decide +kernel
theorem dX12_rule_161 : decode cX12_rule 161 = .ok (.iload 4, 2) := by decide +kernel
theorem dX12_rule_163 : decode cX12_rule 163 = .ok (.iconst 1, 1) := by decide +kernel
theorem dX12_rule_164 : decode cX12_rule 164 = .ok (.isub, 1) := by decide +kernel
theorem dX12_rule_165 : decode cX12_rule 165 = .ok (.if_icmp .ge 75, 3) := by decide +kernel
theorem dX12_rule_168 : decode cX12_rule 168 = .ok (.aload_n 0, 1) := by decide +kernel
theorem dX12_rule_169 : decode cX12_rule 169 = .ok (.getfield 16, 3) := by decide +kernel
theorem dX12_rule_172 : decode cX12_rule 172 = .ok (.iload 6, 2) := by decide +kernel
theorem dX12_rule_174 : decode cX12_rule 174 = .ok (.iload 8, 2) := by decide +kernel
theorem dX12_rule_176 : decode cX12_rule 176 = .ok (.iload_n 3, 1) := by decide +kernel
theorem dX12_rule_177 : decode cX12_rule 177 = .ok (.irem, 1) := by decide +kernel
theorem dX12_rule_178 : decode cX12_rule 178 = .ok (.iadd, 1) := by decide +kernel
theorem dX12_rule_179 : decode cX12_rule 179 = .ok (.iaload, 1) := by decide +kernel
theorem dX12_rule_180 : decode cX12_rule 180 = .ok (.istore 9, 2) := by decide +kernel
theorem dX12_rule_182 : decode cX12_rule 182 = .ok (.iload 7, 2) := by decide +kernel
theorem dX12_rule_184 : decode cX12_rule 184 = .ok (.iload 9, 2) := by decide +kernel
theorem dX12_rule_186 : decode cX12_rule 186 = .ok (.ifCond .ne 12, 3) := by decide +kernel
theorem dX12_rule_189 : decode cX12_rule 189 = .ok (.aload_n 0, 1) := by decide +kernel
theorem dX12_rule_190 : decode cX12_rule 190 = .ok (.getfield 19, 3) := by decide +kernel
theorem dX12_rule_193 : decode cX12_rule 193 = .ok (.iconst 1, 1) := by decide +kernel
theorem dX12_rule_194 : decode cX12_rule 194 = .ok (.iaload, 1) := by decide +kernel
theorem dX12_rule_195 : decode cX12_rule 195 = .ok (.goto 36, 3) := by decide +kernel
theorem dX12_rule_198 : decode cX12_rule 198 = .ok (.iload 9, 2) := by decide +kernel
theorem dX12_rule_200 : decode cX12_rule 200 = .ok (.iconst 1, 1) := by decide +kernel
theorem dX12_rule_201 : decode cX12_rule 201 = .ok (.if_icmp .ne 12, 3) := by decide +kernel
theorem dX12_rule_204 : decode cX12_rule 204 = .ok (.aload_n 0, 1) := by decide +kernel
theorem dX12_rule_205 : decode cX12_rule 205 = .ok (.getfield 19, 3) := by decide +kernel
theorem dX12_rule_208 : decode cX12_rule 208 = .ok (.iconst 2, 1) := by decide +kernel
theorem dX12_rule_209 : decode cX12_rule 209 = .ok (.iaload, 1) := by decide +kernel
theorem dX12_rule_210 : decode cX12_rule 210 = .ok (.goto 21, 3) := by decide +kernel
theorem dX12_rule_213 : decode cX12_rule 213 = .ok (.iload 9, 2) := by decide +kernel
theorem dX12_rule_215 : decode cX12_rule 215 = .ok (.iconst 2, 1) := by decide +kernel
theorem dX12_rule_216 : decode cX12_rule 216 = .ok (.if_icmp .ne 14, 3) := by decide +kernel
theorem dX12_rule_219 : decode cX12_rule 219 = .ok (.iconst 2, 1) := by decide +kernel
theorem dX12_rule_220 : decode cX12_rule 220 = .ok (.aload_n 0, 1) := by decide +kernel
theorem dX12_rule_221 : decode cX12_rule 221 = .ok (.getfield 19, 3) := by decide +kernel
theorem dX12_rule_224 : decode cX12_rule 224 = .ok (.iconst 1, 1) := by decide +kernel
theorem dX12_rule_225 : decode cX12_rule 225 = .ok (.iaload, 1) := by decide +kernel
theorem dX12_rule_226 : decode cX12_rule 226 = .ok (.imul, 1) := by decide +kernel
theorem dX12_rule_227 : decode cX12_rule 227 = .ok (.goto 4, 3) := by decide +kernel
theorem dX12_rule_230 : decode cX12_rule 230 = .ok (.iconst 0, 1) := by decide +kernel
theorem dX12_rule_231 : decode cX12_rule 231 = .ok (.iadd, 1) := by decide +kernel
theorem dX12_rule_232 : decode cX12_rule 232 = .ok (.istore 7, 2) := by decide +kernel
theorem dX12_rule_234 : decode cX12_rule 234 = .ok (.iinc 8 1, 3) := by decide +kernel
theorem dX12_rule_237 : decode cX12_rule 237 = .ok (.goto (-78), 3) := by decide +kernel
theorem dX12_rule_240 : decode cX12_rule 240 = .ok (.iload 7, 2) := by decide +kernel
theorem dX12_rule_242 : decode cX12_rule 242 = .ok (.i2l, 1) := by decide +kernel
theorem dX12_rule_243 : decode cX12_rule 243 = .ok (.lreturn, 1) := by decide +kernel
theorem dX12_rule_244 : decode cX12_rule 244 = .ok (.iload 4, 2) := by decide +kernel
theorem dX12_rule_246 : decode cX12_rule 246 = .ok (.invokestatic 213, 3) := by decide +kernel
theorem dX12_rule_249 : decode cX12_rule 249 = .ok (.aload_n 0, 1) := by decide +kernel
theorem dX12_rule_250 : decode cX12_rule 250 = .ok (.invokevirtual 205, 3) := by decide +kernel
theorem dX12_rule_253 : decode cX12_rule 253 = .ok (.lmul, 1) := by decide +kernel
theorem dX12_rule_254 : decode cX12_rule 254 = .ok (.lstore 7, 2) := by decide +kernel
theorem dX12_rule_256 : decode cX12_rule 256 = .ok (.lload 7, 2) := by decide +kernel
theorem dX12_rule_258 : decode cX12_rule 258 = .ok (.aload_n 0, 1) := by decide +kernel
theorem dX12_rule_259 : decode cX12_rule 259 = .ok (.iload_n 1, 1) := by decide +kernel
theorem dX12_rule_260 : decode cX12_rule 260 = .ok (.iload 6, 2) := by decide +kernel
theorem dX12_rule_262 : decode cX12_rule 262 = .ok (.iload_n 3, 1) := by decide +kernel
theorem dX12_rule_263 : decode cX12_rule 263 = .ok (.iload 4, 2) := by decide +kernel
theorem dX12_rule_265 : decode cX12_rule 265 = .ok (.invokevirtual 248, 3) := by decide +kernel
theorem dX12_rule_268 : decode cX12_rule 268 = .ok (.lsub, 1) := by decide +kernel
theorem dX12_rule_269 : decode cX12_rule 269 = .ok (.lload 7, 2) := by decide +kernel
theorem dX12_rule_271 : decode cX12_rule 271 = .ok (.iload 5, 2) := by decide +kernel
theorem dX12_rule_273 : decode cX12_rule 273 = .ok (.invokestatic 209, 3) := by decide +kernel
theorem dX12_rule_276 : decode cX12_rule 276 = .ok (.lreturn, 1) := by decide +kernel
theorem dX12_search_0 : decode cX12_search 0 = .ok (.aload_n 0, 1) := by decide +kernel
theorem dX12_search_1 : decode cX12_search 1 = .ok (.iconst 0, 1) := by decide +kernel
theorem dX12_search_2 : decode cX12_search 2 = .ok (.putfield 54, 3) := by decide +kernel
theorem dX12_search_5 : decode cX12_search 5 = .ok (.aload_n 0, 1) := by decide +kernel
theorem dX12_search_6 : decode cX12_search 6 = .ok (.iload_n 1, 1) := by decide +kernel
theorem dX12_search_7 : decode cX12_search 7 = .ok (.invokevirtual 165, 3) := by decide +kernel
theorem dX12_search_10 : decode cX12_search 10 = .ok (.ifCond .eq 25, 3) := by decide +kernel
theorem dX12_search_13 : decode cX12_search 13 = .ok (.iload_n 2, 1) := by decide +kernel
theorem dX12_search_14 : decode cX12_search 14 = .ok (.i2l, 1) := by decide +kernel
theorem dX12_search_15 : decode cX12_search 15 = .ok (.lconst 1, 1) := by decide +kernel
theorem dX12_search_16 : decode cX12_search 16 = .ok (.ldc2_w 251, 3) := by decide +kernel
theorem dX12_search_19 : decode cX12_search 19 = .ok (.invokestatic 64, 3) := by decide +kernel
theorem dX12_search_22 : decode cX12_search 22 = .ok (.ifCond .eq 13, 3) := by decide +kernel
theorem dX12_search_25 : decode cX12_search 25 = .ok (.iload_n 3, 1) := by decide +kernel
theorem dX12_search_26 : decode cX12_search 26 = .ok (.i2l, 1) := by decide +kernel
theorem dX12_search_27 : decode cX12_search 27 = .ok (.lconst 0, 1) := by decide +kernel
theorem dX12_search_28 : decode cX12_search 28 = .ok (.lconst 1, 1) := by decide +kernel
theorem dX12_search_29 : decode cX12_search 29 = .ok (.invokestatic 64, 3) := by decide +kernel
theorem dX12_search_32 : decode cX12_search 32 = .ok (.ifCond .ne 6, 3) := by decide +kernel
theorem dX12_search_35 : decode cX12_search 35 = .ok (.ldc 74, 2) := by decide +kernel
theorem dX12_search_37 : decode cX12_search 37 = .ok (.ireturn, 1) := by decide +kernel
theorem dX12_search_38 : decode cX12_search 38 = .ok (.aload_n 0, 1) := by decide +kernel
theorem dX12_search_39 : decode cX12_search 39 = .ok (.getfield 19, 3) := by decide +kernel
theorem dX12_search_42 : decode cX12_search 42 = .ok (.iconst 0, 1) := by decide +kernel
theorem dX12_search_43 : decode cX12_search 43 = .ok (.iaload, 1) := by decide +kernel
theorem dX12_search_44 : decode cX12_search 44 = .ok (.istore 4, 2) := by decide +kernel
theorem dX12_search_46 : decode cX12_search 46 = .ok (.aload_n 0, 1) := by decide +kernel
theorem dX12_search_47 : decode cX12_search 47 = .ok (.getfield 19, 3) := by decide +kernel
theorem dX12_search_50 : decode cX12_search 50 = .ok (.iconst 3, 1) := by decide +kernel
theorem dX12_search_51 : decode cX12_search 51 = .ok (.iaload, 1) := by decide +kernel
theorem dX12_search_52 : decode cX12_search 52 = .ok (.istore 5, 2) := by decide +kernel
theorem dX12_search_54 : decode cX12_search 54 = .ok (.iconst 0, 1) := by decide +kernel
theorem dX12_search_55 : decode cX12_search 55 = .ok (.istore 6, 2) := by decide +kernel
theorem dX12_search_57 : decode cX12_search 57 = .ok (.iload 6, 2) := by decide +kernel
theorem dX12_search_59 : decode cX12_search 59 = .ok (.iload 4, 2) := by decide +kernel
theorem dX12_search_61 : decode cX12_search 61 = .ok (.if_icmp .ge 24, 3) := by decide +kernel
theorem dX12_search_64 : decode cX12_search 64 = .ok (.iload 5, 2) := by decide +kernel
theorem dX12_search_66 : decode cX12_search 66 = .ok (.aload_n 0, 1) := by decide +kernel
theorem dX12_search_67 : decode cX12_search 67 = .ok (.getfield 19, 3) := by decide +kernel
theorem dX12_search_70 : decode cX12_search 70 = .ok (.bipush 12, 2) := by decide +kernel
theorem dX12_search_72 : decode cX12_search 72 = .ok (.iload 6, 2) := by decide +kernel
theorem dX12_search_74 : decode cX12_search 74 = .ok (.iadd, 1) := by decide +kernel
theorem dX12_search_75 : decode cX12_search 75 = .ok (.iaload, 1) := by decide +kernel
theorem dX12_search_76 : decode cX12_search 76 = .ok (.iadd, 1) := by decide +kernel
theorem dX12_search_77 : decode cX12_search 77 = .ok (.istore 5, 2) := by decide +kernel
theorem dX12_search_79 : decode cX12_search 79 = .ok (.iinc 6 1, 3) := by decide +kernel
theorem dX12_search_82 : decode cX12_search 82 = .ok (.goto (-25), 3) := by decide +kernel
theorem dX12_search_85 : decode cX12_search 85 = .ok (.iload_n 2, 1) := by decide +kernel
theorem dX12_search_86 : decode cX12_search 86 = .ok (.i2l, 1) := by decide +kernel
theorem dX12_search_87 : decode cX12_search 87 = .ok (.ldc2_w 253, 3) := by decide +kernel
theorem dX12_search_90 : decode cX12_search 90 = .ok (.lmul, 1) := by decide +kernel
theorem dX12_search_91 : decode cX12_search 91 = .ok (.ldc2_w 255, 3) := by decide +kernel
theorem dX12_search_94 : decode cX12_search 94 = .ok (.lrem, 1) := by decide +kernel
theorem dX12_search_95 : decode cX12_search 95 = .ok (.lstore 6, 2) := by decide +kernel
theorem dX12_search_97 : decode cX12_search 97 = .ok (.lload 6, 2) := by decide +kernel
theorem dX12_search_99 : decode cX12_search 99 = .ok (.iload 5, 2) := by decide +kernel
theorem dX12_search_101 : decode cX12_search 101 = .ok (.i2l, 1) := by decide +kernel
theorem dX12_search_102 : decode cX12_search 102 = .ok (.lrem, 1) := by decide +kernel
theorem dX12_search_103 : decode cX12_search 103 = .ok (.lstore 8, 2) := by decide +kernel
theorem dX12_search_105 : decode cX12_search 105 = .ok (.iconst 0, 1) := by decide +kernel
theorem dX12_search_106 : decode cX12_search 106 = .ok (.istore 10, 2) := by decide +kernel
theorem dX12_search_108 : decode cX12_search 108 = .ok (.iload 10, 2) := by decide +kernel
theorem dX12_search_110 : decode cX12_search 110 = .ok (.iload 4, 2) := by decide +kernel
theorem dX12_search_112 : decode cX12_search 112 = .ok (.if_icmp .ge 42, 3) := by decide +kernel
theorem dX12_search_115 : decode cX12_search 115 = .ok (.lload 8, 2) := by decide +kernel
theorem dX12_search_117 : decode cX12_search 117 = .ok (.aload_n 0, 1) := by decide +kernel
theorem dX12_search_118 : decode cX12_search 118 = .ok (.getfield 19, 3) := by decide +kernel
theorem dX12_search_121 : decode cX12_search 121 = .ok (.bipush 12, 2) := by decide +kernel
theorem dX12_search_123 : decode cX12_search 123 = .ok (.iload 10, 2) := by decide +kernel
theorem dX12_search_125 : decode cX12_search 125 = .ok (.iadd, 1) := by decide +kernel
theorem dX12_search_126 : decode cX12_search 126 = .ok (.iaload, 1) := by decide +kernel
theorem dX12_search_127 : decode cX12_search 127 = .ok (.i2l, 1) := by decide +kernel
theorem dX12_search_128 : decode cX12_search 128 = .ok (.lcmp, 1) := by decide +kernel
theorem dX12_search_129 : decode cX12_search 129 = .ok (.ifCond .lt 25, 3) := by decide +kernel
theorem dX12_search_132 : decode cX12_search 132 = .ok (.lload 8, 2) := by decide +kernel
theorem dX12_search_134 : decode cX12_search 134 = .ok (.aload_n 0, 1) := by decide +kernel
theorem dX12_search_135 : decode cX12_search 135 = .ok (.getfield 19, 3) := by decide +kernel
theorem dX12_search_138 : decode cX12_search 138 = .ok (.bipush 12, 2) := by decide +kernel
theorem dX12_search_140 : decode cX12_search 140 = .ok (.iload 10, 2) := by decide +kernel
theorem dX12_search_142 : decode cX12_search 142 = .ok (.iadd, 1) := by decide +kernel
theorem dX12_search_143 : decode cX12_search 143 = .ok (.iaload, 1) := by decide +kernel
theorem dX12_search_144 : decode cX12_search 144 = .ok (.i2l, 1) := by decide +kernel
theorem dX12_search_145 : decode cX12_search 145 = .ok (.lsub, 1) := by decide +kernel
theorem dX12_search_146 : decode cX12_search 146 = .ok (.lstore 8, 2) := by decide +kernel
theorem dX12_search_148 : decode cX12_search 148 = .ok (.iinc 10 1, 3) := by decide +kernel
theorem dX12_search_151 : decode cX12_search 151 = .ok (.goto (-43), 3) := by decide +kernel
theorem dX12_search_154 : decode cX12_search 154 = .ok (.iconst 0, 1) := by decide +kernel
theorem dX12_search_155 : decode cX12_search 155 = .ok (.istore 11, 2) := by decide +kernel
theorem dX12_search_157 : decode cX12_search 157 = .ok (.iload 11, 2) := by decide +kernel
theorem dX12_search_159 : decode cX12_search 159 = .ok (.bipush 40, 2) := by decide +kernel
theorem dX12_search_161 : decode cX12_search 161 = .ok (.if_icmp .ge 93, 3) := by decide +kernel
theorem dX12_search_164 : decode cX12_search 164 = .ok (.iload 11, 2) := by decide +kernel
theorem dX12_search_166 : decode cX12_search 166 = .ok (.iload 4, 2) := by decide +kernel
theorem dX12_search_168 : decode cX12_search 168 = .ok (.irem, 1) := by decide +kernel
theorem dX12_search_169 : decode cX12_search 169 = .ok (.istore 12, 2) := by decide +kernel
theorem dX12_search_171 : decode cX12_search 171 = .ok (.lload 6, 2) := by decide +kernel
theorem dX12_search_173 : decode cX12_search 173 = .ok (.ldc2_w 253, 3) := by decide +kernel
theorem dX12_search_176 : decode cX12_search 176 = .ok (.lmul, 1) := by decide +kernel
theorem dX12_search_177 : decode cX12_search 177 = .ok (.ldc2_w 255, 3) := by decide +kernel
theorem dX12_search_180 : decode cX12_search 180 = .ok (.lrem, 1) := by decide +kernel
theorem dX12_search_181 : decode cX12_search 181 = .ok (.lstore 6, 2) := by decide +kernel
theorem dX12_search_183 : decode cX12_search 183 = .ok (.iload 12, 2) := by decide +kernel
theorem dX12_search_185 : decode cX12_search 185 = .ok (.iload 10, 2) := by decide +kernel
theorem dX12_search_187 : decode cX12_search 187 = .ok (.if_icmp .ne 12, 3) := by decide +kernel
theorem dX12_search_190 : decode cX12_search 190 = .ok (.aload_n 0, 1) := by decide +kernel
theorem dX12_search_191 : decode cX12_search 191 = .ok (.iload_n 1, 1) := by decide +kernel
theorem dX12_search_192 : decode cX12_search 192 = .ok (.iconst 1, 1) := by decide +kernel
theorem dX12_search_193 : decode cX12_search 193 = .ok (.invokevirtual 162, 3) := by decide +kernel
theorem dX12_search_196 : decode cX12_search 196 = .ok (.goto 13, 3) := by decide +kernel
theorem dX12_search_199 : decode cX12_search 199 = .ok (.aload_n 0, 1) := by decide +kernel
theorem dX12_search_200 : decode cX12_search 200 = .ok (.getfield 19, 3) := by decide +kernel
theorem dX12_search_203 : decode cX12_search 203 = .ok (.bipush 24, 2) := by decide +kernel
theorem dX12_search_205 : decode cX12_search 205 = .ok (.iload 12, 2) := by decide +kernel
theorem dX12_search_207 : decode cX12_search 207 = .ok (.iadd, 1) := by decide +kernel
theorem dX12_search_208 : decode cX12_search 208 = .ok (.iaload, 1) := by decide +kernel
theorem dX12_search_209 : decode cX12_search 209 = .ok (.istore 13, 2) := by decide +kernel
theorem dX12_search_211 : decode cX12_search 211 = .ok (.lload 6, 2) := by decide +kernel
theorem dX12_search_213 : decode cX12_search 213 = .ok (.ldc2_w 203, 3) := by decide +kernel
theorem dX12_search_216 : decode cX12_search 216 = .ok (.lrem, 1) := by decide +kernel
theorem dX12_search_217 : decode cX12_search 217 = .ok (.iload 13, 2) := by decide +kernel
theorem dX12_search_219 : decode cX12_search 219 = .ok (.i2l, 1) := by decide +kernel
theorem dX12_search_220 : decode cX12_search 220 = .ok (.lcmp, 1) := by decide +kernel
theorem dX12_search_221 : decode cX12_search 221 = .ok (.ifCond .ge 27, 3) := by decide +kernel
theorem dX12_search_224 : decode cX12_search 224 = .ok (.iload_n 3, 1) := by decide +kernel
theorem dX12_search_225 : decode cX12_search 225 = .ok (.ifCond .ne 10, 3) := by decide +kernel
theorem dX12_search_228 : decode cX12_search 228 = .ok (.iload 11, 2) := by decide +kernel
theorem dX12_search_230 : decode cX12_search 230 = .ok (.iconst 1, 1) := by decide +kernel
theorem dX12_search_231 : decode cX12_search 231 = .ok (.iadd, 1) := by decide +kernel
theorem dX12_search_232 : decode cX12_search 232 = .ok (.goto 15, 3) := by decide +kernel
theorem dX12_search_235 : decode cX12_search 235 = .ok (.iload 12, 2) := by decide +kernel
theorem dX12_search_237 : decode cX12_search 237 = .ok (.iload 10, 2) := by decide +kernel
theorem dX12_search_239 : decode cX12_search 239 = .ok (.if_icmp .ne 7, 3) := by decide +kernel
theorem dX12_search_242 : decode cX12_search 242 = .ok (.iconst 1, 1) := by decide +kernel
theorem dX12_search_243 : decode cX12_search 243 = .ok (.goto 4, 3) := by decide +kernel
theorem dX12_search_246 : decode cX12_search 246 = .ok (.iconst 0, 1) := by decide +kernel
theorem dX12_search_247 : decode cX12_search 247 = .ok (.ireturn, 1) := by decide +kernel
theorem dX12_search_248 : decode cX12_search 248 = .ok (.iinc 11 1, 3) := by decide +kernel
theorem dX12_search_251 : decode cX12_search 251 = .ok (.goto (-94), 3) := by decide +kernel
theorem dX12_search_254 : decode cX12_search 254 = .ok (.ldc 97, 2) := by decide +kernel
theorem dX12_search_256 : decode cX12_search 256 = .ok (.ireturn, 1) := by decide +kernel
theorem dX12_image_0 : decode cX12_image 0 = .ok (.aload_n 0, 1) := by decide +kernel
theorem dX12_image_1 : decode cX12_image 1 = .ok (.iconst 0, 1) := by decide +kernel
theorem dX12_image_2 : decode cX12_image 2 = .ok (.putfield 54, 3) := by decide +kernel
theorem dX12_image_5 : decode cX12_image 5 = .ok (.iload_n 1, 1) := by decide +kernel
theorem dX12_image_6 : decode cX12_image 6 = .ok (.i2l, 1) := by decide +kernel
theorem dX12_image_7 : decode cX12_image 7 = .ok (.lconst 0, 1) := by decide +kernel
theorem dX12_image_8 : decode cX12_image 8 = .ok (.lconst 1, 1) := by decide +kernel
theorem dX12_image_9 : decode cX12_image 9 = .ok (.invokestatic 64, 3) := by decide +kernel
theorem dX12_image_12 : decode cX12_image 12 = .ok (.ifCond .ne 6, 3) := by decide +kernel
theorem dX12_image_15 : decode cX12_image 15 = .ok (.ldc 74, 2) := by decide +kernel
theorem dX12_image_17 : decode cX12_image 17 = .ok (.ireturn, 1) := by decide +kernel
theorem dX12_image_18 : decode cX12_image 18 = .ok (.aload_n 0, 1) := by decide +kernel
theorem dX12_image_19 : decode cX12_image 19 = .ok (.invokevirtual 176, 3) := by decide +kernel
theorem dX12_image_22 : decode cX12_image 22 = .ok (.ifCond .ne 6, 3) := by decide +kernel
theorem dX12_image_25 : decode cX12_image 25 = .ok (.ldc 172, 2) := by decide +kernel
theorem dX12_image_27 : decode cX12_image 27 = .ok (.ireturn, 1) := by decide +kernel
theorem dX12_image_28 : decode cX12_image 28 = .ok (.iconst 0, 1) := by decide +kernel
theorem dX12_image_29 : decode cX12_image 29 = .ok (.istore_n 2, 1) := by decide +kernel
theorem dX12_image_30 : decode cX12_image 30 = .ok (.iload_n 2, 1) := by decide +kernel
theorem dX12_image_31 : decode cX12_image 31 = .ok (.bipush 48, 2) := by decide +kernel
theorem dX12_image_33 : decode cX12_image 33 = .ok (.if_icmp .ge 26, 3) := by decide +kernel
theorem dX12_image_36 : decode cX12_image 36 = .ok (.aload_n 0, 1) := by decide +kernel
theorem dX12_image_37 : decode cX12_image 37 = .ok (.getfield 45, 3) := by decide +kernel
theorem dX12_image_40 : decode cX12_image 40 = .ok (.bipush 48, 2) := by decide +kernel
theorem dX12_image_42 : decode cX12_image 42 = .ok (.iload_n 1, 1) := by decide +kernel
theorem dX12_image_43 : decode cX12_image 43 = .ok (.imul, 1) := by decide +kernel
theorem dX12_image_44 : decode cX12_image 44 = .ok (.iload_n 2, 1) := by decide +kernel
theorem dX12_image_45 : decode cX12_image 45 = .ok (.iadd, 1) := by decide +kernel
theorem dX12_image_46 : decode cX12_image 46 = .ok (.aload_n 0, 1) := by decide +kernel
theorem dX12_image_47 : decode cX12_image 47 = .ok (.getfield 19, 3) := by decide +kernel
theorem dX12_image_50 : decode cX12_image 50 = .ok (.iload_n 2, 1) := by decide +kernel
theorem dX12_image_51 : decode cX12_image 51 = .ok (.iaload, 1) := by decide +kernel
theorem dX12_image_52 : decode cX12_image 52 = .ok (.iastore, 1) := by decide +kernel
theorem dX12_image_53 : decode cX12_image 53 = .ok (.iinc 2 1, 3) := by decide +kernel
theorem dX12_image_56 : decode cX12_image 56 = .ok (.goto (-26), 3) := by decide +kernel
theorem dX12_image_59 : decode cX12_image 59 = .ok (.iconst 0, 1) := by decide +kernel
theorem dX12_image_60 : decode cX12_image 60 = .ok (.istore_n 2, 1) := by decide +kernel
theorem dX12_image_61 : decode cX12_image 61 = .ok (.iload_n 2, 1) := by decide +kernel
theorem dX12_image_62 : decode cX12_image 62 = .ok (.bipush 13, 2) := by decide +kernel
theorem dX12_image_64 : decode cX12_image 64 = .ok (.if_icmp .ge 26, 3) := by decide +kernel
theorem dX12_image_67 : decode cX12_image 67 = .ok (.aload_n 0, 1) := by decide +kernel
theorem dX12_image_68 : decode cX12_image 68 = .ok (.getfield 48, 3) := by decide +kernel
theorem dX12_image_71 : decode cX12_image 71 = .ok (.bipush 13, 2) := by decide +kernel
theorem dX12_image_73 : decode cX12_image 73 = .ok (.iload_n 1, 1) := by decide +kernel
theorem dX12_image_74 : decode cX12_image 74 = .ok (.imul, 1) := by decide +kernel
theorem dX12_image_75 : decode cX12_image 75 = .ok (.iload_n 2, 1) := by decide +kernel
theorem dX12_image_76 : decode cX12_image 76 = .ok (.iadd, 1) := by decide +kernel
theorem dX12_image_77 : decode cX12_image 77 = .ok (.aload_n 0, 1) := by decide +kernel
theorem dX12_image_78 : decode cX12_image 78 = .ok (.getfield 25, 3) := by decide +kernel
theorem dX12_image_81 : decode cX12_image 81 = .ok (.iload_n 2, 1) := by decide +kernel
theorem dX12_image_82 : decode cX12_image 82 = .ok (.laload, 1) := by decide +kernel
theorem dX12_image_83 : decode cX12_image 83 = .ok (.lastore, 1) := by decide +kernel
theorem dX12_image_84 : decode cX12_image 84 = .ok (.iinc 2 1, 3) := by decide +kernel
theorem dX12_image_87 : decode cX12_image 87 = .ok (.goto (-26), 3) := by decide +kernel
theorem dX12_image_90 : decode cX12_image 90 = .ok (.aload_n 0, 1) := by decide +kernel
theorem dX12_image_91 : decode cX12_image 91 = .ok (.getfield 41, 3) := by decide +kernel
theorem dX12_image_94 : decode cX12_image 94 = .ok (.iload_n 1, 1) := by decide +kernel
theorem dX12_image_95 : decode cX12_image 95 = .ok (.iconst 1, 1) := by decide +kernel
theorem dX12_image_96 : decode cX12_image 96 = .ok (.bastore, 1) := by decide +kernel
theorem dX12_image_97 : decode cX12_image 97 = .ok (.iconst 1, 1) := by decide +kernel
theorem dX12_image_98 : decode cX12_image 98 = .ok (.ireturn, 1) := by decide +kernel
theorem dX12_restore_0 : decode cX12_restore 0 = .ok (.aload_n 0, 1) := by decide +kernel
theorem dX12_restore_1 : decode cX12_restore 1 = .ok (.iconst 0, 1) := by decide +kernel
theorem dX12_restore_2 : decode cX12_restore 2 = .ok (.putfield 54, 3) := by decide +kernel
theorem dX12_restore_5 : decode cX12_restore 5 = .ok (.iload_n 1, 1) := by decide +kernel
theorem dX12_restore_6 : decode cX12_restore 6 = .ok (.i2l, 1) := by decide +kernel
theorem dX12_restore_7 : decode cX12_restore 7 = .ok (.lconst 0, 1) := by decide +kernel
theorem dX12_restore_8 : decode cX12_restore 8 = .ok (.lconst 1, 1) := by decide +kernel
theorem dX12_restore_9 : decode cX12_restore 9 = .ok (.invokestatic 64, 3) := by decide +kernel
theorem dX12_restore_12 : decode cX12_restore 12 = .ok (.ifCond .ne 6, 3) := by decide +kernel
theorem dX12_restore_15 : decode cX12_restore 15 = .ok (.ldc 74, 2) := by decide +kernel
theorem dX12_restore_17 : decode cX12_restore 17 = .ok (.ireturn, 1) := by decide +kernel
theorem dX12_restore_18 : decode cX12_restore 18 = .ok (.aload_n 0, 1) := by decide +kernel
theorem dX12_restore_19 : decode cX12_restore 19 = .ok (.getfield 41, 3) := by decide +kernel
theorem dX12_restore_22 : decode cX12_restore 22 = .ok (.iload_n 1, 1) := by decide +kernel
theorem dX12_restore_23 : decode cX12_restore 23 = .ok (.baload, 1) := by decide +kernel
theorem dX12_restore_24 : decode cX12_restore 24 = .ok (.ifCond .ne 6, 3) := by decide +kernel
theorem dX12_restore_27 : decode cX12_restore 27 = .ok (.ldc 172, 2) := by decide +kernel
theorem dX12_restore_29 : decode cX12_restore 29 = .ok (.ireturn, 1) := by decide +kernel
theorem dX12_restore_30 : decode cX12_restore 30 = .ok (.iconst 0, 1) := by decide +kernel
theorem dX12_restore_31 : decode cX12_restore 31 = .ok (.istore_n 2, 1) := by decide +kernel
theorem dX12_restore_32 : decode cX12_restore 32 = .ok (.iload_n 2, 1) := by decide +kernel
theorem dX12_restore_33 : decode cX12_restore 33 = .ok (.bipush 48, 2) := by decide +kernel
theorem dX12_restore_35 : decode cX12_restore 35 = .ok (.if_icmp .ge 26, 3) := by decide +kernel
theorem dX12_restore_38 : decode cX12_restore 38 = .ok (.aload_n 0, 1) := by decide +kernel
theorem dX12_restore_39 : decode cX12_restore 39 = .ok (.getfield 19, 3) := by decide +kernel
theorem dX12_restore_42 : decode cX12_restore 42 = .ok (.iload_n 2, 1) := by decide +kernel
theorem dX12_restore_43 : decode cX12_restore 43 = .ok (.aload_n 0, 1) := by decide +kernel
theorem dX12_restore_44 : decode cX12_restore 44 = .ok (.getfield 45, 3) := by decide +kernel
theorem dX12_restore_47 : decode cX12_restore 47 = .ok (.bipush 48, 2) := by decide +kernel
theorem dX12_restore_49 : decode cX12_restore 49 = .ok (.iload_n 1, 1) := by decide +kernel
theorem dX12_restore_50 : decode cX12_restore 50 = .ok (.imul, 1) := by decide +kernel
theorem dX12_restore_51 : decode cX12_restore 51 = .ok (.iload_n 2, 1) := by decide +kernel
theorem dX12_restore_52 : decode cX12_restore 52 = .ok (.iadd, 1) := by decide +kernel
theorem dX12_restore_53 : decode cX12_restore 53 = .ok (.iaload, 1) := by decide +kernel
theorem dX12_restore_54 : decode cX12_restore 54 = .ok (.iastore, 1) := by decide +kernel
theorem dX12_restore_55 : decode cX12_restore 55 = .ok (.iinc 2 1, 3) := by decide +kernel
theorem dX12_restore_58 : decode cX12_restore 58 = .ok (.goto (-26), 3) := by decide +kernel
theorem dX12_restore_61 : decode cX12_restore 61 = .ok (.iconst 0, 1) := by decide +kernel
theorem dX12_restore_62 : decode cX12_restore 62 = .ok (.istore_n 2, 1) := by decide +kernel
theorem dX12_restore_63 : decode cX12_restore 63 = .ok (.iload_n 2, 1) := by decide +kernel
theorem dX12_restore_64 : decode cX12_restore 64 = .ok (.bipush 13, 2) := by decide +kernel
theorem dX12_restore_66 : decode cX12_restore 66 = .ok (.if_icmp .ge 26, 3) := by decide +kernel
theorem dX12_restore_69 : decode cX12_restore 69 = .ok (.aload_n 0, 1) := by decide +kernel
theorem dX12_restore_70 : decode cX12_restore 70 = .ok (.getfield 25, 3) := by decide +kernel
theorem dX12_restore_73 : decode cX12_restore 73 = .ok (.iload_n 2, 1) := by decide +kernel
theorem dX12_restore_74 : decode cX12_restore 74 = .ok (.aload_n 0, 1) := by decide +kernel
theorem dX12_restore_75 : decode cX12_restore 75 = .ok (.getfield 48, 3) := by decide +kernel
theorem dX12_restore_78 : decode cX12_restore 78 = .ok (.bipush 13, 2) := by decide +kernel
theorem dX12_restore_80 : decode cX12_restore 80 = .ok (.iload_n 1, 1) := by decide +kernel
theorem dX12_restore_81 : decode cX12_restore 81 = .ok (.imul, 1) := by decide +kernel
theorem dX12_restore_82 : decode cX12_restore 82 = .ok (.iload_n 2, 1) := by decide +kernel
theorem dX12_restore_83 : decode cX12_restore 83 = .ok (.iadd, 1) := by decide +kernel
theorem dX12_restore_84 : decode cX12_restore 84 = .ok (.laload, 1) := by decide +kernel
theorem dX12_restore_85 : decode cX12_restore 85 = .ok (.lastore, 1) := by decide +kernel
theorem dX12_restore_86 : decode cX12_restore 86 = .ok (.iinc 2 1, 3) := by decide +kernel
theorem dX12_restore_89 : decode cX12_restore 89 = .ok (.goto (-26), 3) := by decide +kernel
theorem dX12_restore_92 : decode cX12_restore 92 = .ok (.aload_n 0, 1) := by decide +kernel
theorem dX12_restore_93 : decode cX12_restore 93 = .ok (.iconst 0, 1) := by decide +kernel
theorem dX12_restore_94 : decode cX12_restore 94 = .ok (.putfield 156, 3) := by decide +kernel
theorem dX12_restore_97 : decode cX12_restore 97 = .ok (.iconst 1, 1) := by decide +kernel
theorem dX12_restore_98 : decode cX12_restore 98 = .ok (.ireturn, 1) := by decide +kernel
theorem dX12_isOf_0 : decode cX12_isOf 0 = .ok (.iload_n 1, 1) := by decide +kernel
theorem dX12_isOf_1 : decode cX12_isOf 1 = .ok (.ifCond .eq 28, 3) := by decide +kernel
theorem dX12_isOf_4 : decode cX12_isOf 4 = .ok (.iload_n 0, 1) := by decide +kernel
theorem dX12_isOf_5 : decode cX12_isOf 5 = .ok (.iload_n 1, 1) := by decide +kernel
theorem dX12_isOf_6 : decode cX12_isOf 6 = .ok (.if_icmp .eq 23, 3) := by decide +kernel
theorem dX12_isOf_9 : decode cX12_isOf 9 = .ok (.iload_n 1, 1) := by decide +kernel
theorem dX12_isOf_10 : decode cX12_isOf 10 = .ok (.iconst 1, 1) := by decide +kernel
theorem dX12_isOf_11 : decode cX12_isOf 11 = .ok (.if_icmp .ne 8, 3) := by decide +kernel
theorem dX12_isOf_14 : decode cX12_isOf 14 = .ok (.iload_n 0, 1) := by decide +kernel
theorem dX12_isOf_15 : decode cX12_isOf 15 = .ok (.iconst 4, 1) := by decide +kernel
theorem dX12_isOf_16 : decode cX12_isOf 16 = .ok (.if_icmp .lt 13, 3) := by decide +kernel
theorem dX12_isOf_19 : decode cX12_isOf 19 = .ok (.iload_n 1, 1) := by decide +kernel
theorem dX12_isOf_20 : decode cX12_isOf 20 = .ok (.iconst 4, 1) := by decide +kernel
theorem dX12_isOf_21 : decode cX12_isOf 21 = .ok (.if_icmp .ne 12, 3) := by decide +kernel
theorem dX12_isOf_24 : decode cX12_isOf 24 = .ok (.iload_n 0, 1) := by decide +kernel
theorem dX12_isOf_25 : decode cX12_isOf 25 = .ok (.iconst 5, 1) := by decide +kernel
theorem dX12_isOf_26 : decode cX12_isOf 26 = .ok (.if_icmp .ne 7, 3) := by decide +kernel
theorem dX12_isOf_29 : decode cX12_isOf 29 = .ok (.iconst 1, 1) := by decide +kernel
theorem dX12_isOf_30 : decode cX12_isOf 30 = .ok (.goto 4, 3) := by decide +kernel
theorem dX12_isOf_33 : decode cX12_isOf 33 = .ok (.iconst 0, 1) := by decide +kernel
theorem dX12_isOf_34 : decode cX12_isOf 34 = .ok (.ireturn, 1) := by decide +kernel
theorem dX12_kind_0 : decode cX12_kind 0 = .ok (.aload_n 0, 1) := by decide +kernel
theorem dX12_kind_1 : decode cX12_kind 1 = .ok (.iconst 0, 1) := by decide +kernel
theorem dX12_kind_2 : decode cX12_kind 2 = .ok (.putfield 54, 3) := by decide +kernel
theorem dX12_kind_5 : decode cX12_kind 5 = .ok (.aload_n 0, 1) := by decide +kernel
theorem dX12_kind_6 : decode cX12_kind 6 = .ok (.iload_n 1, 1) := by decide +kernel
theorem dX12_kind_7 : decode cX12_kind 7 = .ok (.invokevirtual 165, 3) := by decide +kernel
theorem dX12_kind_10 : decode cX12_kind 10 = .ok (.ifCond .eq 12, 3) := by decide +kernel
theorem dX12_kind_13 : decode cX12_kind 13 = .ok (.aload_n 0, 1) := by decide +kernel
theorem dX12_kind_14 : decode cX12_kind 14 = .ok (.iload_n 1, 1) := by decide +kernel
theorem dX12_kind_15 : decode cX12_kind 15 = .ok (.iconst 0, 1) := by decide +kernel
theorem dX12_kind_16 : decode cX12_kind 16 = .ok (.invokevirtual 159, 3) := by decide +kernel
theorem dX12_kind_19 : decode cX12_kind 19 = .ok (.goto 5, 3) := by decide +kernel
theorem dX12_kind_22 : decode cX12_kind 22 = .ok (.ldc 74, 2) := by decide +kernel
theorem dX12_kind_24 : decode cX12_kind 24 = .ok (.ireturn, 1) := by decide +kernel
theorem dX12_as_0 : decode cX12_as 0 = .ok (.aload_n 0, 1) := by decide +kernel
theorem dX12_as_1 : decode cX12_as 1 = .ok (.iconst 0, 1) := by decide +kernel
theorem dX12_as_2 : decode cX12_as 2 = .ok (.putfield 54, 3) := by decide +kernel
theorem dX12_as_5 : decode cX12_as 5 = .ok (.aload_n 0, 1) := by decide +kernel
theorem dX12_as_6 : decode cX12_as 6 = .ok (.iload_n 1, 1) := by decide +kernel
theorem dX12_as_7 : decode cX12_as 7 = .ok (.invokevirtual 165, 3) := by decide +kernel
theorem dX12_as_10 : decode cX12_as 10 = .ok (.ifCond .eq 15, 3) := by decide +kernel
theorem dX12_as_13 : decode cX12_as 13 = .ok (.iload_n 2, 1) := by decide +kernel
theorem dX12_as_14 : decode cX12_as 14 = .ok (.i2l, 1) := by decide +kernel
theorem dX12_as_15 : decode cX12_as 15 = .ok (.lconst 0, 1) := by decide +kernel
theorem dX12_as_16 : decode cX12_as 16 = .ok (.ldc2_w 197, 3) := by decide +kernel
theorem dX12_as_19 : decode cX12_as 19 = .ok (.invokestatic 64, 3) := by decide +kernel
theorem dX12_as_22 : decode cX12_as 22 = .ok (.ifCond .ne 6, 3) := by decide +kernel
theorem dX12_as_25 : decode cX12_as 25 = .ok (.ldc 74, 2) := by decide +kernel
theorem dX12_as_27 : decode cX12_as 27 = .ok (.ireturn, 1) := by decide +kernel
theorem dX12_as_28 : decode cX12_as 28 = .ok (.aload_n 0, 1) := by decide +kernel
theorem dX12_as_29 : decode cX12_as 29 = .ok (.iconst 0, 1) := by decide +kernel
theorem dX12_as_30 : decode cX12_as 30 = .ok (.putfield 58, 3) := by decide +kernel
theorem dX12_as_33 : decode cX12_as 33 = .ok (.aload_n 0, 1) := by decide +kernel
theorem dX12_as_34 : decode cX12_as 34 = .ok (.iload_n 1, 1) := by decide +kernel
theorem dX12_as_35 : decode cX12_as 35 = .ok (.iconst 0, 1) := by decide +kernel
theorem dX12_as_36 : decode cX12_as 36 = .ok (.invokevirtual 159, 3) := by decide +kernel
theorem dX12_as_39 : decode cX12_as 39 = .ok (.iload_n 2, 1) := by decide +kernel
theorem dX12_as_40 : decode cX12_as 40 = .ok (.invokestatic 257, 3) := by decide +kernel
theorem dX12_as_43 : decode cX12_as 43 = .ok (.ifCond .eq 7, 3) := by decide +kernel
theorem dX12_as_46 : decode cX12_as 46 = .ok (.iload_n 1, 1) := by decide +kernel
theorem dX12_as_47 : decode cX12_as 47 = .ok (.goto 8, 3) := by decide +kernel
theorem dX12_as_50 : decode cX12_as 50 = .ok (.aload_n 0, 1) := by decide +kernel
theorem dX12_as_51 : decode cX12_as 51 = .ok (.iconst 3, 1) := by decide +kernel
theorem dX12_as_52 : decode cX12_as 52 = .ok (.invokevirtual 75, 3) := by decide +kernel
theorem dX12_as_55 : decode cX12_as 55 = .ok (.ireturn, 1) := by decide +kernel
theorem dX12_began_0 : decode cX12_began 0 = .ok (.aload_n 0, 1) := by decide +kernel
theorem dX12_began_1 : decode cX12_began 1 = .ok (.getfield 261, 3) := by decide +kernel
theorem dX12_began_4 : decode cX12_began 4 = .ok (.bipush 16, 2) := by decide +kernel
theorem dX12_began_6 : decode cX12_began 6 = .ok (.if_icmp .ge 23, 3) := by decide +kernel
theorem dX12_began_9 : decode cX12_began 9 = .ok (.aload_n 0, 1) := by decide +kernel
theorem dX12_began_10 : decode cX12_began 10 = .ok (.getfield 51, 3) := by decide +kernel
theorem dX12_began_13 : decode cX12_began 13 = .ok (.aload_n 0, 1) := by decide +kernel
theorem dX12_began_14 : decode cX12_began 14 = .ok (.getfield 261, 3) := by decide +kernel
theorem dX12_began_17 : decode cX12_began 17 = .ok (.iload_n 1, 1) := by decide +kernel
theorem dX12_began_18 : decode cX12_began 18 = .ok (.iastore, 1) := by decide +kernel
theorem dX12_began_19 : decode cX12_began 19 = .ok (.aload_n 0, 1) := by decide +kernel
theorem dX12_began_20 : decode cX12_began 20 = .ok (.dup, 1) := by decide +kernel
theorem dX12_began_21 : decode cX12_began 21 = .ok (.getfield 261, 3) := by decide +kernel
theorem dX12_began_24 : decode cX12_began 24 = .ok (.iconst 1, 1) := by decide +kernel
theorem dX12_began_25 : decode cX12_began 25 = .ok (.iadd, 1) := by decide +kernel
theorem dX12_began_26 : decode cX12_began 26 = .ok (.putfield 261, 3) := by decide +kernel
theorem dX12_began_29 : decode cX12_began 29 = .ok (.return_, 1) := by decide +kernel
theorem dX12_plainSize_0 : decode cX12_plainSize 0 = .ok (.aload_n 0, 1) := by decide +kernel
theorem dX12_plainSize_1 : decode cX12_plainSize 1 = .ok (.bipush 10, 2) := by decide +kernel
theorem dX12_plainSize_3 : decode cX12_plainSize 3 = .ok (.invokevirtual 264, 3) := by decide +kernel
theorem dX12_plainSize_6 : decode cX12_plainSize 6 = .ok (.aload_n 0, 1) := by decide +kernel
theorem dX12_plainSize_7 : decode cX12_plainSize 7 = .ok (.iload_n 1, 1) := by decide +kernel
theorem dX12_plainSize_8 : decode cX12_plainSize 8 = .ok (.iconst 1, 1) := by decide +kernel
theorem dX12_plainSize_9 : decode cX12_plainSize 9 = .ok (.invokevirtual 159, 3) := by decide +kernel
theorem dX12_plainSize_12 : decode cX12_plainSize 12 = .ok (.ireturn, 1) := by decide +kernel
theorem dX12_likeSize_0 : decode cX12_likeSize 0 = .ok (.aload_n 0, 1) := by decide +kernel
theorem dX12_likeSize_1 : decode cX12_likeSize 1 = .ok (.iload_n 1, 1) := by decide +kernel
theorem dX12_likeSize_2 : decode cX12_likeSize 2 = .ok (.iconst 0, 1) := by decide +kernel
theorem dX12_likeSize_3 : decode cX12_likeSize 3 = .ok (.invokevirtual 159, 3) := by decide +kernel
theorem dX12_likeSize_6 : decode cX12_likeSize 6 = .ok (.iconst 5, 1) := by decide +kernel
theorem dX12_likeSize_7 : decode cX12_likeSize 7 = .ok (.if_icmp .ne 9, 3) := by decide +kernel
theorem dX12_likeSize_10 : decode cX12_likeSize 10 = .ok (.aload_n 0, 1) := by decide +kernel
theorem dX12_likeSize_11 : decode cX12_likeSize 11 = .ok (.bipush 14, 2) := by decide +kernel
theorem dX12_likeSize_13 : decode cX12_likeSize 13 = .ok (.invokevirtual 264, 3) := by decide +kernel
theorem dX12_likeSize_16 : decode cX12_likeSize 16 = .ok (.aload_n 0, 1) := by decide +kernel
theorem dX12_likeSize_17 : decode cX12_likeSize 17 = .ok (.bipush 13, 2) := by decide +kernel
theorem dX12_likeSize_19 : decode cX12_likeSize 19 = .ok (.invokevirtual 264, 3) := by decide +kernel
theorem dX12_likeSize_22 : decode cX12_likeSize 22 = .ok (.aload_n 0, 1) := by decide +kernel
theorem dX12_likeSize_23 : decode cX12_likeSize 23 = .ok (.iload_n 1, 1) := by decide +kernel
theorem dX12_likeSize_24 : decode cX12_likeSize 24 = .ok (.invokevirtual 267, 3) := by decide +kernel
theorem dX12_likeSize_27 : decode cX12_likeSize 27 = .ok (.bipush 100, 2) := by decide +kernel
theorem dX12_likeSize_29 : decode cX12_likeSize 29 = .ok (.isub, 1) := by decide +kernel
theorem dX12_likeSize_30 : decode cX12_likeSize 30 = .ok (.istore_n 2, 1) := by decide +kernel
theorem dX12_likeSize_31 : decode cX12_likeSize 31 = .ok (.aload_n 0, 1) := by decide +kernel
theorem dX12_likeSize_32 : decode cX12_likeSize 32 = .ok (.iload_n 1, 1) := by decide +kernel
theorem dX12_likeSize_33 : decode cX12_likeSize 33 = .ok (.iconst 0, 1) := by decide +kernel
theorem dX12_likeSize_34 : decode cX12_likeSize 34 = .ok (.invokevirtual 159, 3) := by decide +kernel
theorem dX12_likeSize_37 : decode cX12_likeSize 37 = .ok (.iconst 5, 1) := by decide +kernel
theorem dX12_likeSize_38 : decode cX12_likeSize 38 = .ok (.if_icmp .ne 9, 3) := by decide +kernel
theorem dX12_likeSize_41 : decode cX12_likeSize 41 = .ok (.iconst 2, 1) := by decide +kernel
theorem dX12_likeSize_42 : decode cX12_likeSize 42 = .ok (.iload_n 2, 1) := by decide +kernel
theorem dX12_likeSize_43 : decode cX12_likeSize 43 = .ok (.imul, 1) := by decide +kernel
theorem dX12_likeSize_44 : decode cX12_likeSize 44 = .ok (.goto 4, 3) := by decide +kernel
theorem dX12_likeSize_47 : decode cX12_likeSize 47 = .ok (.iload_n 2, 1) := by decide +kernel
theorem dX12_likeSize_48 : decode cX12_likeSize 48 = .ok (.ireturn, 1) := by decide +kernel
theorem dX12_markOf_0 : decode cX12_markOf 0 = .ok (.aload_n 0, 1) := by decide +kernel
theorem dX12_markOf_1 : decode cX12_markOf 1 = .ok (.iload_n 1, 1) := by decide +kernel
theorem dX12_markOf_2 : decode cX12_markOf 2 = .ok (.iconst 0, 1) := by decide +kernel
theorem dX12_markOf_3 : decode cX12_markOf 3 = .ok (.invokevirtual 159, 3) := by decide +kernel
theorem dX12_markOf_6 : decode cX12_markOf 6 = .ok (.istore_n 2, 1) := by decide +kernel
theorem dX12_markOf_7 : decode cX12_markOf 7 = .ok (.iload_n 2, 1) := by decide +kernel
theorem dX12_markOf_8 : decode cX12_markOf 8 = .ok (.iconst 4, 1) := by decide +kernel
theorem dX12_markOf_9 : decode cX12_markOf 9 = .ok (.if_icmp .lt 23, 3) := by decide +kernel
theorem dX12_markOf_12 : decode cX12_markOf 12 = .ok (.aload_n 0, 1) := by decide +kernel
theorem dX12_markOf_13 : decode cX12_markOf 13 = .ok (.bipush 23, 2) := by decide +kernel
theorem dX12_markOf_15 : decode cX12_markOf 15 = .ok (.invokevirtual 264, 3) := by decide +kernel
theorem dX12_markOf_18 : decode cX12_markOf 18 = .ok (.aload_n 0, 1) := by decide +kernel
theorem dX12_markOf_19 : decode cX12_markOf 19 = .ok (.bipush 20, 2) := by decide +kernel
theorem dX12_markOf_21 : decode cX12_markOf 21 = .ok (.invokevirtual 264, 3) := by decide +kernel
theorem dX12_markOf_24 : decode cX12_markOf 24 = .ok (.iload_n 1, 1) := by decide +kernel
theorem dX12_markOf_25 : decode cX12_markOf 25 = .ok (.aload_n 0, 1) := by decide +kernel
theorem dX12_markOf_26 : decode cX12_markOf 26 = .ok (.iload_n 1, 1) := by decide +kernel
theorem dX12_markOf_27 : decode cX12_markOf 27 = .ok (.invokevirtual 270, 3) := by decide +kernel
theorem dX12_markOf_30 : decode cX12_markOf 30 = .ok (.isub, 1) := by decide +kernel
theorem dX12_markOf_31 : decode cX12_markOf 31 = .ok (.ireturn, 1) := by decide +kernel
theorem dX12_markOf_32 : decode cX12_markOf 32 = .ok (.iload_n 2, 1) := by decide +kernel
theorem dX12_markOf_33 : decode cX12_markOf 33 = .ok (.iconst 1, 1) := by decide +kernel
theorem dX12_markOf_34 : decode cX12_markOf 34 = .ok (.if_icmp .eq 19, 3) := by decide +kernel
theorem dX12_markOf_37 : decode cX12_markOf 37 = .ok (.aload_n 0, 1) := by decide +kernel
theorem dX12_markOf_38 : decode cX12_markOf 38 = .ok (.iload_n 2, 1) := by decide +kernel
theorem dX12_markOf_39 : decode cX12_markOf 39 = .ok (.iconst 3, 1) := by decide +kernel
theorem dX12_markOf_40 : decode cX12_markOf 40 = .ok (.if_icmp .ne 8, 3) := by decide +kernel
theorem dX12_markOf_43 : decode cX12_markOf 43 = .ok (.bipush 22, 2) := by decide +kernel
theorem dX12_markOf_45 : decode cX12_markOf 45 = .ok (.goto 5, 3) := by decide +kernel
theorem dX12_markOf_48 : decode cX12_markOf 48 = .ok (.bipush 24, 2) := by decide +kernel
theorem dX12_markOf_50 : decode cX12_markOf 50 = .ok (.invokevirtual 264, 3) := by decide +kernel
theorem dX12_markOf_53 : decode cX12_markOf 53 = .ok (.aload_n 0, 1) := by decide +kernel
theorem dX12_markOf_54 : decode cX12_markOf 54 = .ok (.bipush 21, 2) := by decide +kernel
theorem dX12_markOf_56 : decode cX12_markOf 56 = .ok (.invokevirtual 264, 3) := by decide +kernel
theorem dX12_markOf_59 : decode cX12_markOf 59 = .ok (.aload_n 0, 1) := by decide +kernel
theorem dX12_markOf_60 : decode cX12_markOf 60 = .ok (.bipush 20, 2) := by decide +kernel
theorem dX12_markOf_62 : decode cX12_markOf 62 = .ok (.invokevirtual 264, 3) := by decide +kernel
theorem dX12_markOf_65 : decode cX12_markOf 65 = .ok (.iload_n 1, 1) := by decide +kernel
theorem dX12_markOf_66 : decode cX12_markOf 66 = .ok (.aload_n 0, 1) := by decide +kernel
theorem dX12_markOf_67 : decode cX12_markOf 67 = .ok (.iload_n 1, 1) := by decide +kernel
theorem dX12_markOf_68 : decode cX12_markOf 68 = .ok (.iconst 2, 1) := by decide +kernel
theorem dX12_markOf_69 : decode cX12_markOf 69 = .ok (.invokevirtual 159, 3) := by decide +kernel
theorem dX12_markOf_72 : decode cX12_markOf 72 = .ok (.iadd, 1) := by decide +kernel
theorem dX12_markOf_73 : decode cX12_markOf 73 = .ok (.istore_n 3, 1) := by decide +kernel
theorem dX12_markOf_74 : decode cX12_markOf 74 = .ok (.iload_n 2, 1) := by decide +kernel
theorem dX12_markOf_75 : decode cX12_markOf 75 = .ok (.iconst 1, 1) := by decide +kernel
theorem dX12_markOf_76 : decode cX12_markOf 76 = .ok (.if_icmp .ne 7, 3) := by decide +kernel
theorem dX12_markOf_79 : decode cX12_markOf 79 = .ok (.iload_n 3, 1) := by decide +kernel
theorem dX12_markOf_80 : decode cX12_markOf 80 = .ok (.goto 19, 3) := by decide +kernel
theorem dX12_markOf_83 : decode cX12_markOf 83 = .ok (.iload_n 2, 1) := by decide +kernel
theorem dX12_markOf_84 : decode cX12_markOf 84 = .ok (.iconst 3, 1) := by decide +kernel
theorem dX12_markOf_85 : decode cX12_markOf 85 = .ok (.if_icmp .ne 11, 3) := by decide +kernel
theorem dX12_markOf_88 : decode cX12_markOf 88 = .ok (.iload_n 3, 1) := by decide +kernel
theorem dX12_markOf_89 : decode cX12_markOf 89 = .ok (.sipush 1000, 3) := by decide +kernel
theorem dX12_markOf_92 : decode cX12_markOf 92 = .ok (.isub, 1) := by decide +kernel
theorem dX12_markOf_93 : decode cX12_markOf 93 = .ok (.goto 6, 3) := by decide +kernel
theorem dX12_markOf_96 : decode cX12_markOf 96 = .ok (.iconst 2, 1) := by decide +kernel
theorem dX12_markOf_97 : decode cX12_markOf 97 = .ok (.iload_n 3, 1) := by decide +kernel
theorem dX12_markOf_98 : decode cX12_markOf 98 = .ok (.imul, 1) := by decide +kernel
theorem dX12_markOf_99 : decode cX12_markOf 99 = .ok (.ireturn, 1) := by decide +kernel
theorem dX12_sizeOf_0 : decode cX12_sizeOf 0 = .ok (.aload_n 0, 1) := by decide +kernel
theorem dX12_sizeOf_1 : decode cX12_sizeOf 1 = .ok (.iload_n 1, 1) := by decide +kernel
theorem dX12_sizeOf_2 : decode cX12_sizeOf 2 = .ok (.iconst 0, 1) := by decide +kernel
theorem dX12_sizeOf_3 : decode cX12_sizeOf 3 = .ok (.invokevirtual 159, 3) := by decide +kernel
theorem dX12_sizeOf_6 : decode cX12_sizeOf 6 = .ok (.istore_n 2, 1) := by decide +kernel
theorem dX12_sizeOf_7 : decode cX12_sizeOf 7 = .ok (.iload_n 2, 1) := by decide +kernel
theorem dX12_sizeOf_8 : decode cX12_sizeOf 8 = .ok (.iconst 4, 1) := by decide +kernel
theorem dX12_sizeOf_9 : decode cX12_sizeOf 9 = .ok (.if_icmp .lt 9, 3) := by decide +kernel
theorem dX12_sizeOf_12 : decode cX12_sizeOf 12 = .ok (.aload_n 0, 1) := by decide +kernel
theorem dX12_sizeOf_13 : decode cX12_sizeOf 13 = .ok (.iload_n 1, 1) := by decide +kernel
theorem dX12_sizeOf_14 : decode cX12_sizeOf 14 = .ok (.invokevirtual 270, 3) := by decide +kernel
theorem dX12_sizeOf_17 : decode cX12_sizeOf 17 = .ok (.ireturn, 1) := by decide +kernel
theorem dX12_sizeOf_18 : decode cX12_sizeOf 18 = .ok (.iload_n 2, 1) := by decide +kernel
theorem dX12_sizeOf_19 : decode cX12_sizeOf 19 = .ok (.iconst 2, 1) := by decide +kernel
theorem dX12_sizeOf_20 : decode cX12_sizeOf 20 = .ok (.if_icmp .ne 9, 3) := by decide +kernel
theorem dX12_sizeOf_23 : decode cX12_sizeOf 23 = .ok (.aload_n 0, 1) := by decide +kernel
theorem dX12_sizeOf_24 : decode cX12_sizeOf 24 = .ok (.bipush 12, 2) := by decide +kernel
theorem dX12_sizeOf_26 : decode cX12_sizeOf 26 = .ok (.invokevirtual 264, 3) := by decide +kernel
theorem dX12_sizeOf_29 : decode cX12_sizeOf 29 = .ok (.aload_n 0, 1) := by decide +kernel
theorem dX12_sizeOf_30 : decode cX12_sizeOf 30 = .ok (.bipush 11, 2) := by decide +kernel
theorem dX12_sizeOf_32 : decode cX12_sizeOf 32 = .ok (.invokevirtual 264, 3) := by decide +kernel
theorem dX12_sizeOf_35 : decode cX12_sizeOf 35 = .ok (.aload_n 0, 1) := by decide +kernel
theorem dX12_sizeOf_36 : decode cX12_sizeOf 36 = .ok (.iload_n 1, 1) := by decide +kernel
theorem dX12_sizeOf_37 : decode cX12_sizeOf 37 = .ok (.invokevirtual 267, 3) := by decide +kernel
theorem dX12_sizeOf_40 : decode cX12_sizeOf 40 = .ok (.istore_n 3, 1) := by decide +kernel
theorem dX12_sizeOf_41 : decode cX12_sizeOf 41 = .ok (.iload_n 3, 1) := by decide +kernel
theorem dX12_sizeOf_42 : decode cX12_sizeOf 42 = .ok (.aload_n 0, 1) := by decide +kernel
theorem dX12_sizeOf_43 : decode cX12_sizeOf 43 = .ok (.iload_n 1, 1) := by decide +kernel
theorem dX12_sizeOf_44 : decode cX12_sizeOf 44 = .ok (.invokevirtual 273, 3) := by decide +kernel
theorem dX12_sizeOf_47 : decode cX12_sizeOf 47 = .ok (.iadd, 1) := by decide +kernel
theorem dX12_sizeOf_48 : decode cX12_sizeOf 48 = .ok (.istore_n 3, 1) := by decide +kernel
theorem dX12_sizeOf_49 : decode cX12_sizeOf 49 = .ok (.iload_n 2, 1) := by decide +kernel
theorem dX12_sizeOf_50 : decode cX12_sizeOf 50 = .ok (.iconst 2, 1) := by decide +kernel
theorem dX12_sizeOf_51 : decode cX12_sizeOf 51 = .ok (.if_icmp .ne 8, 3) := by decide +kernel
theorem dX12_sizeOf_54 : decode cX12_sizeOf 54 = .ok (.iload_n 3, 1) := by decide +kernel
theorem dX12_sizeOf_55 : decode cX12_sizeOf 55 = .ok (.ineg, 1) := by decide +kernel
theorem dX12_sizeOf_56 : decode cX12_sizeOf 56 = .ok (.goto 4, 3) := by decide +kernel
theorem dX12_sizeOf_59 : decode cX12_sizeOf 59 = .ok (.iload_n 3, 1) := by decide +kernel
theorem dX12_sizeOf_60 : decode cX12_sizeOf 60 = .ok (.ireturn, 1) := by decide +kernel
theorem dX12_ask_0 : decode cX12_ask 0 = .ok (.aload_n 0, 1) := by decide +kernel
theorem dX12_ask_1 : decode cX12_ask 1 = .ok (.iconst 0, 1) := by decide +kernel
theorem dX12_ask_2 : decode cX12_ask 2 = .ok (.putfield 54, 3) := by decide +kernel
theorem dX12_ask_5 : decode cX12_ask 5 = .ok (.aload_n 0, 1) := by decide +kernel
theorem dX12_ask_6 : decode cX12_ask 6 = .ok (.iload_n 1, 1) := by decide +kernel
theorem dX12_ask_7 : decode cX12_ask 7 = .ok (.invokevirtual 165, 3) := by decide +kernel
theorem dX12_ask_10 : decode cX12_ask 10 = .ok (.ifCond .eq 13, 3) := by decide +kernel
theorem dX12_ask_13 : decode cX12_ask 13 = .ok (.iload_n 2, 1) := by decide +kernel
theorem dX12_ask_14 : decode cX12_ask 14 = .ok (.i2l, 1) := by decide +kernel
theorem dX12_ask_15 : decode cX12_ask 15 = .ok (.lconst 0, 1) := by decide +kernel
theorem dX12_ask_16 : decode cX12_ask 16 = .ok (.lconst 1, 1) := by decide +kernel
theorem dX12_ask_17 : decode cX12_ask 17 = .ok (.invokestatic 64, 3) := by decide +kernel
theorem dX12_ask_20 : decode cX12_ask 20 = .ok (.ifCond .ne 6, 3) := by decide +kernel
theorem dX12_ask_23 : decode cX12_ask 23 = .ok (.ldc 74, 2) := by decide +kernel
theorem dX12_ask_25 : decode cX12_ask 25 = .ok (.ireturn, 1) := by decide +kernel
theorem dX12_ask_26 : decode cX12_ask 26 = .ok (.aload_n 0, 1) := by decide +kernel
theorem dX12_ask_27 : decode cX12_ask 27 = .ok (.iconst 0, 1) := by decide +kernel
theorem dX12_ask_28 : decode cX12_ask 28 = .ok (.putfield 261, 3) := by decide +kernel
theorem dX12_ask_31 : decode cX12_ask 31 = .ok (.iload_n 2, 1) := by decide +kernel
theorem dX12_ask_32 : decode cX12_ask 32 = .ok (.ifCond .ne 11, 3) := by decide +kernel
theorem dX12_ask_35 : decode cX12_ask 35 = .ok (.aload_n 0, 1) := by decide +kernel
theorem dX12_ask_36 : decode cX12_ask 36 = .ok (.iload_n 1, 1) := by decide +kernel
theorem dX12_ask_37 : decode cX12_ask 37 = .ok (.invokevirtual 276, 3) := by decide +kernel
theorem dX12_ask_40 : decode cX12_ask 40 = .ok (.goto 8, 3) := by decide +kernel
theorem dX12_ask_43 : decode cX12_ask 43 = .ok (.aload_n 0, 1) := by decide +kernel
theorem dX12_ask_44 : decode cX12_ask 44 = .ok (.iload_n 1, 1) := by decide +kernel
theorem dX12_ask_45 : decode cX12_ask 45 = .ok (.invokevirtual 273, 3) := by decide +kernel
theorem dX12_ask_48 : decode cX12_ask 48 = .ok (.ireturn, 1) := by decide +kernel
theorem dX12_trace_0 : decode cX12_trace 0 = .ok (.aload_n 0, 1) := by decide +kernel
theorem dX12_trace_1 : decode cX12_trace 1 = .ok (.iconst 0, 1) := by decide +kernel
theorem dX12_trace_2 : decode cX12_trace 2 = .ok (.putfield 54, 3) := by decide +kernel
theorem dX12_trace_5 : decode cX12_trace 5 = .ok (.iload_n 1, 1) := by decide +kernel
theorem dX12_trace_6 : decode cX12_trace 6 = .ok (.i2l, 1) := by decide +kernel
theorem dX12_trace_7 : decode cX12_trace 7 = .ok (.lconst 0, 1) := by decide +kernel
theorem dX12_trace_8 : decode cX12_trace 8 = .ok (.aload_n 0, 1) := by decide +kernel
theorem dX12_trace_9 : decode cX12_trace 9 = .ok (.getfield 261, 3) := by decide +kernel
theorem dX12_trace_12 : decode cX12_trace 12 = .ok (.iconst 1, 1) := by decide +kernel
theorem dX12_trace_13 : decode cX12_trace 13 = .ok (.isub, 1) := by decide +kernel
theorem dX12_trace_14 : decode cX12_trace 14 = .ok (.i2l, 1) := by decide +kernel
theorem dX12_trace_15 : decode cX12_trace 15 = .ok (.invokestatic 64, 3) := by decide +kernel
theorem dX12_trace_18 : decode cX12_trace 18 = .ok (.ifCond .eq 12, 3) := by decide +kernel
theorem dX12_trace_21 : decode cX12_trace 21 = .ok (.aload_n 0, 1) := by decide +kernel
theorem dX12_trace_22 : decode cX12_trace 22 = .ok (.getfield 51, 3) := by decide +kernel
theorem dX12_trace_25 : decode cX12_trace 25 = .ok (.iload_n 1, 1) := by decide +kernel
theorem dX12_trace_26 : decode cX12_trace 26 = .ok (.iaload, 1) := by decide +kernel
theorem dX12_trace_27 : decode cX12_trace 27 = .ok (.goto 5, 3) := by decide +kernel
theorem dX12_trace_30 : decode cX12_trace 30 = .ok (.ldc 97, 2) := by decide +kernel
theorem dX12_trace_32 : decode cX12_trace 32 = .ok (.ireturn, 1) := by decide +kernel
theorem dX12_count_0 : decode cX12_count 0 = .ok (.aload_n 0, 1) := by decide +kernel
theorem dX12_count_1 : decode cX12_count 1 = .ok (.iconst 0, 1) := by decide +kernel
theorem dX12_count_2 : decode cX12_count 2 = .ok (.putfield 54, 3) := by decide +kernel
theorem dX12_count_5 : decode cX12_count 5 = .ok (.iconst 0, 1) := by decide +kernel
theorem dX12_count_6 : decode cX12_count 6 = .ok (.istore_n 2, 1) := by decide +kernel
theorem dX12_count_7 : decode cX12_count 7 = .ok (.iload_n 1, 1) := by decide +kernel
theorem dX12_count_8 : decode cX12_count 8 = .ok (.tableswitch 104 0 5 #[40, 73, 80, 87, 94, 99], 40) := by decide +kernel
theorem dX12_count_48 : decode cX12_count 48 = .ok (.iconst 0, 1) := by decide +kernel
theorem dX12_count_49 : decode cX12_count 49 = .ok (.istore_n 3, 1) := by decide +kernel
theorem dX12_count_50 : decode cX12_count 50 = .ok (.iload_n 3, 1) := by decide +kernel
theorem dX12_count_51 : decode cX12_count 51 = .ok (.bipush 8, 2) := by decide +kernel
theorem dX12_count_53 : decode cX12_count 53 = .ok (.if_icmp .ge 26, 3) := by decide +kernel
theorem dX12_count_56 : decode cX12_count 56 = .ok (.iload_n 2, 1) := by decide +kernel
theorem dX12_count_57 : decode cX12_count 57 = .ok (.aload_n 0, 1) := by decide +kernel
theorem dX12_count_58 : decode cX12_count 58 = .ok (.getfield 7, 3) := by decide +kernel
theorem dX12_count_61 : decode cX12_count 61 = .ok (.iload_n 3, 1) := by decide +kernel
theorem dX12_count_62 : decode cX12_count 62 = .ok (.iaload, 1) := by decide +kernel
theorem dX12_count_63 : decode cX12_count 63 = .ok (.ifCond .lt 7, 3) := by decide +kernel
theorem dX12_count_66 : decode cX12_count 66 = .ok (.iconst 1, 1) := by decide +kernel
theorem dX12_count_67 : decode cX12_count 67 = .ok (.goto 4, 3) := by decide +kernel
theorem dX12_count_70 : decode cX12_count 70 = .ok (.iconst 0, 1) := by decide +kernel
theorem dX12_count_71 : decode cX12_count 71 = .ok (.iadd, 1) := by decide +kernel
theorem dX12_count_72 : decode cX12_count 72 = .ok (.istore_n 2, 1) := by decide +kernel
theorem dX12_count_73 : decode cX12_count 73 = .ok (.iinc 3 1, 3) := by decide +kernel
theorem dX12_count_76 : decode cX12_count 76 = .ok (.goto (-26), 3) := by decide +kernel
theorem dX12_count_79 : decode cX12_count 79 = .ok (.iload_n 2, 1) := by decide +kernel
theorem dX12_count_80 : decode cX12_count 80 = .ok (.ireturn, 1) := by decide +kernel
theorem dX12_count_81 : decode cX12_count 81 = .ok (.aload_n 0, 1) := by decide +kernel
theorem dX12_count_82 : decode cX12_count 82 = .ok (.getfield 19, 3) := by decide +kernel
theorem dX12_count_85 : decode cX12_count 85 = .ok (.iconst 0, 1) := by decide +kernel
theorem dX12_count_86 : decode cX12_count 86 = .ok (.iaload, 1) := by decide +kernel
theorem dX12_count_87 : decode cX12_count 87 = .ok (.ireturn, 1) := by decide +kernel
theorem dX12_count_88 : decode cX12_count 88 = .ok (.aload_n 0, 1) := by decide +kernel
theorem dX12_count_89 : decode cX12_count 89 = .ok (.getfield 19, 3) := by decide +kernel
theorem dX12_count_92 : decode cX12_count 92 = .ok (.iconst 4, 1) := by decide +kernel
theorem dX12_count_93 : decode cX12_count 93 = .ok (.iaload, 1) := by decide +kernel
theorem dX12_count_94 : decode cX12_count 94 = .ok (.ireturn, 1) := by decide +kernel
theorem dX12_count_95 : decode cX12_count 95 = .ok (.aload_n 0, 1) := by decide +kernel
theorem dX12_count_96 : decode cX12_count 96 = .ok (.getfield 19, 3) := by decide +kernel
theorem dX12_count_99 : decode cX12_count 99 = .ok (.iconst 5, 1) := by decide +kernel
theorem dX12_count_100 : decode cX12_count 100 = .ok (.iaload, 1) := by decide +kernel
theorem dX12_count_101 : decode cX12_count 101 = .ok (.ireturn, 1) := by decide +kernel
theorem dX12_count_102 : decode cX12_count 102 = .ok (.aload_n 0, 1) := by decide +kernel
theorem dX12_count_103 : decode cX12_count 103 = .ok (.getfield 156, 3) := by decide +kernel
theorem dX12_count_106 : decode cX12_count 106 = .ok (.ireturn, 1) := by decide +kernel
theorem dX12_count_107 : decode cX12_count 107 = .ok (.aload_n 0, 1) := by decide +kernel
theorem dX12_count_108 : decode cX12_count 108 = .ok (.getfield 81, 3) := by decide +kernel
theorem dX12_count_111 : decode cX12_count 111 = .ok (.ireturn, 1) := by decide +kernel
theorem dX12_count_112 : decode cX12_count 112 = .ok (.ldc 74, 2) := by decide +kernel
theorem dX12_count_114 : decode cX12_count 114 = .ok (.ireturn, 1) := by decide +kernel
theorem dX12_status_0 : decode cX12_status 0 = .ok (.aload_n 0, 1) := by decide +kernel
theorem dX12_status_1 : decode cX12_status 1 = .ok (.iconst 0, 1) := by decide +kernel
theorem dX12_status_2 : decode cX12_status 2 = .ok (.putfield 54, 3) := by decide +kernel
theorem dX12_status_5 : decode cX12_status 5 = .ok (.aload_n 0, 1) := by decide +kernel
theorem dX12_status_6 : decode cX12_status 6 = .ok (.getfield 58, 3) := by decide +kernel
theorem dX12_status_9 : decode cX12_status 9 = .ok (.ireturn, 1) := by decide +kernel
