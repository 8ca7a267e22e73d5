theorem dX12_init_0 : decode cX12_init 0 = .ok (.aload_n 0, 1) := by decide +kernel
theorem dX12_init_1 : decode cX12_init 1 = .ok (.invokespecial 1, 3) := by decide +kernel
theorem dX12_init_4 : decode cX12_init 4 = .ok (.aload_n 0, 1) := by decide +kernel
theorem dX12_init_5 : decode cX12_init 5 = .ok (.bipush 8, 2) := by decide +kernel
theorem dX12_init_7 : decode cX12_init 7 = .ok (.newarray .int, 2) := by decide +kernel
theorem dX12_init_9 : decode cX12_init 9 = .ok (.dup, 1) := by decide +kernel
theorem dX12_init_10 : decode cX12_init 10 = .ok (.iconst 0, 1) := by decide +kernel
theorem dX12_init_11 : decode cX12_init 11 = .ok (.iconst (-1), 1) := by decide +kernel
theorem dX12_init_12 : decode cX12_init 12 = .ok (.iastore, 1) := by decide +kernel
theorem dX12_init_13 : decode cX12_init 13 = .ok (.dup, 1) := by decide +kernel
theorem dX12_init_14 : decode cX12_init 14 = .ok (.iconst 1, 1) := by decide +kernel
theorem dX12_init_15 : decode cX12_init 15 = .ok (.iconst (-1), 1) := by decide +kernel
theorem dX12_init_16 : decode cX12_init 16 = .ok (.iastore, 1) := by decide +kernel
theorem dX12_init_17 : decode cX12_init 17 = .ok (.dup, 1) := by decide +kernel
theorem dX12_init_18 : decode cX12_init 18 = .ok (.iconst 2, 1) := by decide +kernel
theorem dX12_init_19 : decode cX12_init 19 = .ok (.iconst (-1), 1) := by decide +kernel
theorem dX12_init_20 : decode cX12_init 20 = .ok (.iastore, 1) := by decide +kernel
theorem dX12_init_21 : decode cX12_init 21 = .ok (.dup, 1) := by decide +kernel
theorem dX12_init_22 : decode cX12_init 22 = .ok (.iconst 3, 1) := by decide +kernel
theorem dX12_init_23 : decode cX12_init 23 = .ok (.iconst (-1), 1) := by decide +kernel
theorem dX12_init_24 : decode cX12_init 24 = .ok (.iastore, 1) := by decide +kernel
theorem dX12_init_25 : decode cX12_init 25 = .ok (.dup, 1) := by decide +kernel
theorem dX12_init_26 : decode cX12_init 26 = .ok (.iconst 4, 1) := by decide +kernel
theorem dX12_init_27 : decode cX12_init 27 = .ok (.iconst (-1), 1) := by decide +kernel
theorem dX12_init_28 : decode cX12_init 28 = .ok (.iastore, 1) := by decide +kernel
theorem dX12_init_29 : decode cX12_init 29 = .ok (.dup, 1) := by decide +kernel
theorem dX12_init_30 : decode cX12_init 30 = .ok (.iconst 5, 1) := by decide +kernel
theorem dX12_init_31 : decode cX12_init 31 = .ok (.iconst (-1), 1) := by decide +kernel
theorem dX12_init_32 : decode cX12_init 32 = .ok (.iastore, 1) := by decide +kernel
theorem dX12_init_33 : decode cX12_init 33 = .ok (.dup, 1) := by decide +kernel
theorem dX12_init_34 : decode cX12_init 34 = .ok (.bipush 6, 2) := by decide +kernel
theorem dX12_init_36 : decode cX12_init 36 = .ok (.iconst (-1), 1) := by decide +kernel
theorem dX12_init_37 : decode cX12_init 37 = .ok (.iastore, 1) := by decide +kernel
theorem dX12_init_38 : decode cX12_init 38 = .ok (.dup, 1) := by decide +kernel
theorem dX12_init_39 : decode cX12_init 39 = .ok (.bipush 7, 2) := by decide +kernel
theorem dX12_init_41 : decode cX12_init 41 = .ok (.iconst (-1), 1) := by decide +kernel
theorem dX12_init_42 : decode cX12_init 42 = .ok (.iastore, 1) := by decide +kernel
theorem dX12_init_43 : decode cX12_init 43 = .ok (.putfield 7, 3) := by decide +kernel
theorem dX12_init_46 : decode cX12_init 46 = .ok (.aload_n 0, 1) := by decide +kernel
theorem dX12_init_47 : decode cX12_init 47 = .ok (.bipush 8, 2) := by decide +kernel
theorem dX12_init_49 : decode cX12_init 49 = .ok (.newarray .int, 2) := by decide +kernel
theorem dX12_init_51 : decode cX12_init 51 = .ok (.putfield 13, 3) := by decide +kernel
theorem dX12_init_54 : decode cX12_init 54 = .ok (.aload_n 0, 1) := by decide +kernel
theorem dX12_init_55 : decode cX12_init 55 = .ok (.sipush 320, 3) := by decide +kernel
theorem dX12_init_58 : decode cX12_init 58 = .ok (.newarray .int, 2) := by decide +kernel
theorem dX12_init_60 : decode cX12_init 60 = .ok (.putfield 16, 3) := by decide +kernel
theorem dX12_init_63 : decode cX12_init 63 = .ok (.aload_n 0, 1) := by decide +kernel
theorem dX12_init_64 : decode cX12_init 64 = .ok (.bipush 54, 2) := by decide +kernel
theorem dX12_init_66 : decode cX12_init 66 = .ok (.newarray .int, 2) := by decide +kernel
theorem dX12_init_68 : decode cX12_init 68 = .ok (.putfield 19, 3) := by decide +kernel
theorem dX12_init_71 : decode cX12_init 71 = .ok (.aload_n 0, 1) := by decide +kernel
theorem dX12_init_72 : decode cX12_init 72 = .ok (.bipush 54, 2) := by decide +kernel
theorem dX12_init_74 : decode cX12_init 74 = .ok (.newarray .int, 2) := by decide +kernel
theorem dX12_init_76 : decode cX12_init 76 = .ok (.putfield 22, 3) := by decide +kernel
theorem dX12_init_79 : decode cX12_init 79 = .ok (.aload_n 0, 1) := by decide +kernel
theorem dX12_init_80 : decode cX12_init 80 = .ok (.bipush 54, 2) := by decide +kernel
theorem dX12_init_82 : decode cX12_init 82 = .ok (.newarray .int, 2) := by decide +kernel
theorem dX12_init_84 : decode cX12_init 84 = .ok (.putfield 25, 3) := by decide +kernel
theorem dX12_init_87 : decode cX12_init 87 = .ok (.aload_n 0, 1) := by decide +kernel
theorem dX12_init_88 : decode cX12_init 88 = .ok (.sipush 1296, 3) := by decide +kernel
theorem dX12_init_91 : decode cX12_init 91 = .ok (.newarray .int, 2) := by decide +kernel
theorem dX12_init_93 : decode cX12_init 93 = .ok (.putfield 28, 3) := by decide +kernel
theorem dX12_init_96 : decode cX12_init 96 = .ok (.aload_n 0, 1) := by decide +kernel
theorem dX12_init_97 : decode cX12_init 97 = .ok (.bipush 110, 2) := by decide +kernel
theorem dX12_init_99 : decode cX12_init 99 = .ok (.newarray .int, 2) := by decide +kernel
theorem dX12_init_101 : decode cX12_init 101 = .ok (.putfield 31, 3) := by decide +kernel
theorem dX12_init_104 : decode cX12_init 104 = .ok (.aload_n 0, 1) := by decide +kernel
theorem dX12_init_105 : decode cX12_init 105 = .ok (.bipush 8, 2) := by decide +kernel
theorem dX12_init_107 : decode cX12_init 107 = .ok (.newarray .int, 2) := by decide +kernel
theorem dX12_init_109 : decode cX12_init 109 = .ok (.putfield 34, 3) := by decide +kernel
theorem dX12_init_112 : decode cX12_init 112 = .ok (.aload_n 0, 1) := by decide +kernel
theorem dX12_init_113 : decode cX12_init 113 = .ok (.bipush 8, 2) := by decide +kernel
theorem dX12_init_115 : decode cX12_init 115 = .ok (.newarray .int, 2) := by decide +kernel
theorem dX12_init_117 : decode cX12_init 117 = .ok (.putfield 37, 3) := by decide +kernel
theorem dX12_init_120 : decode cX12_init 120 = .ok (.aload_n 0, 1) := by decide +kernel
theorem dX12_init_121 : decode cX12_init 121 = .ok (.bipush 20, 2) := by decide +kernel
theorem dX12_init_123 : decode cX12_init 123 = .ok (.newarray .int, 2) := by decide +kernel
theorem dX12_init_125 : decode cX12_init 125 = .ok (.putfield 40, 3) := by decide +kernel
theorem dX12_init_128 : decode cX12_init 128 = .ok (.aload_n 0, 1) := by decide +kernel
theorem dX12_init_129 : decode cX12_init 129 = .ok (.iconst 2, 1) := by decide +kernel
theorem dX12_init_130 : decode cX12_init 130 = .ok (.newarray .boolean, 2) := by decide +kernel
theorem dX12_init_132 : decode cX12_init 132 = .ok (.putfield 43, 3) := by decide +kernel
theorem dX12_init_135 : decode cX12_init 135 = .ok (.aload_n 0, 1) := by decide +kernel
theorem dX12_init_136 : decode cX12_init 136 = .ok (.bipush 108, 2) := by decide +kernel
theorem dX12_init_138 : decode cX12_init 138 = .ok (.newarray .int, 2) := by decide +kernel
theorem dX12_init_140 : decode cX12_init 140 = .ok (.putfield 47, 3) := by decide +kernel
theorem dX12_init_143 : decode cX12_init 143 = .ok (.aload_n 0, 1) := by decide +kernel
theorem dX12_init_144 : decode cX12_init 144 = .ok (.bipush 16, 2) := by decide +kernel
theorem dX12_init_146 : decode cX12_init 146 = .ok (.newarray .int, 2) := by decide +kernel
theorem dX12_init_148 : decode cX12_init 148 = .ok (.putfield 50, 3) := by decide +kernel
theorem dX12_init_151 : decode cX12_init 151 = .ok (.return_, 1) := by decide +kernel
theorem dX12_in_0 : decode cX12_in 0 = .ok (.lload_n 0, 1) := by decide +kernel
theorem dX12_in_1 : decode cX12_in 1 = .ok (.lload_n 2, 1) := by decide +kernel
theorem dX12_in_2 : decode cX12_in 2 = .ok (.lcmp, 1) := by decide +kernel
theorem dX12_in_3 : decode cX12_in 3 = .ok (.ifCond .lt 14, 3) := by decide +kernel
theorem dX12_in_6 : decode cX12_in 6 = .ok (.lload_n 0, 1) := by decide +kernel
theorem dX12_in_7 : decode cX12_in 7 = .ok (.lload 4, 2) := by decide +kernel
theorem dX12_in_9 : decode cX12_in 9 = .ok (.lcmp, 1) := by decide +kernel
theorem dX12_in_10 : decode cX12_in 10 = .ok (.ifCond .gt 7, 3) := by decide +kernel
theorem dX12_in_13 : decode cX12_in 13 = .ok (.iconst 1, 1) := by decide +kernel
theorem dX12_in_14 : decode cX12_in 14 = .ok (.goto 4, 3) := by decide +kernel
theorem dX12_in_17 : decode cX12_in 17 = .ok (.iconst 0, 1) := by decide +kernel
theorem dX12_in_18 : decode cX12_in 18 = .ok (.ireturn, 1) := by decide +kernel
theorem dX12_finding_0 : decode cX12_finding 0 = .ok (.aload_n 0, 1) := by decide +kernel
theorem dX12_finding_1 : decode cX12_finding 1 = .ok (.iload_n 1, 1) := by decide +kernel
theorem dX12_finding_2 : decode cX12_finding 2 = .ok (.putfield 57, 3) := by decide +kernel
theorem dX12_finding_5 : decode cX12_finding 5 = .ok (.ldc 60, 2) := by decide +kernel
theorem dX12_finding_7 : decode cX12_finding 7 = .ok (.iload_n 1, 1) := by decide +kernel
theorem dX12_finding_8 : decode cX12_finding 8 = .ok (.isub, 1) := by decide +kernel
theorem dX12_finding_9 : decode cX12_finding 9 = .ok (.ireturn, 1) := by decide +kernel
theorem dX12_isRow_0 : decode cX12_isRow 0 = .ok (.iload_n 0, 1) := by decide +kernel
theorem dX12_isRow_1 : decode cX12_isRow 1 = .ok (.i2l, 1) := by decide +kernel
theorem dX12_isRow_2 : decode cX12_isRow 2 = .ok (.lconst 0, 1) := by decide +kernel
theorem dX12_isRow_3 : decode cX12_isRow 3 = .ok (.ldc2_w 61, 3) := by decide +kernel
theorem dX12_isRow_6 : decode cX12_isRow 6 = .ok (.invokestatic 63, 3) := by decide +kernel
theorem dX12_isRow_9 : decode cX12_isRow 9 = .ok (.ireturn, 1) := by decide +kernel
theorem dX12_row_0 : decode cX12_row 0 = .ok (.aload_n 0, 1) := by decide +kernel
theorem dX12_row_1 : decode cX12_row 1 = .ok (.iconst 0, 1) := by decide +kernel
theorem dX12_row_2 : decode cX12_row 2 = .ok (.putfield 53, 3) := by decide +kernel
theorem dX12_row_5 : decode cX12_row 5 = .ok (.iload_n 1, 1) := by decide +kernel
theorem dX12_row_6 : decode cX12_row 6 = .ok (.invokestatic 67, 3) := by decide +kernel
theorem dX12_row_9 : decode cX12_row 9 = .ok (.ifCond .eq 21, 3) := by decide +kernel
theorem dX12_row_12 : decode cX12_row 12 = .ok (.iload_n 2, 1) := by decide +kernel
theorem dX12_row_13 : decode cX12_row 13 = .ok (.i2l, 1) := by decide +kernel
theorem dX12_row_14 : decode cX12_row 14 = .ok (.lconst 0, 1) := by decide +kernel
theorem dX12_row_15 : decode cX12_row 15 = .ok (.ldc2_w 71, 3) := by decide +kernel
theorem dX12_row_18 : decode cX12_row 18 = .ok (.invokestatic 63, 3) := by decide +kernel
theorem dX12_row_21 : decode cX12_row 21 = .ok (.ifCond .eq 9, 3) := by decide +kernel
theorem dX12_row_24 : decode cX12_row 24 = .ok (.iload_n 3, 1) := by decide +kernel
theorem dX12_row_25 : decode cX12_row 25 = .ok (.bipush 40, 2) := by decide +kernel
theorem dX12_row_27 : decode cX12_row 27 = .ok (.if_icmp .le 6, 3) := by decide +kernel
theorem dX12_row_30 : decode cX12_row 30 = .ok (.ldc 73, 2) := by decide +kernel
theorem dX12_row_32 : decode cX12_row 32 = .ok (.ireturn, 1) := by decide +kernel
theorem dX12_row_33 : decode cX12_row 33 = .ok (.aload_n 0, 1) := by decide +kernel
theorem dX12_row_34 : decode cX12_row 34 = .ok (.iconst 0, 1) := by decide +kernel
theorem dX12_row_35 : decode cX12_row 35 = .ok (.putfield 57, 3) := by decide +kernel
theorem dX12_row_38 : decode cX12_row 38 = .ok (.iload_n 3, 1) := by decide +kernel
theorem dX12_row_39 : decode cX12_row 39 = .ok (.ifCond .ge 9, 3) := by decide +kernel
theorem dX12_row_42 : decode cX12_row 42 = .ok (.aload_n 0, 1) := by decide +kernel
theorem dX12_row_43 : decode cX12_row 43 = .ok (.iconst 4, 1) := by decide +kernel
theorem dX12_row_44 : decode cX12_row 44 = .ok (.invokevirtual 74, 3) := by decide +kernel
theorem dX12_row_47 : decode cX12_row 47 = .ok (.ireturn, 1) := by decide +kernel
theorem dX12_row_48 : decode cX12_row 48 = .ok (.aload_n 0, 1) := by decide +kernel
theorem dX12_row_49 : decode cX12_row 49 = .ok (.getfield 7, 3) := by decide +kernel
theorem dX12_row_52 : decode cX12_row 52 = .ok (.iload_n 1, 1) := by decide +kernel
theorem dX12_row_53 : decode cX12_row 53 = .ok (.iload_n 2, 1) := by decide +kernel
theorem dX12_row_54 : decode cX12_row 54 = .ok (.iastore, 1) := by decide +kernel
theorem dX12_row_55 : decode cX12_row 55 = .ok (.aload_n 0, 1) := by decide +kernel
theorem dX12_row_56 : decode cX12_row 56 = .ok (.getfield 13, 3) := by decide +kernel
theorem dX12_row_59 : decode cX12_row 59 = .ok (.iload_n 1, 1) := by decide +kernel
theorem dX12_row_60 : decode cX12_row 60 = .ok (.iload_n 3, 1) := by decide +kernel
theorem dX12_row_61 : decode cX12_row 61 = .ok (.iastore, 1) := by decide +kernel
theorem dX12_row_62 : decode cX12_row 62 = .ok (.iconst 0, 1) := by decide +kernel
theorem dX12_row_63 : decode cX12_row 63 = .ok (.istore 4, 2) := by decide +kernel
theorem dX12_row_65 : decode cX12_row 65 = .ok (.iload 4, 2) := by decide +kernel
theorem dX12_row_67 : decode cX12_row 67 = .ok (.bipush 40, 2) := by decide +kernel
theorem dX12_row_69 : decode cX12_row 69 = .ok (.if_icmp .ge 22, 3) := by decide +kernel
theorem dX12_row_72 : decode cX12_row 72 = .ok (.aload_n 0, 1) := by decide +kernel
theorem dX12_row_73 : decode cX12_row 73 = .ok (.getfield 16, 3) := by decide +kernel
theorem dX12_row_76 : decode cX12_row 76 = .ok (.bipush 40, 2) := by decide +kernel
theorem dX12_row_78 : decode cX12_row 78 = .ok (.iload_n 1, 1) := by decide +kernel
theorem dX12_row_79 : decode cX12_row 79 = .ok (.imul, 1) := by decide +kernel
theorem dX12_row_80 : decode cX12_row 80 = .ok (.iload 4, 2) := by decide +kernel
theorem dX12_row_82 : decode cX12_row 82 = .ok (.iadd, 1) := by decide +kernel
theorem dX12_row_83 : decode cX12_row 83 = .ok (.iconst 0, 1) := by decide +kernel
theorem dX12_row_84 : decode cX12_row 84 = .ok (.iastore, 1) := by decide +kernel
theorem dX12_row_85 : decode cX12_row 85 = .ok (.iinc 4 1, 3) := by decide +kernel
theorem dX12_row_88 : decode cX12_row 88 = .ok (.goto (-23), 3) := by decide +kernel
theorem dX12_row_91 : decode cX12_row 91 = .ok (.iload_n 3, 1) := by decide +kernel
theorem dX12_row_92 : decode cX12_row 92 = .ok (.ireturn, 1) := by decide +kernel
theorem dX12_set_0 : decode cX12_set 0 = .ok (.aload_n 0, 1) := by decide +kernel
theorem dX12_set_1 : decode cX12_set 1 = .ok (.iconst 0, 1) := by decide +kernel
theorem dX12_set_2 : decode cX12_set 2 = .ok (.putfield 53, 3) := by decide +kernel
theorem dX12_set_5 : decode cX12_set 5 = .ok (.iload_n 1, 1) := by decide +kernel
theorem dX12_set_6 : decode cX12_set 6 = .ok (.invokestatic 67, 3) := by decide +kernel
theorem dX12_set_9 : decode cX12_set 9 = .ok (.ifCond .ne 6, 3) := by decide +kernel
theorem dX12_set_12 : decode cX12_set 12 = .ok (.ldc 73, 2) := by decide +kernel
theorem dX12_set_14 : decode cX12_set 14 = .ok (.ireturn, 1) := by decide +kernel
theorem dX12_set_15 : decode cX12_set 15 = .ok (.aload_n 0, 1) := by decide +kernel
theorem dX12_set_16 : decode cX12_set 16 = .ok (.iconst 0, 1) := by decide +kernel
theorem dX12_set_17 : decode cX12_set 17 = .ok (.putfield 57, 3) := by decide +kernel
theorem dX12_set_20 : decode cX12_set 20 = .ok (.aload_n 0, 1) := by decide +kernel
theorem dX12_set_21 : decode cX12_set 21 = .ok (.getfield 7, 3) := by decide +kernel
theorem dX12_set_24 : decode cX12_set 24 = .ok (.iload_n 1, 1) := by decide +kernel
theorem dX12_set_25 : decode cX12_set 25 = .ok (.iaload, 1) := by decide +kernel
theorem dX12_set_26 : decode cX12_set 26 = .ok (.ifCond .ge 9, 3) := by decide +kernel
theorem dX12_set_29 : decode cX12_set 29 = .ok (.aload_n 0, 1) := by decide +kernel
theorem dX12_set_30 : decode cX12_set 30 = .ok (.iconst 1, 1) := by decide +kernel
theorem dX12_set_31 : decode cX12_set 31 = .ok (.invokevirtual 74, 3) := by decide +kernel
theorem dX12_set_34 : decode cX12_set 34 = .ok (.ireturn, 1) := by decide +kernel
theorem dX12_set_35 : decode cX12_set 35 = .ok (.iload_n 2, 1) := by decide +kernel
theorem dX12_set_36 : decode cX12_set 36 = .ok (.i2l, 1) := by decide +kernel
theorem dX12_set_37 : decode cX12_set 37 = .ok (.lconst 0, 1) := by decide +kernel
theorem dX12_set_38 : decode cX12_set 38 = .ok (.aload_n 0, 1) := by decide +kernel
theorem dX12_set_39 : decode cX12_set 39 = .ok (.getfield 13, 3) := by decide +kernel
theorem dX12_set_42 : decode cX12_set 42 = .ok (.iload_n 1, 1) := by decide +kernel
theorem dX12_set_43 : decode cX12_set 43 = .ok (.iaload, 1) := by decide +kernel
theorem dX12_set_44 : decode cX12_set 44 = .ok (.iconst 1, 1) := by decide +kernel
theorem dX12_set_45 : decode cX12_set 45 = .ok (.isub, 1) := by decide +kernel
theorem dX12_set_46 : decode cX12_set 46 = .ok (.i2l, 1) := by decide +kernel
theorem dX12_set_47 : decode cX12_set 47 = .ok (.invokestatic 63, 3) := by decide +kernel
theorem dX12_set_50 : decode cX12_set 50 = .ok (.ifCond .ne 9, 3) := by decide +kernel
theorem dX12_set_53 : decode cX12_set 53 = .ok (.aload_n 0, 1) := by decide +kernel
theorem dX12_set_54 : decode cX12_set 54 = .ok (.iconst 2, 1) := by decide +kernel
theorem dX12_set_55 : decode cX12_set 55 = .ok (.invokevirtual 74, 3) := by decide +kernel
theorem dX12_set_58 : decode cX12_set 58 = .ok (.ireturn, 1) := by decide +kernel
theorem dX12_set_59 : decode cX12_set 59 = .ok (.aload_n 0, 1) := by decide +kernel
theorem dX12_set_60 : decode cX12_set 60 = .ok (.getfield 16, 3) := by decide +kernel
theorem dX12_set_63 : decode cX12_set 63 = .ok (.bipush 40, 2) := by decide +kernel
theorem dX12_set_65 : decode cX12_set 65 = .ok (.iload_n 1, 1) := by decide +kernel
theorem dX12_set_66 : decode cX12_set 66 = .ok (.imul, 1) := by decide +kernel
theorem dX12_set_67 : decode cX12_set 67 = .ok (.iload_n 2, 1) := by decide +kernel
theorem dX12_set_68 : decode cX12_set 68 = .ok (.iadd, 1) := by decide +kernel
theorem dX12_set_69 : decode cX12_set 69 = .ok (.aload_n 0, 1) := by decide +kernel
theorem dX12_set_70 : decode cX12_set 70 = .ok (.getfield 7, 3) := by decide +kernel
theorem dX12_set_73 : decode cX12_set 73 = .ok (.iload_n 1, 1) := by decide +kernel
theorem dX12_set_74 : decode cX12_set 74 = .ok (.iaload, 1) := by decide +kernel
theorem dX12_set_75 : decode cX12_set 75 = .ok (.ifCond .ne 8, 3) := by decide +kernel
theorem dX12_set_78 : decode cX12_set 78 = .ok (.iload_n 3, 1) := by decide +kernel
theorem dX12_set_79 : decode cX12_set 79 = .ok (.i2b, 1) := by decide +kernel
theorem dX12_set_80 : decode cX12_set 80 = .ok (.goto 19, 3) := by decide +kernel
theorem dX12_set_83 : decode cX12_set 83 = .ok (.aload_n 0, 1) := by decide +kernel
theorem dX12_set_84 : decode cX12_set 84 = .ok (.getfield 7, 3) := by decide +kernel
theorem dX12_set_87 : decode cX12_set 87 = .ok (.iload_n 1, 1) := by decide +kernel
theorem dX12_set_88 : decode cX12_set 88 = .ok (.iaload, 1) := by decide +kernel
theorem dX12_set_89 : decode cX12_set 89 = .ok (.iconst 1, 1) := by decide +kernel
theorem dX12_set_90 : decode cX12_set 90 = .ok (.if_icmp .ne 8, 3) := by decide +kernel
theorem dX12_set_93 : decode cX12_set 93 = .ok (.iload_n 3, 1) := by decide +kernel
theorem dX12_set_94 : decode cX12_set 94 = .ok (.i2s, 1) := by decide +kernel
theorem dX12_set_95 : decode cX12_set 95 = .ok (.goto 4, 3) := by decide +kernel
theorem dX12_set_98 : decode cX12_set 98 = .ok (.iload_n 3, 1) := by decide +kernel
theorem dX12_set_99 : decode cX12_set 99 = .ok (.iastore, 1) := by decide +kernel
theorem dX12_set_100 : decode cX12_set 100 = .ok (.aload_n 0, 1) := by decide +kernel
theorem dX12_set_101 : decode cX12_set 101 = .ok (.getfield 16, 3) := by decide +kernel
theorem dX12_set_104 : decode cX12_set 104 = .ok (.bipush 40, 2) := by decide +kernel
theorem dX12_set_106 : decode cX12_set 106 = .ok (.iload_n 1, 1) := by decide +kernel
theorem dX12_set_107 : decode cX12_set 107 = .ok (.imul, 1) := by decide +kernel
theorem dX12_set_108 : decode cX12_set 108 = .ok (.iload_n 2, 1) := by decide +kernel
theorem dX12_set_109 : decode cX12_set 109 = .ok (.iadd, 1) := by decide +kernel
theorem dX12_set_110 : decode cX12_set 110 = .ok (.iaload, 1) := by decide +kernel
theorem dX12_set_111 : decode cX12_set 111 = .ok (.ireturn, 1) := by decide +kernel
theorem dX12_copy_0 : decode cX12_copy 0 = .ok (.aload_n 0, 1) := by decide +kernel
theorem dX12_copy_1 : decode cX12_copy 1 = .ok (.iconst 0, 1) := by decide +kernel
theorem dX12_copy_2 : decode cX12_copy 2 = .ok (.putfield 53, 3) := by decide +kernel
theorem dX12_copy_5 : decode cX12_copy 5 = .ok (.iload_n 1, 1) := by decide +kernel
theorem dX12_copy_6 : decode cX12_copy 6 = .ok (.invokestatic 67, 3) := by decide +kernel
theorem dX12_copy_9 : decode cX12_copy 9 = .ok (.ifCond .eq 10, 3) := by decide +kernel
theorem dX12_copy_12 : decode cX12_copy 12 = .ok (.iload_n 3, 1) := by decide +kernel
theorem dX12_copy_13 : decode cX12_copy 13 = .ok (.invokestatic 67, 3) := by decide +kernel
theorem dX12_copy_16 : decode cX12_copy 16 = .ok (.ifCond .ne 6, 3) := by decide +kernel
theorem dX12_copy_19 : decode cX12_copy 19 = .ok (.ldc 73, 2) := by decide +kernel
theorem dX12_copy_21 : decode cX12_copy 21 = .ok (.ireturn, 1) := by decide +kernel
theorem dX12_copy_22 : decode cX12_copy 22 = .ok (.aload_n 0, 1) := by decide +kernel
theorem dX12_copy_23 : decode cX12_copy 23 = .ok (.iconst 0, 1) := by decide +kernel
theorem dX12_copy_24 : decode cX12_copy 24 = .ok (.putfield 57, 3) := by decide +kernel
theorem dX12_copy_27 : decode cX12_copy 27 = .ok (.aload_n 0, 1) := by decide +kernel
theorem dX12_copy_28 : decode cX12_copy 28 = .ok (.getfield 7, 3) := by decide +kernel
theorem dX12_copy_31 : decode cX12_copy 31 = .ok (.iload_n 1, 1) := by decide +kernel
theorem dX12_copy_32 : decode cX12_copy 32 = .ok (.iaload, 1) := by decide +kernel
theorem dX12_copy_33 : decode cX12_copy 33 = .ok (.ifCond .lt 12, 3) := by decide +kernel
theorem dX12_copy_36 : decode cX12_copy 36 = .ok (.aload_n 0, 1) := by decide +kernel
theorem dX12_copy_37 : decode cX12_copy 37 = .ok (.getfield 7, 3) := by decide +kernel
theorem dX12_copy_40 : decode cX12_copy 40 = .ok (.iload_n 3, 1) := by decide +kernel
theorem dX12_copy_41 : decode cX12_copy 41 = .ok (.iaload, 1) := by decide +kernel
theorem dX12_copy_42 : decode cX12_copy 42 = .ok (.ifCond .ge 9, 3) := by decide +kernel
theorem dX12_copy_45 : decode cX12_copy 45 = .ok (.aload_n 0, 1) := by decide +kernel
theorem dX12_copy_46 : decode cX12_copy 46 = .ok (.iconst 1, 1) := by decide +kernel
theorem dX12_copy_47 : decode cX12_copy 47 = .ok (.invokevirtual 74, 3) := by decide +kernel
theorem dX12_copy_50 : decode cX12_copy 50 = .ok (.ireturn, 1) := by decide +kernel
theorem dX12_copy_51 : decode cX12_copy 51 = .ok (.aload_n 0, 1) := by decide +kernel
theorem dX12_copy_52 : decode cX12_copy 52 = .ok (.getfield 7, 3) := by decide +kernel
theorem dX12_copy_55 : decode cX12_copy 55 = .ok (.iload_n 1, 1) := by decide +kernel
theorem dX12_copy_56 : decode cX12_copy 56 = .ok (.iaload, 1) := by decide +kernel
theorem dX12_copy_57 : decode cX12_copy 57 = .ok (.aload_n 0, 1) := by decide +kernel
theorem dX12_copy_58 : decode cX12_copy 58 = .ok (.getfield 7, 3) := by decide +kernel
theorem dX12_copy_61 : decode cX12_copy 61 = .ok (.iload_n 3, 1) := by decide +kernel
theorem dX12_copy_62 : decode cX12_copy 62 = .ok (.iaload, 1) := by decide +kernel
theorem dX12_copy_63 : decode cX12_copy 63 = .ok (.if_icmp .eq 9, 3) := by decide +kernel
theorem dX12_copy_66 : decode cX12_copy 66 = .ok (.aload_n 0, 1) := by decide +kernel
theorem dX12_copy_67 : decode cX12_copy 67 = .ok (.iconst 5, 1) := by decide +kernel
theorem dX12_copy_68 : decode cX12_copy 68 = .ok (.invokevirtual 74, 3) := by decide +kernel
theorem dX12_copy_71 : decode cX12_copy 71 = .ok (.ireturn, 1) := by decide +kernel
theorem dX12_copy_72 : decode cX12_copy 72 = .ok (.iload_n 2, 1) := by decide +kernel
theorem dX12_copy_73 : decode cX12_copy 73 = .ok (.ifCond .lt 48, 3) := by decide +kernel
theorem dX12_copy_76 : decode cX12_copy 76 = .ok (.iload 4, 2) := by decide +kernel
theorem dX12_copy_78 : decode cX12_copy 78 = .ok (.ifCond .lt 43, 3) := by decide +kernel
theorem dX12_copy_81 : decode cX12_copy 81 = .ok (.iload 5, 2) := by decide +kernel
theorem dX12_copy_83 : decode cX12_copy 83 = .ok (.ifCond .lt 38, 3) := by decide +kernel
theorem dX12_copy_86 : decode cX12_copy 86 = .ok (.iload_n 2, 1) := by decide +kernel
theorem dX12_copy_87 : decode cX12_copy 87 = .ok (.i2l, 1) := by decide +kernel
theorem dX12_copy_88 : decode cX12_copy 88 = .ok (.iload 5, 2) := by decide +kernel
theorem dX12_copy_90 : decode cX12_copy 90 = .ok (.i2l, 1) := by decide +kernel
theorem dX12_copy_91 : decode cX12_copy 91 = .ok (.ladd, 1) := by decide +kernel
theorem dX12_copy_92 : decode cX12_copy 92 = .ok (.aload_n 0, 1) := by decide +kernel
theorem dX12_copy_93 : decode cX12_copy 93 = .ok (.getfield 13, 3) := by decide +kernel
theorem dX12_copy_96 : decode cX12_copy 96 = .ok (.iload_n 1, 1) := by decide +kernel
theorem dX12_copy_97 : decode cX12_copy 97 = .ok (.iaload, 1) := by decide +kernel
theorem dX12_copy_98 : decode cX12_copy 98 = .ok (.i2l, 1) := by decide +kernel
theorem dX12_copy_99 : decode cX12_copy 99 = .ok (.lcmp, 1) := by decide +kernel
theorem dX12_copy_100 : decode cX12_copy 100 = .ok (.ifCond .gt 21, 3) := by decide +kernel
theorem dX12_copy_103 : decode cX12_copy 103 = .ok (.iload 4, 2) := by decide +kernel
theorem dX12_copy_105 : decode cX12_copy 105 = .ok (.i2l, 1) := by decide +kernel
theorem dX12_copy_106 : decode cX12_copy 106 = .ok (.iload 5, 2) := by decide +kernel
theorem dX12_copy_108 : decode cX12_copy 108 = .ok (.i2l, 1) := by decide +kernel
theorem dX12_copy_109 : decode cX12_copy 109 = .ok (.ladd, 1) := by decide +kernel
theorem dX12_copy_110 : decode cX12_copy 110 = .ok (.aload_n 0, 1) := by decide +kernel
theorem dX12_copy_111 : decode cX12_copy 111 = .ok (.getfield 13, 3) := by decide +kernel
theorem dX12_copy_114 : decode cX12_copy 114 = .ok (.iload_n 3, 1) := by decide +kernel
theorem dX12_copy_115 : decode cX12_copy 115 = .ok (.iaload, 1) := by decide +kernel
theorem dX12_copy_116 : decode cX12_copy 116 = .ok (.i2l, 1) := by decide +kernel
theorem dX12_copy_117 : decode cX12_copy 117 = .ok (.lcmp, 1) := by decide +kernel
theorem dX12_copy_118 : decode cX12_copy 118 = .ok (.ifCond .le 9, 3) := by decide +kernel
theorem dX12_copy_121 : decode cX12_copy 121 = .ok (.aload_n 0, 1) := by decide +kernel
theorem dX12_copy_122 : decode cX12_copy 122 = .ok (.iconst 2, 1) := by decide +kernel
theorem dX12_copy_123 : decode cX12_copy 123 = .ok (.invokevirtual 74, 3) := by decide +kernel
theorem dX12_copy_126 : decode cX12_copy 126 = .ok (.ireturn, 1) := by decide +kernel
theorem dX12_copy_127 : decode cX12_copy 127 = .ok (.iload_n 2, 1) := by decide +kernel
theorem dX12_copy_128 : decode cX12_copy 128 = .ok (.iload 4, 2) := by decide +kernel
theorem dX12_copy_130 : decode cX12_copy 130 = .ok (.if_icmp .lt 7, 3) := by decide +kernel
theorem dX12_copy_133 : decode cX12_copy 133 = .ok (.iconst 1, 1) := by decide +kernel
theorem dX12_copy_134 : decode cX12_copy 134 = .ok (.goto 4, 3) := by decide +kernel
theorem dX12_copy_137 : decode cX12_copy 137 = .ok (.iconst 0, 1) := by decide +kernel
theorem dX12_copy_138 : decode cX12_copy 138 = .ok (.istore 6, 2) := by decide +kernel
theorem dX12_copy_140 : decode cX12_copy 140 = .ok (.iconst 0, 1) := by decide +kernel
theorem dX12_copy_141 : decode cX12_copy 141 = .ok (.istore 7, 2) := by decide +kernel
theorem dX12_copy_143 : decode cX12_copy 143 = .ok (.iload 7, 2) := by decide +kernel
theorem dX12_copy_145 : decode cX12_copy 145 = .ok (.iload 5, 2) := by decide +kernel
theorem dX12_copy_147 : decode cX12_copy 147 = .ok (.if_icmp .ge 57, 3) := by decide +kernel
theorem dX12_copy_150 : decode cX12_copy 150 = .ok (.iload 6, 2) := by decide +kernel
theorem dX12_copy_152 : decode cX12_copy 152 = .ok (.ifCond .eq 8, 3) := by decide +kernel
theorem dX12_copy_155 : decode cX12_copy 155 = .ok (.iload 7, 2) := by decide +kernel
theorem dX12_copy_157 : decode cX12_copy 157 = .ok (.goto 10, 3) := by decide +kernel
theorem dX12_copy_160 : decode cX12_copy 160 = .ok (.iload 5, 2) := by decide +kernel
theorem dX12_copy_162 : decode cX12_copy 162 = .ok (.iconst 1, 1) := by decide +kernel
theorem dX12_copy_163 : decode cX12_copy 163 = .ok (.isub, 1) := by decide +kernel
theorem dX12_copy_164 : decode cX12_copy 164 = .ok (.iload 7, 2) := by decide +kernel
theorem dX12_copy_166 : decode cX12_copy 166 = .ok (.isub, 1) := by decide +kernel
theorem dX12_copy_167 : decode cX12_copy 167 = .ok (.istore 8, 2) := by decide +kernel
theorem dX12_copy_169 : decode cX12_copy 169 = .ok (.aload_n 0, 1) := by decide +kernel
theorem dX12_copy_170 : decode cX12_copy 170 = .ok (.getfield 16, 3) := by decide +kernel
theorem dX12_copy_173 : decode cX12_copy 173 = .ok (.bipush 40, 2) := by decide +kernel
theorem dX12_copy_175 : decode cX12_copy 175 = .ok (.iload_n 3, 1) := by decide +kernel
theorem dX12_copy_176 : decode cX12_copy 176 = .ok (.imul, 1) := by decide +kernel
theorem dX12_copy_177 : decode cX12_copy 177 = .ok (.iload 4, 2) := by decide +kernel
theorem dX12_copy_179 : decode cX12_copy 179 = .ok (.iadd, 1) := by decide +kernel
theorem dX12_copy_180 : decode cX12_copy 180 = .ok (.iload 8, 2) := by decide +kernel
theorem dX12_copy_182 : decode cX12_copy 182 = .ok (.iadd, 1) := by decide +kernel
theorem dX12_copy_183 : decode cX12_copy 183 = .ok (.aload_n 0, 1) := by decide +kernel
theorem dX12_copy_184 : decode cX12_copy 184 = .ok (.getfield 16, 3) := by decide +kernel
theorem dX12_copy_187 : decode cX12_copy 187 = .ok (.bipush 40, 2) := by decide +kernel
theorem dX12_copy_189 : decode cX12_copy 189 = .ok (.iload_n 1, 1) := by decide +kernel
theorem dX12_copy_190 : decode cX12_copy 190 = .ok (.imul, 1) := by decide +kernel
theorem dX12_copy_191 : decode cX12_copy 191 = .ok (.iload_n 2, 1) := by decide +kernel
theorem dX12_copy_192 : decode cX12_copy 192 = .ok (.iadd, 1) := by decide +kernel
theorem dX12_copy_193 : decode cX12_copy 193 = .ok (.iload 8, 2) := by decide +kernel
theorem dX12_copy_195 : decode cX12_copy 195 = .ok (.iadd, 1) := by decide +kernel
theorem dX12_copy_196 : decode cX12_copy 196 = .ok (.iaload, 1) := by decide +kernel
theorem dX12_copy_197 : decode cX12_copy 197 = .ok (.iastore, 1) := by decide +kernel
theorem dX12_copy_198 : decode cX12_copy 198 = .ok (.iinc 7 1, 3) := by decide +kernel
theorem dX12_copy_201 : decode cX12_copy 201 = .ok (.goto (-58), 3) := by decide +kernel
theorem dX12_copy_204 : decode cX12_copy 204 = .ok (.iload 5, 2) := by decide +kernel
theorem dX12_copy_206 : decode cX12_copy 206 = .ok (.ireturn, 1) := by decide +kernel
theorem dX12_drop_0 : decode cX12_drop 0 = .ok (.aload_n 0, 1) := by decide +kernel
theorem dX12_drop_1 : decode cX12_drop 1 = .ok (.iconst 0, 1) := by decide +kernel
theorem dX12_drop_2 : decode cX12_drop 2 = .ok (.putfield 53, 3) := by decide +kernel
theorem dX12_drop_5 : decode cX12_drop 5 = .ok (.iload_n 1, 1) := by decide +kernel
theorem dX12_drop_6 : decode cX12_drop 6 = .ok (.invokestatic 67, 3) := by decide +kernel
theorem dX12_drop_9 : decode cX12_drop 9 = .ok (.ifCond .ne 6, 3) := by decide +kernel
theorem dX12_drop_12 : decode cX12_drop 12 = .ok (.ldc 73, 2) := by decide +kernel
theorem dX12_drop_14 : decode cX12_drop 14 = .ok (.ireturn, 1) := by decide +kernel
theorem dX12_drop_15 : decode cX12_drop 15 = .ok (.aload_n 0, 1) := by decide +kernel
theorem dX12_drop_16 : decode cX12_drop 16 = .ok (.iconst 0, 1) := by decide +kernel
theorem dX12_drop_17 : decode cX12_drop 17 = .ok (.putfield 57, 3) := by decide +kernel
theorem dX12_drop_20 : decode cX12_drop 20 = .ok (.aload_n 0, 1) := by decide +kernel
theorem dX12_drop_21 : decode cX12_drop 21 = .ok (.getfield 7, 3) := by decide +kernel
theorem dX12_drop_24 : decode cX12_drop 24 = .ok (.iload_n 1, 1) := by decide +kernel
theorem dX12_drop_25 : decode cX12_drop 25 = .ok (.iaload, 1) := by decide +kernel
theorem dX12_drop_26 : decode cX12_drop 26 = .ok (.ifCond .ge 9, 3) := by decide +kernel
theorem dX12_drop_29 : decode cX12_drop 29 = .ok (.aload_n 0, 1) := by decide +kernel
theorem dX12_drop_30 : decode cX12_drop 30 = .ok (.iconst 1, 1) := by decide +kernel
theorem dX12_drop_31 : decode cX12_drop 31 = .ok (.invokevirtual 74, 3) := by decide +kernel
theorem dX12_drop_34 : decode cX12_drop 34 = .ok (.ireturn, 1) := by decide +kernel
theorem dX12_drop_35 : decode cX12_drop 35 = .ok (.aload_n 0, 1) := by decide +kernel
theorem dX12_drop_36 : decode cX12_drop 36 = .ok (.getfield 7, 3) := by decide +kernel
theorem dX12_drop_39 : decode cX12_drop 39 = .ok (.iload_n 1, 1) := by decide +kernel
theorem dX12_drop_40 : decode cX12_drop 40 = .ok (.iconst (-1), 1) := by decide +kernel
theorem dX12_drop_41 : decode cX12_drop 41 = .ok (.iastore, 1) := by decide +kernel
theorem dX12_drop_42 : decode cX12_drop 42 = .ok (.aload_n 0, 1) := by decide +kernel
theorem dX12_drop_43 : decode cX12_drop 43 = .ok (.getfield 13, 3) := by decide +kernel
theorem dX12_drop_46 : decode cX12_drop 46 = .ok (.iload_n 1, 1) := by decide +kernel
theorem dX12_drop_47 : decode cX12_drop 47 = .ok (.iaload, 1) := by decide +kernel
theorem dX12_drop_48 : decode cX12_drop 48 = .ok (.ireturn, 1) := by decide +kernel
theorem dX12_feed_0 : decode cX12_feed 0 = .ok (.aload_n 0, 1) := by decide +kernel
theorem dX12_feed_1 : decode cX12_feed 1 = .ok (.iconst 0, 1) := by decide +kernel
theorem dX12_feed_2 : decode cX12_feed 2 = .ok (.putfield 53, 3) := by decide +kernel
theorem dX12_feed_5 : decode cX12_feed 5 = .ok (.iload_n 1, 1) := by decide +kernel
theorem dX12_feed_6 : decode cX12_feed 6 = .ok (.i2l, 1) := by decide +kernel
theorem dX12_feed_7 : decode cX12_feed 7 = .ok (.lconst 0, 1) := by decide +kernel
theorem dX12_feed_8 : decode cX12_feed 8 = .ok (.ldc2_w 78, 3) := by decide +kernel
theorem dX12_feed_11 : decode cX12_feed 11 = .ok (.invokestatic 63, 3) := by decide +kernel
theorem dX12_feed_14 : decode cX12_feed 14 = .ok (.ifCond .ne 6, 3) := by decide +kernel
theorem dX12_feed_17 : decode cX12_feed 17 = .ok (.ldc 73, 2) := by decide +kernel
theorem dX12_feed_19 : decode cX12_feed 19 = .ok (.ireturn, 1) := by decide +kernel
theorem dX12_feed_20 : decode cX12_feed 20 = .ok (.aload_n 0, 1) := by decide +kernel
theorem dX12_feed_21 : decode cX12_feed 21 = .ok (.getfield 80, 3) := by decide +kernel
theorem dX12_feed_24 : decode cX12_feed 24 = .ok (.bipush 110, 2) := by decide +kernel
theorem dX12_feed_26 : decode cX12_feed 26 = .ok (.if_icmp .ne 6, 3) := by decide +kernel
theorem dX12_feed_29 : decode cX12_feed 29 = .ok (.ldc 83, 2) := by decide +kernel
theorem dX12_feed_31 : decode cX12_feed 31 = .ok (.ireturn, 1) := by decide +kernel
theorem dX12_feed_32 : decode cX12_feed 32 = .ok (.aload_n 0, 1) := by decide +kernel
theorem dX12_feed_33 : decode cX12_feed 33 = .ok (.getfield 31, 3) := by decide +kernel
theorem dX12_feed_36 : decode cX12_feed 36 = .ok (.aload_n 0, 1) := by decide +kernel
theorem dX12_feed_37 : decode cX12_feed 37 = .ok (.getfield 80, 3) := by decide +kernel
theorem dX12_feed_40 : decode cX12_feed 40 = .ok (.iload_n 1, 1) := by decide +kernel
theorem dX12_feed_41 : decode cX12_feed 41 = .ok (.iastore, 1) := by decide +kernel
theorem dX12_feed_42 : decode cX12_feed 42 = .ok (.aload_n 0, 1) := by decide +kernel
theorem dX12_feed_43 : decode cX12_feed 43 = .ok (.dup, 1) := by decide +kernel
theorem dX12_feed_44 : decode cX12_feed 44 = .ok (.getfield 80, 3) := by decide +kernel
theorem dX12_feed_47 : decode cX12_feed 47 = .ok (.iconst 1, 1) := by decide +kernel
theorem dX12_feed_48 : decode cX12_feed 48 = .ok (.iadd, 1) := by decide +kernel
theorem dX12_feed_49 : decode cX12_feed 49 = .ok (.putfield 80, 3) := by decide +kernel
theorem dX12_feed_52 : decode cX12_feed 52 = .ok (.aload_n 0, 1) := by decide +kernel
theorem dX12_feed_53 : decode cX12_feed 53 = .ok (.getfield 80, 3) := by decide +kernel
theorem dX12_feed_56 : decode cX12_feed 56 = .ok (.ireturn, 1) := by decide +kernel
theorem dX12_bad_0 : decode cX12_bad 0 = .ok (.aload_n 0, 1) := by decide +kernel
theorem dX12_bad_1 : decode cX12_bad 1 = .ok (.getfield 84, 3) := by decide +kernel
theorem dX12_bad_4 : decode cX12_bad 4 = .ok (.ifCond .ne 16, 3) := by decide +kernel
theorem dX12_bad_7 : decode cX12_bad 7 = .ok (.aload_n 0, 1) := by decide +kernel
theorem dX12_bad_8 : decode cX12_bad 8 = .ok (.iload_n 1, 1) := by decide +kernel
theorem dX12_bad_9 : decode cX12_bad 9 = .ok (.putfield 84, 3) := by decide +kernel
theorem dX12_bad_12 : decode cX12_bad 12 = .ok (.aload_n 0, 1) := by decide +kernel
theorem dX12_bad_13 : decode cX12_bad 13 = .ok (.aload_n 0, 1) := by decide +kernel
theorem dX12_bad_14 : decode cX12_bad 14 = .ok (.getfield 87, 3) := by decide +kernel
theorem dX12_bad_17 : decode cX12_bad 17 = .ok (.putfield 90, 3) := by decide +kernel
theorem dX12_bad_20 : decode cX12_bad 20 = .ok (.return_, 1) := by decide +kernel
theorem dX12_nextToken_0 : decode cX12_nextToken 0 = .ok (.aload_n 0, 1) := by decide +kernel
theorem dX12_nextToken_1 : decode cX12_nextToken 1 = .ok (.aload_n 0, 1) := by decide +kernel
theorem dX12_nextToken_2 : decode cX12_nextToken 2 = .ok (.getfield 93, 3) := by decide +kernel
theorem dX12_nextToken_5 : decode cX12_nextToken 5 = .ok (.putfield 87, 3) := by decide +kernel
theorem dX12_nextToken_8 : decode cX12_nextToken 8 = .ok (.aload_n 0, 1) := by decide +kernel
theorem dX12_nextToken_9 : decode cX12_nextToken 9 = .ok (.aload_n 0, 1) := by decide +kernel
theorem dX12_nextToken_10 : decode cX12_nextToken 10 = .ok (.getfield 93, 3) := by decide +kernel
theorem dX12_nextToken_13 : decode cX12_nextToken 13 = .ok (.aload_n 0, 1) := by decide +kernel
theorem dX12_nextToken_14 : decode cX12_nextToken 14 = .ok (.getfield 80, 3) := by decide +kernel
theorem dX12_nextToken_17 : decode cX12_nextToken 17 = .ok (.if_icmp .ge 15, 3) := by decide +kernel
theorem dX12_nextToken_20 : decode cX12_nextToken 20 = .ok (.aload_n 0, 1) := by decide +kernel
theorem dX12_nextToken_21 : decode cX12_nextToken 21 = .ok (.getfield 31, 3) := by decide +kernel
theorem dX12_nextToken_24 : decode cX12_nextToken 24 = .ok (.aload_n 0, 1) := by decide +kernel
theorem dX12_nextToken_25 : decode cX12_nextToken 25 = .ok (.getfield 93, 3) := by decide +kernel
theorem dX12_nextToken_28 : decode cX12_nextToken 28 = .ok (.iaload, 1) := by decide +kernel
theorem dX12_nextToken_29 : decode cX12_nextToken 29 = .ok (.goto 5, 3) := by decide +kernel
theorem dX12_nextToken_32 : decode cX12_nextToken 32 = .ok (.ldc 96, 2) := by decide +kernel
theorem dX12_nextToken_34 : decode cX12_nextToken 34 = .ok (.putfield 97, 3) := by decide +kernel
theorem dX12_nextToken_37 : decode cX12_nextToken 37 = .ok (.aload_n 0, 1) := by decide +kernel
theorem dX12_nextToken_38 : decode cX12_nextToken 38 = .ok (.aload_n 0, 1) := by decide +kernel
theorem dX12_nextToken_39 : decode cX12_nextToken 39 = .ok (.getfield 93, 3) := by decide +kernel
theorem dX12_nextToken_42 : decode cX12_nextToken 42 = .ok (.aload_n 0, 1) := by decide +kernel
theorem dX12_nextToken_43 : decode cX12_nextToken 43 = .ok (.getfield 80, 3) := by decide +kernel
theorem dX12_nextToken_46 : decode cX12_nextToken 46 = .ok (.if_icmp .ne 7, 3) := by decide +kernel
theorem dX12_nextToken_49 : decode cX12_nextToken 49 = .ok (.iconst 1, 1) := by decide +kernel
theorem dX12_nextToken_50 : decode cX12_nextToken 50 = .ok (.goto 68, 3) := by decide +kernel
theorem dX12_nextToken_53 : decode cX12_nextToken 53 = .ok (.aload_n 0, 1) := by decide +kernel
theorem dX12_nextToken_54 : decode cX12_nextToken 54 = .ok (.getfield 97, 3) := by decide +kernel
theorem dX12_nextToken_57 : decode cX12_nextToken 57 = .ok (.i2l, 1) := by decide +kernel
theorem dX12_nextToken_58 : decode cX12_nextToken 58 = .ok (.ldc2_w 100, 3) := by decide +kernel
theorem dX12_nextToken_61 : decode cX12_nextToken 61 = .ok (.ldc2_w 102, 3) := by decide +kernel
theorem dX12_nextToken_64 : decode cX12_nextToken 64 = .ok (.invokestatic 63, 3) := by decide +kernel
theorem dX12_nextToken_67 : decode cX12_nextToken 67 = .ok (.ifCond .eq 7, 3) := by decide +kernel
theorem dX12_nextToken_70 : decode cX12_nextToken 70 = .ok (.iconst 2, 1) := by decide +kernel
theorem dX12_nextToken_71 : decode cX12_nextToken 71 = .ok (.goto 47, 3) := by decide +kernel
theorem dX12_nextToken_74 : decode cX12_nextToken 74 = .ok (.aload_n 0, 1) := by decide +kernel
theorem dX12_nextToken_75 : decode cX12_nextToken 75 = .ok (.getfield 97, 3) := by decide +kernel
theorem dX12_nextToken_78 : decode cX12_nextToken 78 = .ok (.i2l, 1) := by decide +kernel
theorem dX12_nextToken_79 : decode cX12_nextToken 79 = .ok (.ldc2_w 104, 3) := by decide +kernel
theorem dX12_nextToken_82 : decode cX12_nextToken 82 = .ok (.ldc2_w 106, 3) := by decide +kernel
theorem dX12_nextToken_85 : decode cX12_nextToken 85 = .ok (.invokestatic 63, 3) := by decide +kernel
theorem dX12_nextToken_88 : decode cX12_nextToken 88 = .ok (.ifCond .eq 7, 3) := by decide +kernel
theorem dX12_nextToken_91 : decode cX12_nextToken 91 = .ok (.iconst 3, 1) := by decide +kernel
theorem dX12_nextToken_92 : decode cX12_nextToken 92 = .ok (.goto 26, 3) := by decide +kernel
theorem dX12_nextToken_95 : decode cX12_nextToken 95 = .ok (.aload_n 0, 1) := by decide +kernel
theorem dX12_nextToken_96 : decode cX12_nextToken 96 = .ok (.getfield 97, 3) := by decide +kernel
theorem dX12_nextToken_99 : decode cX12_nextToken 99 = .ok (.bipush 44, 2) := by decide +kernel
theorem dX12_nextToken_101 : decode cX12_nextToken 101 = .ok (.if_icmp .eq 12, 3) := by decide +kernel
theorem dX12_nextToken_104 : decode cX12_nextToken 104 = .ok (.aload_n 0, 1) := by decide +kernel
theorem dX12_nextToken_105 : decode cX12_nextToken 105 = .ok (.getfield 97, 3) := by decide +kernel
theorem dX12_nextToken_108 : decode cX12_nextToken 108 = .ok (.bipush 59, 2) := by decide +kernel
theorem dX12_nextToken_110 : decode cX12_nextToken 110 = .ok (.if_icmp .ne 7, 3) := by decide +kernel
theorem dX12_nextToken_113 : decode cX12_nextToken 113 = .ok (.iconst 4, 1) := by decide +kernel
theorem dX12_nextToken_114 : decode cX12_nextToken 114 = .ok (.goto 4, 3) := by decide +kernel
theorem dX12_nextToken_117 : decode cX12_nextToken 117 = .ok (.iconst 0, 1) := by decide +kernel
theorem dX12_nextToken_118 : decode cX12_nextToken 118 = .ok (.putfield 108, 3) := by decide +kernel
theorem dX12_nextToken_121 : decode cX12_nextToken 121 = .ok (.aload_n 0, 1) := by decide +kernel
theorem dX12_nextToken_122 : decode cX12_nextToken 122 = .ok (.dup, 1) := by decide +kernel
theorem dX12_nextToken_123 : decode cX12_nextToken 123 = .ok (.getfield 93, 3) := by decide +kernel
theorem dX12_nextToken_126 : decode cX12_nextToken 126 = .ok (.aload_n 0, 1) := by decide +kernel
theorem dX12_nextToken_127 : decode cX12_nextToken 127 = .ok (.getfield 93, 3) := by decide +kernel
theorem dX12_nextToken_130 : decode cX12_nextToken 130 = .ok (.aload_n 0, 1) := by decide +kernel
theorem dX12_nextToken_131 : decode cX12_nextToken 131 = .ok (.getfield 80, 3) := by decide +kernel
theorem dX12_nextToken_134 : decode cX12_nextToken 134 = .ok (.if_icmp .ge 7, 3) := by decide +kernel
theorem dX12_nextToken_137 : decode cX12_nextToken 137 = .ok (.iconst 1, 1) := by decide +kernel
theorem dX12_nextToken_138 : decode cX12_nextToken 138 = .ok (.goto 4, 3) := by decide +kernel
theorem dX12_nextToken_141 : decode cX12_nextToken 141 = .ok (.iconst 0, 1) := by decide +kernel
theorem dX12_nextToken_142 : decode cX12_nextToken 142 = .ok (.iadd, 1) := by decide +kernel
theorem dX12_nextToken_143 : decode cX12_nextToken 143 = .ok (.putfield 93, 3) := by decide +kernel
theorem dX12_nextToken_146 : decode cX12_nextToken 146 = .ok (.aload_n 0, 1) := by decide +kernel
theorem dX12_nextToken_147 : decode cX12_nextToken 147 = .ok (.getfield 108, 3) := by decide +kernel
theorem dX12_nextToken_150 : decode cX12_nextToken 150 = .ok (.iconst 3, 1) := by decide +kernel
theorem dX12_nextToken_151 : decode cX12_nextToken 151 = .ok (.if_icmp .ne 126, 3) := by decide +kernel
theorem dX12_nextToken_154 : decode cX12_nextToken 154 = .ok (.aload_n 0, 1) := by decide +kernel
theorem dX12_nextToken_155 : decode cX12_nextToken 155 = .ok (.dup, 1) := by decide +kernel
theorem dX12_nextToken_156 : decode cX12_nextToken 156 = .ok (.getfield 97, 3) := by decide +kernel
theorem dX12_nextToken_159 : decode cX12_nextToken 159 = .ok (.bipush 48, 2) := by decide +kernel
theorem dX12_nextToken_161 : decode cX12_nextToken 161 = .ok (.isub, 1) := by decide +kernel
theorem dX12_nextToken_162 : decode cX12_nextToken 162 = .ok (.putfield 97, 3) := by decide +kernel
theorem dX12_nextToken_165 : decode cX12_nextToken 165 = .ok (.aload_n 0, 1) := by decide +kernel
theorem dX12_nextToken_166 : decode cX12_nextToken 166 = .ok (.getfield 93, 3) := by decide +kernel
theorem dX12_nextToken_169 : decode cX12_nextToken 169 = .ok (.aload_n 0, 1) := by decide +kernel
theorem dX12_nextToken_170 : decode cX12_nextToken 170 = .ok (.getfield 80, 3) := by decide +kernel
theorem dX12_nextToken_173 : decode cX12_nextToken 173 = .ok (.if_icmp .ge 82, 3) := by decide +kernel
theorem dX12_nextToken_176 : decode cX12_nextToken 176 = .ok (.aload_n 0, 1) := by decide +kernel
theorem dX12_nextToken_177 : decode cX12_nextToken 177 = .ok (.getfield 31, 3) := by decide +kernel
theorem dX12_nextToken_180 : decode cX12_nextToken 180 = .ok (.aload_n 0, 1) := by decide +kernel
theorem dX12_nextToken_181 : decode cX12_nextToken 181 = .ok (.getfield 93, 3) := by decide +kernel
theorem dX12_nextToken_184 : decode cX12_nextToken 184 = .ok (.iaload, 1) := by decide +kernel
theorem dX12_nextToken_185 : decode cX12_nextToken 185 = .ok (.i2l, 1) := by decide +kernel
theorem dX12_nextToken_186 : decode cX12_nextToken 186 = .ok (.ldc2_w 104, 3) := by decide +kernel
theorem dX12_nextToken_189 : decode cX12_nextToken 189 = .ok (.ldc2_w 106, 3) := by decide +kernel
theorem dX12_nextToken_192 : decode cX12_nextToken 192 = .ok (.invokestatic 63, 3) := by decide +kernel
theorem dX12_nextToken_195 : decode cX12_nextToken 195 = .ok (.ifCond .eq 60, 3) := by decide +kernel
theorem dX12_nextToken_198 : decode cX12_nextToken 198 = .ok (.aload_n 0, 1) := by decide +kernel
theorem dX12_nextToken_199 : decode cX12_nextToken 199 = .ok (.aload_n 0, 1) := by decide +kernel
theorem dX12_nextToken_200 : decode cX12_nextToken 200 = .ok (.getfield 93, 3) := by decide +kernel
theorem dX12_nextToken_203 : decode cX12_nextToken 203 = .ok (.aload_n 0, 1) := by decide +kernel
theorem dX12_nextToken_204 : decode cX12_nextToken 204 = .ok (.getfield 87, 3) := by decide +kernel
theorem dX12_nextToken_207 : decode cX12_nextToken 207 = .ok (.isub, 1) := by decide +kernel
theorem dX12_nextToken_208 : decode cX12_nextToken 208 = .ok (.iconst 2, 1) := by decide +kernel
theorem dX12_nextToken_209 : decode cX12_nextToken 209 = .ok (.if_icmp .ge 26, 3) := by decide +kernel
theorem dX12_nextToken_212 : decode cX12_nextToken 212 = .ok (.bipush 10, 2) := by decide +kernel
theorem dX12_nextToken_214 : decode cX12_nextToken 214 = .ok (.aload_n 0, 1) := by decide +kernel
theorem dX12_nextToken_215 : decode cX12_nextToken 215 = .ok (.getfield 97, 3) := by decide +kernel
theorem dX12_nextToken_218 : decode cX12_nextToken 218 = .ok (.imul, 1) := by decide +kernel
theorem dX12_nextToken_219 : decode cX12_nextToken 219 = .ok (.aload_n 0, 1) := by decide +kernel
theorem dX12_nextToken_220 : decode cX12_nextToken 220 = .ok (.getfield 31, 3) := by decide +kernel
theorem dX12_nextToken_223 : decode cX12_nextToken 223 = .ok (.aload_n 0, 1) := by decide +kernel
theorem dX12_nextToken_224 : decode cX12_nextToken 224 = .ok (.getfield 93, 3) := by decide +kernel
theorem dX12_nextToken_227 : decode cX12_nextToken 227 = .ok (.iaload, 1) := by decide +kernel
theorem dX12_nextToken_228 : decode cX12_nextToken 228 = .ok (.iadd, 1) := by decide +kernel
theorem dX12_nextToken_229 : decode cX12_nextToken 229 = .ok (.bipush 48, 2) := by decide +kernel
theorem dX12_nextToken_231 : decode cX12_nextToken 231 = .ok (.isub, 1) := by decide +kernel
theorem dX12_nextToken_232 : decode cX12_nextToken 232 = .ok (.goto 7, 3) := by decide +kernel
theorem dX12_nextToken_235 : decode cX12_nextToken 235 = .ok (.aload_n 0, 1) := by decide +kernel
theorem dX12_nextToken_236 : decode cX12_nextToken 236 = .ok (.getfield 97, 3) := by decide +kernel
theorem dX12_nextToken_239 : decode cX12_nextToken 239 = .ok (.putfield 97, 3) := by decide +kernel
theorem dX12_nextToken_242 : decode cX12_nextToken 242 = .ok (.aload_n 0, 1) := by decide +kernel
theorem dX12_nextToken_243 : decode cX12_nextToken 243 = .ok (.dup, 1) := by decide +kernel
theorem dX12_nextToken_244 : decode cX12_nextToken 244 = .ok (.getfield 93, 3) := by decide +kernel
theorem dX12_nextToken_247 : decode cX12_nextToken 247 = .ok (.iconst 1, 1) := by decide +kernel
theorem dX12_nextToken_248 : decode cX12_nextToken 248 = .ok (.iadd, 1) := by decide +kernel
theorem dX12_nextToken_249 : decode cX12_nextToken 249 = .ok (.putfield 93, 3) := by decide +kernel
theorem dX12_nextToken_252 : decode cX12_nextToken 252 = .ok (.goto (-87), 3) := by decide +kernel
theorem dX12_nextToken_255 : decode cX12_nextToken 255 = .ok (.aload_n 0, 1) := by decide +kernel
theorem dX12_nextToken_256 : decode cX12_nextToken 256 = .ok (.aload_n 0, 1) := by decide +kernel
theorem dX12_nextToken_257 : decode cX12_nextToken 257 = .ok (.getfield 93, 3) := by decide +kernel
theorem dX12_nextToken_260 : decode cX12_nextToken 260 = .ok (.aload_n 0, 1) := by decide +kernel
theorem dX12_nextToken_261 : decode cX12_nextToken 261 = .ok (.getfield 87, 3) := by decide +kernel
theorem dX12_nextToken_264 : decode cX12_nextToken 264 = .ok (.isub, 1) := by decide +kernel
theorem dX12_nextToken_265 : decode cX12_nextToken 265 = .ok (.iconst 2, 1) := by decide +kernel
theorem dX12_nextToken_266 : decode cX12_nextToken 266 = .ok (.if_icmp .le 7, 3) := by decide +kernel
theorem dX12_nextToken_269 : decode cX12_nextToken 269 = .ok (.iconst 0, 1) := by decide +kernel
theorem dX12_nextToken_270 : decode cX12_nextToken 270 = .ok (.goto 4, 3) := by decide +kernel
theorem dX12_nextToken_273 : decode cX12_nextToken 273 = .ok (.iconst 3, 1) := by decide +kernel
theorem dX12_nextToken_274 : decode cX12_nextToken 274 = .ok (.putfield 108, 3) := by decide +kernel
theorem dX12_nextToken_277 : decode cX12_nextToken 277 = .ok (.return_, 1) := by decide +kernel
theorem dX12_must_0 : decode cX12_must 0 = .ok (.iload_n 1, 1) := by decide +kernel
theorem dX12_must_1 : decode cX12_must 1 = .ok (.ifCond .ne 8, 3) := by decide +kernel
theorem dX12_must_4 : decode cX12_must 4 = .ok (.aload_n 0, 1) := by decide +kernel
theorem dX12_must_5 : decode cX12_must 5 = .ok (.iconst 1, 1) := by decide +kernel
theorem dX12_must_6 : decode cX12_must 6 = .ok (.invokevirtual 111, 3) := by decide +kernel
theorem dX12_must_9 : decode cX12_must 9 = .ok (.aload_n 0, 1) := by decide +kernel
theorem dX12_must_10 : decode cX12_must 10 = .ok (.getfield 84, 3) := by decide +kernel
theorem dX12_must_13 : decode cX12_must 13 = .ok (.ifCond .ne 7, 3) := by decide +kernel
theorem dX12_must_16 : decode cX12_must 16 = .ok (.aload_n 0, 1) := by decide +kernel
theorem dX12_must_17 : decode cX12_must 17 = .ok (.invokevirtual 115, 3) := by decide +kernel
theorem dX12_must_20 : decode cX12_must 20 = .ok (.return_, 1) := by decide +kernel
theorem dX12_isLetter_0 : decode cX12_isLetter 0 = .ok (.aload_n 0, 1) := by decide +kernel
theorem dX12_isLetter_1 : decode cX12_isLetter 1 = .ok (.getfield 84, 3) := by decide +kernel
theorem dX12_isLetter_4 : decode cX12_isLetter 4 = .ok (.ifCond .ne 23, 3) := by decide +kernel
theorem dX12_isLetter_7 : decode cX12_isLetter 7 = .ok (.aload_n 0, 1) := by decide +kernel
theorem dX12_isLetter_8 : decode cX12_isLetter 8 = .ok (.getfield 108, 3) := by decide +kernel
theorem dX12_isLetter_11 : decode cX12_isLetter 11 = .ok (.iconst 2, 1) := by decide +kernel
theorem dX12_isLetter_12 : decode cX12_isLetter 12 = .ok (.if_icmp .ne 15, 3) := by decide +kernel
theorem dX12_isLetter_15 : decode cX12_isLetter 15 = .ok (.aload_n 0, 1) := by decide +kernel
theorem dX12_isLetter_16 : decode cX12_isLetter 16 = .ok (.getfield 97, 3) := by decide +kernel
theorem dX12_isLetter_19 : decode cX12_isLetter 19 = .ok (.iload_n 1, 1) := by decide +kernel
theorem dX12_isLetter_20 : decode cX12_isLetter 20 = .ok (.if_icmp .ne 7, 3) := by decide +kernel
theorem dX12_isLetter_23 : decode cX12_isLetter 23 = .ok (.iconst 1, 1) := by decide +kernel
theorem dX12_isLetter_24 : decode cX12_isLetter 24 = .ok (.goto 4, 3) := by decide +kernel
theorem dX12_isLetter_27 : decode cX12_isLetter 27 = .ok (.iconst 0, 1) := by decide +kernel
theorem dX12_isLetter_28 : decode cX12_isLetter 28 = .ok (.ireturn, 1) := by decide +kernel
theorem dX12_number_0 : decode cX12_number 0 = .ok (.aload_n 0, 1) := by decide +kernel
theorem dX12_number_1 : decode cX12_number 1 = .ok (.getfield 84, 3) := by decide +kernel
theorem dX12_number_4 : decode cX12_number 4 = .ok (.ifCond .ne 16, 3) := by decide +kernel
theorem dX12_number_7 : decode cX12_number 7 = .ok (.aload_n 0, 1) := by decide +kernel
theorem dX12_number_8 : decode cX12_number 8 = .ok (.getfield 108, 3) := by decide +kernel
theorem dX12_number_11 : decode cX12_number 11 = .ok (.iconst 3, 1) := by decide +kernel
theorem dX12_number_12 : decode cX12_number 12 = .ok (.if_icmp .eq 8, 3) := by decide +kernel
theorem dX12_number_15 : decode cX12_number 15 = .ok (.aload_n 0, 1) := by decide +kernel
theorem dX12_number_16 : decode cX12_number 16 = .ok (.iconst 1, 1) := by decide +kernel
theorem dX12_number_17 : decode cX12_number 17 = .ok (.invokevirtual 111, 3) := by decide +kernel
theorem dX12_number_20 : decode cX12_number 20 = .ok (.aload_n 0, 1) := by decide +kernel
theorem dX12_number_21 : decode cX12_number 21 = .ok (.getfield 84, 3) := by decide +kernel
theorem dX12_number_24 : decode cX12_number 24 = .ok (.ifCond .ne 23, 3) := by decide +kernel
theorem dX12_number_27 : decode cX12_number 27 = .ok (.aload_n 0, 1) := by decide +kernel
theorem dX12_number_28 : decode cX12_number 28 = .ok (.getfield 97, 3) := by decide +kernel
theorem dX12_number_31 : decode cX12_number 31 = .ok (.i2l, 1) := by decide +kernel
theorem dX12_number_32 : decode cX12_number 32 = .ok (.iload_n 1, 1) := by decide +kernel
theorem dX12_number_33 : decode cX12_number 33 = .ok (.i2l, 1) := by decide +kernel
theorem dX12_number_34 : decode cX12_number 34 = .ok (.iload_n 2, 1) := by decide +kernel
theorem dX12_number_35 : decode cX12_number 35 = .ok (.i2l, 1) := by decide +kernel
theorem dX12_number_36 : decode cX12_number 36 = .ok (.invokestatic 63, 3) := by decide +kernel
theorem dX12_number_39 : decode cX12_number 39 = .ok (.ifCond .ne 8, 3) := by decide +kernel
theorem dX12_number_42 : decode cX12_number 42 = .ok (.aload_n 0, 1) := by decide +kernel
theorem dX12_number_43 : decode cX12_number 43 = .ok (.iconst 2, 1) := by decide +kernel
theorem dX12_number_44 : decode cX12_number 44 = .ok (.invokevirtual 111, 3) := by decide +kernel
theorem dX12_number_47 : decode cX12_number 47 = .ok (.aload_n 0, 1) := by decide +kernel
theorem dX12_number_48 : decode cX12_number 48 = .ok (.getfield 84, 3) := by decide +kernel
theorem dX12_number_51 : decode cX12_number 51 = .ok (.ifCond .ne 10, 3) := by decide +kernel
theorem dX12_number_54 : decode cX12_number 54 = .ok (.aload_n 0, 1) := by decide +kernel
theorem dX12_number_55 : decode cX12_number 55 = .ok (.getfield 97, 3) := by decide +kernel
theorem dX12_number_58 : decode cX12_number 58 = .ok (.goto 4, 3) := by decide +kernel
theorem dX12_number_61 : decode cX12_number 61 = .ok (.iload_n 1, 1) := by decide +kernel
theorem dX12_number_62 : decode cX12_number 62 = .ok (.istore_n 3, 1) := by decide +kernel
theorem dX12_number_63 : decode cX12_number 63 = .ok (.aload_n 0, 1) := by decide +kernel
theorem dX12_number_64 : decode cX12_number 64 = .ok (.iconst 1, 1) := by decide +kernel
theorem dX12_number_65 : decode cX12_number 65 = .ok (.invokevirtual 118, 3) := by decide +kernel
theorem dX12_number_68 : decode cX12_number 68 = .ok (.iload_n 3, 1) := by decide +kernel
theorem dX12_number_69 : decode cX12_number 69 = .ok (.ireturn, 1) := by decide +kernel
theorem dX12_mustSign_0 : decode cX12_mustSign 0 = .ok (.aload_n 0, 1) := by decide +kernel
theorem dX12_mustSign_1 : decode cX12_mustSign 1 = .ok (.aload_n 0, 1) := by decide +kernel
theorem dX12_mustSign_2 : decode cX12_mustSign 2 = .ok (.getfield 108, 3) := by decide +kernel
theorem dX12_mustSign_5 : decode cX12_mustSign 5 = .ok (.iconst 4, 1) := by decide +kernel
theorem dX12_mustSign_6 : decode cX12_mustSign 6 = .ok (.if_icmp .ne 15, 3) := by decide +kernel
theorem dX12_mustSign_9 : decode cX12_mustSign 9 = .ok (.aload_n 0, 1) := by decide +kernel
theorem dX12_mustSign_10 : decode cX12_mustSign 10 = .ok (.getfield 97, 3) := by decide +kernel
theorem dX12_mustSign_13 : decode cX12_mustSign 13 = .ok (.iload_n 1, 1) := by decide +kernel
theorem dX12_mustSign_14 : decode cX12_mustSign 14 = .ok (.if_icmp .ne 7, 3) := by decide +kernel
theorem dX12_mustSign_17 : decode cX12_mustSign 17 = .ok (.iconst 1, 1) := by decide +kernel
theorem dX12_mustSign_18 : decode cX12_mustSign 18 = .ok (.goto 4, 3) := by decide +kernel
theorem dX12_mustSign_21 : decode cX12_mustSign 21 = .ok (.iconst 0, 1) := by decide +kernel
theorem dX12_mustSign_22 : decode cX12_mustSign 22 = .ok (.invokevirtual 118, 3) := by decide +kernel
theorem dX12_mustSign_25 : decode cX12_mustSign 25 = .ok (.return_, 1) := by decide +kernel
theorem dX12_begin_0 : decode cX12_begin 0 = .ok (.aload_n 0, 1) := by decide +kernel
theorem dX12_begin_1 : decode cX12_begin 1 = .ok (.iconst 0, 1) := by decide +kernel
theorem dX12_begin_2 : decode cX12_begin 2 = .ok (.putfield 93, 3) := by decide +kernel
theorem dX12_begin_5 : decode cX12_begin 5 = .ok (.aload_n 0, 1) := by decide +kernel
theorem dX12_begin_6 : decode cX12_begin 6 = .ok (.iconst 0, 1) := by decide +kernel
theorem dX12_begin_7 : decode cX12_begin 7 = .ok (.putfield 84, 3) := by decide +kernel
theorem dX12_begin_10 : decode cX12_begin 10 = .ok (.aload_n 0, 1) := by decide +kernel
theorem dX12_begin_11 : decode cX12_begin 11 = .ok (.invokevirtual 115, 3) := by decide +kernel
theorem dX12_begin_14 : decode cX12_begin 14 = .ok (.return_, 1) := by decide +kernel
theorem dX12_failed_0 : decode cX12_failed 0 = .ok (.aload_n 0, 1) := by decide +kernel
theorem dX12_failed_1 : decode cX12_failed 1 = .ok (.getfield 84, 3) := by decide +kernel
theorem dX12_failed_4 : decode cX12_failed 4 = .ok (.ifCond .ne 16, 3) := by decide +kernel
theorem dX12_failed_7 : decode cX12_failed 7 = .ok (.aload_n 0, 1) := by decide +kernel
theorem dX12_failed_8 : decode cX12_failed 8 = .ok (.getfield 108, 3) := by decide +kernel
theorem dX12_failed_11 : decode cX12_failed 11 = .ok (.iconst 1, 1) := by decide +kernel
theorem dX12_failed_12 : decode cX12_failed 12 = .ok (.if_icmp .eq 8, 3) := by decide +kernel
theorem dX12_failed_15 : decode cX12_failed 15 = .ok (.aload_n 0, 1) := by decide +kernel
theorem dX12_failed_16 : decode cX12_failed 16 = .ok (.iconst 1, 1) := by decide +kernel
theorem dX12_failed_17 : decode cX12_failed 17 = .ok (.invokevirtual 111, 3) := by decide +kernel
theorem dX12_failed_20 : decode cX12_failed 20 = .ok (.aload_n 0, 1) := by decide +kernel
theorem dX12_failed_21 : decode cX12_failed 21 = .ok (.iconst 0, 1) := by decide +kernel
theorem dX12_failed_22 : decode cX12_failed 22 = .ok (.putfield 80, 3) := by decide +kernel
theorem dX12_failed_25 : decode cX12_failed 25 = .ok (.aload_n 0, 1) := by decide +kernel
theorem dX12_failed_26 : decode cX12_failed 26 = .ok (.aload_n 0, 1) := by decide +kernel
theorem dX12_failed_27 : decode cX12_failed 27 = .ok (.getfield 84, 3) := by decide +kernel
theorem dX12_failed_30 : decode cX12_failed 30 = .ok (.ifCond .le 10, 3) := by decide +kernel
theorem dX12_failed_33 : decode cX12_failed 33 = .ok (.aload_n 0, 1) := by decide +kernel
theorem dX12_failed_34 : decode cX12_failed 34 = .ok (.getfield 84, 3) := by decide +kernel
theorem dX12_failed_37 : decode cX12_failed 37 = .ok (.goto 7, 3) := by decide +kernel
theorem dX12_failed_40 : decode cX12_failed 40 = .ok (.aload_n 0, 1) := by decide +kernel
theorem dX12_failed_41 : decode cX12_failed 41 = .ok (.getfield 122, 3) := by decide +kernel
theorem dX12_failed_44 : decode cX12_failed 44 = .ok (.putfield 122, 3) := by decide +kernel
theorem dX12_failed_47 : decode cX12_failed 47 = .ok (.aload_n 0, 1) := by decide +kernel
theorem dX12_failed_48 : decode cX12_failed 48 = .ok (.getfield 84, 3) := by decide +kernel
theorem dX12_failed_51 : decode cX12_failed 51 = .ok (.ifCond .le 7, 3) := by decide +kernel
theorem dX12_failed_54 : decode cX12_failed 54 = .ok (.iconst 1, 1) := by decide +kernel
theorem dX12_failed_55 : decode cX12_failed 55 = .ok (.goto 4, 3) := by decide +kernel
theorem dX12_failed_58 : decode cX12_failed 58 = .ok (.iconst 0, 1) := by decide +kernel
theorem dX12_failed_59 : decode cX12_failed 59 = .ok (.ireturn, 1) := by decide +kernel
theorem dX12_fault_0 : decode cX12_fault 0 = .ok (.aload_n 0, 1) := by decide +kernel
theorem dX12_fault_1 : decode cX12_fault 1 = .ok (.iconst 0, 1) := by decide +kernel
theorem dX12_fault_2 : decode cX12_fault 2 = .ok (.putfield 53, 3) := by decide +kernel
theorem dX12_fault_5 : decode cX12_fault 5 = .ok (.aload_n 0, 1) := by decide +kernel
theorem dX12_fault_6 : decode cX12_fault 6 = .ok (.getfield 122, 3) := by decide +kernel
theorem dX12_fault_9 : decode cX12_fault 9 = .ok (.ireturn, 1) := by decide +kernel
theorem dX12_kindBy_0 : decode cX12_kindBy 0 = .ok (.iload_n 0, 1) := by decide +kernel
theorem dX12_kindBy_1 : decode cX12_kindBy 1 = .ok (.bipush 108, 2) := by decide +kernel
theorem dX12_kindBy_3 : decode cX12_kindBy 3 = .ok (.if_icmp .ne 7, 3) := by decide +kernel
theorem dX12_kindBy_6 : decode cX12_kindBy 6 = .ok (.iconst 1, 1) := by decide +kernel
theorem dX12_kindBy_7 : decode cX12_kindBy 7 = .ok (.goto 45, 3) := by decide +kernel
theorem dX12_kindBy_10 : decode cX12_kindBy 10 = .ok (.iload_n 0, 1) := by decide +kernel
theorem dX12_kindBy_11 : decode cX12_kindBy 11 = .ok (.bipush 98, 2) := by decide +kernel
theorem dX12_kindBy_13 : decode cX12_kindBy 13 = .ok (.if_icmp .ne 7, 3) := by decide +kernel
theorem dX12_kindBy_16 : decode cX12_kindBy 16 = .ok (.iconst 2, 1) := by decide +kernel
theorem dX12_kindBy_17 : decode cX12_kindBy 17 = .ok (.goto 35, 3) := by decide +kernel
theorem dX12_kindBy_20 : decode cX12_kindBy 20 = .ok (.iload_n 0, 1) := by decide +kernel
theorem dX12_kindBy_21 : decode cX12_kindBy 21 = .ok (.bipush 99, 2) := by decide +kernel
theorem dX12_kindBy_23 : decode cX12_kindBy 23 = .ok (.if_icmp .ne 7, 3) := by decide +kernel
theorem dX12_kindBy_26 : decode cX12_kindBy 26 = .ok (.iconst 3, 1) := by decide +kernel
theorem dX12_kindBy_27 : decode cX12_kindBy 27 = .ok (.goto 25, 3) := by decide +kernel
theorem dX12_kindBy_30 : decode cX12_kindBy 30 = .ok (.iload_n 0, 1) := by decide +kernel
theorem dX12_kindBy_31 : decode cX12_kindBy 31 = .ok (.bipush 107, 2) := by decide +kernel
theorem dX12_kindBy_33 : decode cX12_kindBy 33 = .ok (.if_icmp .ne 7, 3) := by decide +kernel
theorem dX12_kindBy_36 : decode cX12_kindBy 36 = .ok (.iconst 4, 1) := by decide +kernel
theorem dX12_kindBy_37 : decode cX12_kindBy 37 = .ok (.goto 15, 3) := by decide +kernel
theorem dX12_kindBy_40 : decode cX12_kindBy 40 = .ok (.iload_n 0, 1) := by decide +kernel
theorem dX12_kindBy_41 : decode cX12_kindBy 41 = .ok (.bipush 115, 2) := by decide +kernel
theorem dX12_kindBy_43 : decode cX12_kindBy 43 = .ok (.if_icmp .ne 7, 3) := by decide +kernel
theorem dX12_kindBy_46 : decode cX12_kindBy 46 = .ok (.iconst 5, 1) := by decide +kernel
theorem dX12_kindBy_47 : decode cX12_kindBy 47 = .ok (.goto 5, 3) := by decide +kernel
theorem dX12_kindBy_50 : decode cX12_kindBy 50 = .ok (.ldc 96, 2) := by decide +kernel
theorem dX12_kindBy_52 : decode cX12_kindBy 52 = .ok (.ireturn, 1) := by decide +kernel
theorem dX12_isSort_0 : decode cX12_isSort 0 = .ok (.aload_n 0, 1) := by decide +kernel
theorem dX12_isSort_1 : decode cX12_isSort 1 = .ok (.getfield 84, 3) := by decide +kernel
theorem dX12_isSort_4 : decode cX12_isSort 4 = .ok (.ifCond .ne 27, 3) := by decide +kernel
theorem dX12_isSort_7 : decode cX12_isSort 7 = .ok (.aload_n 0, 1) := by decide +kernel
theorem dX12_isSort_8 : decode cX12_isSort 8 = .ok (.getfield 108, 3) := by decide +kernel
theorem dX12_isSort_11 : decode cX12_isSort 11 = .ok (.iconst 2, 1) := by decide +kernel
theorem dX12_isSort_12 : decode cX12_isSort 12 = .ok (.if_icmp .ne 19, 3) := by decide +kernel
theorem dX12_isSort_15 : decode cX12_isSort 15 = .ok (.aload_n 0, 1) := by decide +kernel
theorem dX12_isSort_16 : decode cX12_isSort 16 = .ok (.getfield 97, 3) := by decide +kernel
theorem dX12_isSort_19 : decode cX12_isSort 19 = .ok (.invokestatic 125, 3) := by decide +kernel
theorem dX12_isSort_22 : decode cX12_isSort 22 = .ok (.ldc 96, 2) := by decide +kernel
theorem dX12_isSort_24 : decode cX12_isSort 24 = .ok (.if_icmp .eq 7, 3) := by decide +kernel
theorem dX12_isSort_27 : decode cX12_isSort 27 = .ok (.iconst 1, 1) := by decide +kernel
theorem dX12_isSort_28 : decode cX12_isSort 28 = .ok (.goto 4, 3) := by decide +kernel
theorem dX12_isSort_31 : decode cX12_isSort 31 = .ok (.iconst 0, 1) := by decide +kernel
theorem dX12_isSort_32 : decode cX12_isSort 32 = .ok (.ireturn, 1) := by decide +kernel
theorem dX12_isRoomNext_0 : decode cX12_isRoomNext 0 = .ok (.aload_n 0, 1) := by decide +kernel
theorem dX12_isRoomNext_1 : decode cX12_isRoomNext 1 = .ok (.getfield 84, 3) := by decide +kernel
theorem dX12_isRoomNext_4 : decode cX12_isRoomNext 4 = .ok (.ifCond .ne 24, 3) := by decide +kernel
theorem dX12_isRoomNext_7 : decode cX12_isRoomNext 7 = .ok (.aload_n 0, 1) := by decide +kernel
theorem dX12_isRoomNext_8 : decode cX12_isRoomNext 8 = .ok (.getfield 108, 3) := by decide +kernel
theorem dX12_isRoomNext_11 : decode cX12_isRoomNext 11 = .ok (.iconst 2, 1) := by decide +kernel
theorem dX12_isRoomNext_12 : decode cX12_isRoomNext 12 = .ok (.if_icmp .ne 16, 3) := by decide +kernel
theorem dX12_isRoomNext_15 : decode cX12_isRoomNext 15 = .ok (.aload_n 0, 1) := by decide +kernel
theorem dX12_isRoomNext_16 : decode cX12_isRoomNext 16 = .ok (.getfield 97, 3) := by decide +kernel
theorem dX12_isRoomNext_19 : decode cX12_isRoomNext 19 = .ok (.bipush 114, 2) := by decide +kernel
theorem dX12_isRoomNext_21 : decode cX12_isRoomNext 21 = .ok (.if_icmp .ne 7, 3) := by decide +kernel
theorem dX12_isRoomNext_24 : decode cX12_isRoomNext 24 = .ok (.iconst 1, 1) := by decide +kernel
theorem dX12_isRoomNext_25 : decode cX12_isRoomNext 25 = .ok (.goto 4, 3) := by decide +kernel
theorem dX12_isRoomNext_28 : decode cX12_isRoomNext 28 = .ok (.iconst 0, 1) := by decide +kernel
theorem dX12_isRoomNext_29 : decode cX12_isRoomNext 29 = .ok (.ireturn, 1) := by decide +kernel
theorem dX12_readRoom_0 : decode cX12_readRoom 0 = .ok (.aload_n 0, 1) := by decide +kernel
theorem dX12_readRoom_1 : decode cX12_readRoom 1 = .ok (.getfield 22, 3) := by decide +kernel
theorem dX12_readRoom_4 : decode cX12_readRoom 4 = .ok (.iconst 1, 1) := by decide +kernel
theorem dX12_readRoom_5 : decode cX12_readRoom 5 = .ok (.iaload, 1) := by decide +kernel
theorem dX12_readRoom_6 : decode cX12_readRoom 6 = .ok (.bipush 8, 2) := by decide +kernel
theorem dX12_readRoom_8 : decode cX12_readRoom 8 = .ok (.if_icmp .ne 8, 3) := by decide +kernel
theorem dX12_readRoom_11 : decode cX12_readRoom 11 = .ok (.aload_n 0, 1) := by decide +kernel
theorem dX12_readRoom_12 : decode cX12_readRoom 12 = .ok (.iconst 3, 1) := by decide +kernel
theorem dX12_readRoom_13 : decode cX12_readRoom 13 = .ok (.invokevirtual 111, 3) := by decide +kernel
theorem dX12_readRoom_16 : decode cX12_readRoom 16 = .ok (.aload_n 0, 1) := by decide +kernel
theorem dX12_readRoom_17 : decode cX12_readRoom 17 = .ok (.iconst 1, 1) := by decide +kernel
theorem dX12_readRoom_18 : decode cX12_readRoom 18 = .ok (.invokevirtual 118, 3) := by decide +kernel
theorem dX12_readRoom_21 : decode cX12_readRoom 21 = .ok (.aload_n 0, 1) := by decide +kernel
theorem dX12_readRoom_22 : decode cX12_readRoom 22 = .ok (.iconst 0, 1) := by decide +kernel
theorem dX12_readRoom_23 : decode cX12_readRoom 23 = .ok (.bipush 20, 2) := by decide +kernel
theorem dX12_readRoom_25 : decode cX12_readRoom 25 = .ok (.invokevirtual 128, 3) := by decide +kernel
theorem dX12_readRoom_28 : decode cX12_readRoom 28 = .ok (.istore_n 1, 1) := by decide +kernel
theorem dX12_readRoom_29 : decode cX12_readRoom 29 = .ok (.aload_n 0, 1) := by decide +kernel
theorem dX12_readRoom_30 : decode cX12_readRoom 30 = .ok (.bipush 59, 2) := by decide +kernel
theorem dX12_readRoom_32 : decode cX12_readRoom 32 = .ok (.invokevirtual 132, 3) := by decide +kernel
theorem dX12_readRoom_35 : decode cX12_readRoom 35 = .ok (.aload_n 0, 1) := by decide +kernel
theorem dX12_readRoom_36 : decode cX12_readRoom 36 = .ok (.getfield 84, 3) := by decide +kernel
theorem dX12_readRoom_39 : decode cX12_readRoom 39 = .ok (.ifCond .ne 28, 3) := by decide +kernel
theorem dX12_readRoom_42 : decode cX12_readRoom 42 = .ok (.aload_n 0, 1) := by decide +kernel
theorem dX12_readRoom_43 : decode cX12_readRoom 43 = .ok (.getfield 22, 3) := by decide +kernel
theorem dX12_readRoom_46 : decode cX12_readRoom 46 = .ok (.bipush 6, 2) := by decide +kernel
theorem dX12_readRoom_48 : decode cX12_readRoom 48 = .ok (.aload_n 0, 1) := by decide +kernel
theorem dX12_readRoom_49 : decode cX12_readRoom 49 = .ok (.getfield 22, 3) := by decide +kernel
theorem dX12_readRoom_52 : decode cX12_readRoom 52 = .ok (.iconst 1, 1) := by decide +kernel
theorem dX12_readRoom_53 : decode cX12_readRoom 53 = .ok (.iaload, 1) := by decide +kernel
theorem dX12_readRoom_54 : decode cX12_readRoom 54 = .ok (.iadd, 1) := by decide +kernel
theorem dX12_readRoom_55 : decode cX12_readRoom 55 = .ok (.iload_n 1, 1) := by decide +kernel
theorem dX12_readRoom_56 : decode cX12_readRoom 56 = .ok (.iastore, 1) := by decide +kernel
theorem dX12_readRoom_57 : decode cX12_readRoom 57 = .ok (.aload_n 0, 1) := by decide +kernel
theorem dX12_readRoom_58 : decode cX12_readRoom 58 = .ok (.getfield 22, 3) := by decide +kernel
theorem dX12_readRoom_61 : decode cX12_readRoom 61 = .ok (.iconst 1, 1) := by decide +kernel
theorem dX12_readRoom_62 : decode cX12_readRoom 62 = .ok (.dup2, 1) := by decide +kernel
theorem dX12_readRoom_63 : decode cX12_readRoom 63 = .ok (.iaload, 1) := by decide +kernel
theorem dX12_readRoom_64 : decode cX12_readRoom 64 = .ok (.iconst 1, 1) := by decide +kernel
theorem dX12_readRoom_65 : decode cX12_readRoom 65 = .ok (.iadd, 1) := by decide +kernel
theorem dX12_readRoom_66 : decode cX12_readRoom 66 = .ok (.iastore, 1) := by decide +kernel
theorem dX12_readRoom_67 : decode cX12_readRoom 67 = .ok (.return_, 1) := by decide +kernel
theorem dX12_otherRoom_0 : decode cX12_otherRoom 0 = .ok (.aload_n 0, 1) := by decide +kernel
theorem dX12_otherRoom_1 : decode cX12_otherRoom 1 = .ok (.getfield 84, 3) := by decide +kernel
theorem dX12_otherRoom_4 : decode cX12_otherRoom 4 = .ok (.ifCond .ne 24, 3) := by decide +kernel
theorem dX12_otherRoom_7 : decode cX12_otherRoom 7 = .ok (.aload_n 0, 1) := by decide +kernel
theorem dX12_otherRoom_8 : decode cX12_otherRoom 8 = .ok (.getfield 108, 3) := by decide +kernel
theorem dX12_otherRoom_11 : decode cX12_otherRoom 11 = .ok (.iconst 3, 1) := by decide +kernel
theorem dX12_otherRoom_12 : decode cX12_otherRoom 12 = .ok (.if_icmp .ne 16, 3) := by decide +kernel
theorem dX12_otherRoom_15 : decode cX12_otherRoom 15 = .ok (.aload_n 0, 1) := by decide +kernel
theorem dX12_otherRoom_16 : decode cX12_otherRoom 16 = .ok (.getfield 97, 3) := by decide +kernel
theorem dX12_otherRoom_19 : decode cX12_otherRoom 19 = .ok (.iload_n 1, 1) := by decide +kernel
theorem dX12_otherRoom_20 : decode cX12_otherRoom 20 = .ok (.if_icmp .ne 8, 3) := by decide +kernel
theorem dX12_otherRoom_23 : decode cX12_otherRoom 23 = .ok (.aload_n 0, 1) := by decide +kernel
theorem dX12_otherRoom_24 : decode cX12_otherRoom 24 = .ok (.iconst 2, 1) := by decide +kernel
theorem dX12_otherRoom_25 : decode cX12_otherRoom 25 = .ok (.invokevirtual 111, 3) := by decide +kernel
theorem dX12_otherRoom_28 : decode cX12_otherRoom 28 = .ok (.aload_n 0, 1) := by decide +kernel
theorem dX12_otherRoom_29 : decode cX12_otherRoom 29 = .ok (.iconst 0, 1) := by decide +kernel
theorem dX12_otherRoom_30 : decode cX12_otherRoom 30 = .ok (.aload_n 0, 1) := by decide +kernel
theorem dX12_otherRoom_31 : decode cX12_otherRoom 31 = .ok (.getfield 22, 3) := by decide +kernel
theorem dX12_otherRoom_34 : decode cX12_otherRoom 34 = .ok (.iconst 1, 1) := by decide +kernel
theorem dX12_otherRoom_35 : decode cX12_otherRoom 35 = .ok (.iaload, 1) := by decide +kernel
theorem dX12_otherRoom_36 : decode cX12_otherRoom 36 = .ok (.iconst 1, 1) := by decide +kernel
theorem dX12_otherRoom_37 : decode cX12_otherRoom 37 = .ok (.isub, 1) := by decide +kernel
theorem dX12_otherRoom_38 : decode cX12_otherRoom 38 = .ok (.invokevirtual 128, 3) := by decide +kernel
theorem dX12_otherRoom_41 : decode cX12_otherRoom 41 = .ok (.ireturn, 1) := by decide +kernel
theorem dX12_readDoor_0 : decode cX12_readDoor 0 = .ok (.aload_n 0, 1) := by decide +kernel
theorem dX12_readDoor_1 : decode cX12_readDoor 1 = .ok (.getfield 97, 3) := by decide +kernel
theorem dX12_readDoor_4 : decode cX12_readDoor 4 = .ok (.invokestatic 125, 3) := by decide +kernel
theorem dX12_readDoor_7 : decode cX12_readDoor 7 = .ok (.istore_n 1, 1) := by decide +kernel
theorem dX12_readDoor_8 : decode cX12_readDoor 8 = .ok (.aload_n 0, 1) := by decide +kernel
theorem dX12_readDoor_9 : decode cX12_readDoor 9 = .ok (.getfield 22, 3) := by decide +kernel
theorem dX12_readDoor_12 : decode cX12_readDoor 12 = .ok (.iconst 0, 1) := by decide +kernel
theorem dX12_readDoor_13 : decode cX12_readDoor 13 = .ok (.iaload, 1) := by decide +kernel
theorem dX12_readDoor_14 : decode cX12_readDoor 14 = .ok (.bipush 8, 2) := by decide +kernel
theorem dX12_readDoor_16 : decode cX12_readDoor 16 = .ok (.if_icmp .ne 8, 3) := by decide +kernel
theorem dX12_readDoor_19 : decode cX12_readDoor 19 = .ok (.aload_n 0, 1) := by decide +kernel
theorem dX12_readDoor_20 : decode cX12_readDoor 20 = .ok (.iconst 3, 1) := by decide +kernel
theorem dX12_readDoor_21 : decode cX12_readDoor 21 = .ok (.invokevirtual 111, 3) := by decide +kernel
theorem dX12_readDoor_24 : decode cX12_readDoor 24 = .ok (.aload_n 0, 1) := by decide +kernel
theorem dX12_readDoor_25 : decode cX12_readDoor 25 = .ok (.iconst 1, 1) := by decide +kernel
theorem dX12_readDoor_26 : decode cX12_readDoor 26 = .ok (.invokevirtual 118, 3) := by decide +kernel
theorem dX12_readDoor_29 : decode cX12_readDoor 29 = .ok (.aload_n 0, 1) := by decide +kernel
theorem dX12_readDoor_30 : decode cX12_readDoor 30 = .ok (.iconst 0, 1) := by decide +kernel
theorem dX12_readDoor_31 : decode cX12_readDoor 31 = .ok (.aload_n 0, 1) := by decide +kernel
theorem dX12_readDoor_32 : decode cX12_readDoor 32 = .ok (.getfield 22, 3) := by decide +kernel
theorem dX12_readDoor_35 : decode cX12_readDoor 35 = .ok (.iconst 1, 1) := by decide +kernel
theorem dX12_readDoor_36 : decode cX12_readDoor 36 = .ok (.iaload, 1) := by decide +kernel
theorem dX12_readDoor_37 : decode cX12_readDoor 37 = .ok (.iconst 1, 1) := by decide +kernel
theorem dX12_readDoor_38 : decode cX12_readDoor 38 = .ok (.isub, 1) := by decide +kernel
theorem dX12_readDoor_39 : decode cX12_readDoor 39 = .ok (.invokevirtual 128, 3) := by decide +kernel
theorem dX12_readDoor_42 : decode cX12_readDoor 42 = .ok (.istore_n 2, 1) := by decide +kernel
theorem dX12_readDoor_43 : decode cX12_readDoor 43 = .ok (.aload_n 0, 1) := by decide +kernel
theorem dX12_readDoor_44 : decode cX12_readDoor 44 = .ok (.bipush 44, 2) := by decide +kernel
theorem dX12_readDoor_46 : decode cX12_readDoor 46 = .ok (.invokevirtual 132, 3) := by decide +kernel
theorem dX12_readDoor_49 : decode cX12_readDoor 49 = .ok (.aload_n 0, 1) := by decide +kernel
theorem dX12_readDoor_50 : decode cX12_readDoor 50 = .ok (.iload_n 2, 1) := by decide +kernel
theorem dX12_readDoor_51 : decode cX12_readDoor 51 = .ok (.invokevirtual 135, 3) := by decide +kernel
theorem dX12_readDoor_54 : decode cX12_readDoor 54 = .ok (.istore_n 3, 1) := by decide +kernel
theorem dX12_readDoor_55 : decode cX12_readDoor 55 = .ok (.aload_n 0, 1) := by decide +kernel
theorem dX12_readDoor_56 : decode cX12_readDoor 56 = .ok (.bipush 44, 2) := by decide +kernel
theorem dX12_readDoor_58 : decode cX12_readDoor 58 = .ok (.invokevirtual 132, 3) := by decide +kernel
theorem dX12_readDoor_61 : decode cX12_readDoor 61 = .ok (.aload_n 0, 1) := by decide +kernel
theorem dX12_readDoor_62 : decode cX12_readDoor 62 = .ok (.iconst 0, 1) := by decide +kernel
theorem dX12_readDoor_63 : decode cX12_readDoor 63 = .ok (.bipush 9, 2) := by decide +kernel
theorem dX12_readDoor_65 : decode cX12_readDoor 65 = .ok (.invokevirtual 128, 3) := by decide +kernel
theorem dX12_readDoor_68 : decode cX12_readDoor 68 = .ok (.istore 4, 2) := by decide +kernel
theorem dX12_readDoor_70 : decode cX12_readDoor 70 = .ok (.aload_n 0, 1) := by decide +kernel
theorem dX12_readDoor_71 : decode cX12_readDoor 71 = .ok (.bipush 59, 2) := by decide +kernel
theorem dX12_readDoor_73 : decode cX12_readDoor 73 = .ok (.invokevirtual 132, 3) := by decide +kernel
theorem dX12_readDoor_76 : decode cX12_readDoor 76 = .ok (.aload_n 0, 1) := by decide +kernel
theorem dX12_readDoor_77 : decode cX12_readDoor 77 = .ok (.getfield 84, 3) := by decide +kernel
theorem dX12_readDoor_80 : decode cX12_readDoor 80 = .ok (.ifCond .ne 75, 3) := by decide +kernel
theorem dX12_readDoor_83 : decode cX12_readDoor 83 = .ok (.bipush 14, 2) := by decide +kernel
theorem dX12_readDoor_85 : decode cX12_readDoor 85 = .ok (.iconst 5, 1) := by decide +kernel
theorem dX12_readDoor_86 : decode cX12_readDoor 86 = .ok (.aload_n 0, 1) := by decide +kernel
theorem dX12_readDoor_87 : decode cX12_readDoor 87 = .ok (.getfield 22, 3) := by decide +kernel
theorem dX12_readDoor_90 : decode cX12_readDoor 90 = .ok (.iconst 0, 1) := by decide +kernel
theorem dX12_readDoor_91 : decode cX12_readDoor 91 = .ok (.iaload, 1) := by decide +kernel
theorem dX12_readDoor_92 : decode cX12_readDoor 92 = .ok (.imul, 1) := by decide +kernel
theorem dX12_readDoor_93 : decode cX12_readDoor 93 = .ok (.iadd, 1) := by decide +kernel
theorem dX12_readDoor_94 : decode cX12_readDoor 94 = .ok (.istore 5, 2) := by decide +kernel
theorem dX12_readDoor_96 : decode cX12_readDoor 96 = .ok (.aload_n 0, 1) := by decide +kernel
theorem dX12_readDoor_97 : decode cX12_readDoor 97 = .ok (.getfield 22, 3) := by decide +kernel
theorem dX12_readDoor_100 : decode cX12_readDoor 100 = .ok (.iload 5, 2) := by decide +kernel
theorem dX12_readDoor_102 : decode cX12_readDoor 102 = .ok (.iload_n 1, 1) := by decide +kernel
theorem dX12_readDoor_103 : decode cX12_readDoor 103 = .ok (.iastore, 1) := by decide +kernel
theorem dX12_readDoor_104 : decode cX12_readDoor 104 = .ok (.aload_n 0, 1) := by decide +kernel
theorem dX12_readDoor_105 : decode cX12_readDoor 105 = .ok (.getfield 22, 3) := by decide +kernel
theorem dX12_readDoor_108 : decode cX12_readDoor 108 = .ok (.iload 5, 2) := by decide +kernel
theorem dX12_readDoor_110 : decode cX12_readDoor 110 = .ok (.iconst 1, 1) := by decide +kernel
theorem dX12_readDoor_111 : decode cX12_readDoor 111 = .ok (.iadd, 1) := by decide +kernel
theorem dX12_readDoor_112 : decode cX12_readDoor 112 = .ok (.iload_n 2, 1) := by decide +kernel
theorem dX12_readDoor_113 : decode cX12_readDoor 113 = .ok (.iastore, 1) := by decide +kernel
theorem dX12_readDoor_114 : decode cX12_readDoor 114 = .ok (.aload_n 0, 1) := by decide +kernel
theorem dX12_readDoor_115 : decode cX12_readDoor 115 = .ok (.getfield 22, 3) := by decide +kernel
theorem dX12_readDoor_118 : decode cX12_readDoor 118 = .ok (.iload 5, 2) := by decide +kernel
theorem dX12_readDoor_120 : decode cX12_readDoor 120 = .ok (.iconst 2, 1) := by decide +kernel
theorem dX12_readDoor_121 : decode cX12_readDoor 121 = .ok (.iadd, 1) := by decide +kernel
theorem dX12_readDoor_122 : decode cX12_readDoor 122 = .ok (.iload_n 3, 1) := by decide +kernel
theorem dX12_readDoor_123 : decode cX12_readDoor 123 = .ok (.iastore, 1) := by decide +kernel
theorem dX12_readDoor_124 : decode cX12_readDoor 124 = .ok (.aload_n 0, 1) := by decide +kernel
theorem dX12_readDoor_125 : decode cX12_readDoor 125 = .ok (.getfield 22, 3) := by decide +kernel
theorem dX12_readDoor_128 : decode cX12_readDoor 128 = .ok (.iload 5, 2) := by decide +kernel
theorem dX12_readDoor_130 : decode cX12_readDoor 130 = .ok (.iconst 3, 1) := by decide +kernel
theorem dX12_readDoor_131 : decode cX12_readDoor 131 = .ok (.iadd, 1) := by decide +kernel
theorem dX12_readDoor_132 : decode cX12_readDoor 132 = .ok (.iload 4, 2) := by decide +kernel
theorem dX12_readDoor_134 : decode cX12_readDoor 134 = .ok (.iastore, 1) := by decide +kernel
theorem dX12_readDoor_135 : decode cX12_readDoor 135 = .ok (.aload_n 0, 1) := by decide +kernel
theorem dX12_readDoor_136 : decode cX12_readDoor 136 = .ok (.getfield 22, 3) := by decide +kernel
theorem dX12_readDoor_139 : decode cX12_readDoor 139 = .ok (.iload 5, 2) := by decide +kernel
theorem dX12_readDoor_141 : decode cX12_readDoor 141 = .ok (.iconst 4, 1) := by decide +kernel
theorem dX12_readDoor_142 : decode cX12_readDoor 142 = .ok (.iadd, 1) := by decide +kernel
theorem dX12_readDoor_143 : decode cX12_readDoor 143 = .ok (.iconst 0, 1) := by decide +kernel
theorem dX12_readDoor_144 : decode cX12_readDoor 144 = .ok (.iastore, 1) := by decide +kernel
theorem dX12_readDoor_145 : decode cX12_readDoor 145 = .ok (.aload_n 0, 1) := by decide +kernel
theorem dX12_readDoor_146 : decode cX12_readDoor 146 = .ok (.getfield 22, 3) := by decide +kernel
theorem dX12_readDoor_149 : decode cX12_readDoor 149 = .ok (.iconst 0, 1) := by decide +kernel
theorem dX12_readDoor_150 : decode cX12_readDoor 150 = .ok (.dup2, 1) := by decide +kernel
theorem dX12_readDoor_151 : decode cX12_readDoor 151 = .ok (.iaload, 1) := by decide +kernel
theorem dX12_readDoor_152 : decode cX12_readDoor 152 = .ok (.iconst 1, 1) := by decide +kernel
theorem dX12_readDoor_153 : decode cX12_readDoor 153 = .ok (.iadd, 1) := by decide +kernel
theorem dX12_readDoor_154 : decode cX12_readDoor 154 = .ok (.iastore, 1) := by decide +kernel
theorem dX12_readDoor_155 : decode cX12_readDoor 155 = .ok (.return_, 1) := by decide +kernel
theorem dX12_house_0 : decode cX12_house 0 = .ok (.aload_n 0, 1) := by decide +kernel
theorem dX12_house_1 : decode cX12_house 1 = .ok (.iconst 0, 1) := by decide +kernel
theorem dX12_house_2 : decode cX12_house 2 = .ok (.putfield 53, 3) := by decide +kernel
theorem dX12_house_5 : decode cX12_house 5 = .ok (.aload_n 0, 1) := by decide +kernel
theorem dX12_house_6 : decode cX12_house 6 = .ok (.invokevirtual 138, 3) := by decide +kernel
theorem dX12_house_9 : decode cX12_house 9 = .ok (.iconst 0, 1) := by decide +kernel
theorem dX12_house_10 : decode cX12_house 10 = .ok (.istore_n 1, 1) := by decide +kernel
theorem dX12_house_11 : decode cX12_house 11 = .ok (.iload_n 1, 1) := by decide +kernel
theorem dX12_house_12 : decode cX12_house 12 = .ok (.bipush 54, 2) := by decide +kernel
theorem dX12_house_14 : decode cX12_house 14 = .ok (.if_icmp .ge 16, 3) := by decide +kernel
theorem dX12_house_17 : decode cX12_house 17 = .ok (.aload_n 0, 1) := by decide +kernel
theorem dX12_house_18 : decode cX12_house 18 = .ok (.getfield 22, 3) := by decide +kernel
theorem dX12_house_21 : decode cX12_house 21 = .ok (.iload_n 1, 1) := by decide +kernel
theorem dX12_house_22 : decode cX12_house 22 = .ok (.iconst 0, 1) := by decide +kernel
theorem dX12_house_23 : decode cX12_house 23 = .ok (.iastore, 1) := by decide +kernel
theorem dX12_house_24 : decode cX12_house 24 = .ok (.iinc 1 1, 3) := by decide +kernel
theorem dX12_house_27 : decode cX12_house 27 = .ok (.goto (-16), 3) := by decide +kernel
theorem dX12_house_30 : decode cX12_house 30 = .ok (.aload_n 0, 1) := by decide +kernel
theorem dX12_house_31 : decode cX12_house 31 = .ok (.aload_n 0, 1) := by decide +kernel
theorem dX12_house_32 : decode cX12_house 32 = .ok (.bipush 104, 2) := by decide +kernel
theorem dX12_house_34 : decode cX12_house 34 = .ok (.invokevirtual 141, 3) := by decide +kernel
theorem dX12_house_37 : decode cX12_house 37 = .ok (.invokevirtual 118, 3) := by decide +kernel
theorem dX12_house_40 : decode cX12_house 40 = .ok (.aload_n 0, 1) := by decide +kernel
theorem dX12_house_41 : decode cX12_house 41 = .ok (.getfield 22, 3) := by decide +kernel
theorem dX12_house_44 : decode cX12_house 44 = .ok (.iconst 2, 1) := by decide +kernel
theorem dX12_house_45 : decode cX12_house 45 = .ok (.aload_n 0, 1) := by decide +kernel
theorem dX12_house_46 : decode cX12_house 46 = .ok (.iconst 1, 1) := by decide +kernel
theorem dX12_house_47 : decode cX12_house 47 = .ok (.bipush 9, 2) := by decide +kernel
theorem dX12_house_49 : decode cX12_house 49 = .ok (.invokevirtual 128, 3) := by decide +kernel
theorem dX12_house_52 : decode cX12_house 52 = .ok (.iastore, 1) := by decide +kernel
theorem dX12_house_53 : decode cX12_house 53 = .ok (.aload_n 0, 1) := by decide +kernel
theorem dX12_house_54 : decode cX12_house 54 = .ok (.bipush 44, 2) := by decide +kernel
theorem dX12_house_56 : decode cX12_house 56 = .ok (.invokevirtual 132, 3) := by decide +kernel
theorem dX12_house_59 : decode cX12_house 59 = .ok (.aload_n 0, 1) := by decide +kernel
theorem dX12_house_60 : decode cX12_house 60 = .ok (.getfield 22, 3) := by decide +kernel
theorem dX12_house_63 : decode cX12_house 63 = .ok (.iconst 3, 1) := by decide +kernel
theorem dX12_house_64 : decode cX12_house 64 = .ok (.aload_n 0, 1) := by decide +kernel
theorem dX12_house_65 : decode cX12_house 65 = .ok (.iconst 1, 1) := by decide +kernel
theorem dX12_house_66 : decode cX12_house 66 = .ok (.bipush 60, 2) := by decide +kernel
theorem dX12_house_68 : decode cX12_house 68 = .ok (.invokevirtual 128, 3) := by decide +kernel
theorem dX12_house_71 : decode cX12_house 71 = .ok (.iastore, 1) := by decide +kernel
theorem dX12_house_72 : decode cX12_house 72 = .ok (.aload_n 0, 1) := by decide +kernel
theorem dX12_house_73 : decode cX12_house 73 = .ok (.bipush 44, 2) := by decide +kernel
theorem dX12_house_75 : decode cX12_house 75 = .ok (.invokevirtual 132, 3) := by decide +kernel
theorem dX12_house_78 : decode cX12_house 78 = .ok (.aload_n 0, 1) := by decide +kernel
theorem dX12_house_79 : decode cX12_house 79 = .ok (.getfield 22, 3) := by decide +kernel
theorem dX12_house_82 : decode cX12_house 82 = .ok (.iconst 4, 1) := by decide +kernel
theorem dX12_house_83 : decode cX12_house 83 = .ok (.aload_n 0, 1) := by decide +kernel
theorem dX12_house_84 : decode cX12_house 84 = .ok (.iconst 0, 1) := by decide +kernel
theorem dX12_house_85 : decode cX12_house 85 = .ok (.bipush 63, 2) := by decide +kernel
theorem dX12_house_87 : decode cX12_house 87 = .ok (.invokevirtual 128, 3) := by decide +kernel
theorem dX12_house_90 : decode cX12_house 90 = .ok (.iastore, 1) := by decide +kernel
theorem dX12_house_91 : decode cX12_house 91 = .ok (.aload_n 0, 1) := by decide +kernel
theorem dX12_house_92 : decode cX12_house 92 = .ok (.bipush 59, 2) := by decide +kernel
theorem dX12_house_94 : decode cX12_house 94 = .ok (.invokevirtual 132, 3) := by decide +kernel
theorem dX12_house_97 : decode cX12_house 97 = .ok (.iconst 0, 1) := by decide +kernel
theorem dX12_house_98 : decode cX12_house 98 = .ok (.istore_n 1, 1) := by decide +kernel
theorem dX12_house_99 : decode cX12_house 99 = .ok (.iload_n 1, 1) := by decide +kernel
theorem dX12_house_100 : decode cX12_house 100 = .ok (.iconst 2, 1) := by decide +kernel
theorem dX12_house_101 : decode cX12_house 101 = .ok (.if_icmp .ge 28, 3) := by decide +kernel
theorem dX12_house_104 : decode cX12_house 104 = .ok (.aload_n 0, 1) := by decide +kernel
theorem dX12_house_105 : decode cX12_house 105 = .ok (.invokevirtual 144, 3) := by decide +kernel
theorem dX12_house_108 : decode cX12_house 108 = .ok (.ifCond .ne 11, 3) := by decide +kernel
theorem dX12_house_111 : decode cX12_house 111 = .ok (.aload_n 0, 1) := by decide +kernel
theorem dX12_house_112 : decode cX12_house 112 = .ok (.iconst 1, 1) := by decide +kernel
theorem dX12_house_113 : decode cX12_house 113 = .ok (.invokevirtual 111, 3) := by decide +kernel
theorem dX12_house_116 : decode cX12_house 116 = .ok (.goto 7, 3) := by decide +kernel
theorem dX12_house_119 : decode cX12_house 119 = .ok (.aload_n 0, 1) := by decide +kernel
theorem dX12_house_120 : decode cX12_house 120 = .ok (.invokevirtual 148, 3) := by decide +kernel
theorem dX12_house_123 : decode cX12_house 123 = .ok (.iinc 1 1, 3) := by decide +kernel
theorem dX12_house_126 : decode cX12_house 126 = .ok (.goto (-27), 3) := by decide +kernel
theorem dX12_house_129 : decode cX12_house 129 = .ok (.aload_n 0, 1) := by decide +kernel
theorem dX12_house_130 : decode cX12_house 130 = .ok (.invokevirtual 144, 3) := by decide +kernel
theorem dX12_house_133 : decode cX12_house 133 = .ok (.ifCond .eq 10, 3) := by decide +kernel
theorem dX12_house_136 : decode cX12_house 136 = .ok (.aload_n 0, 1) := by decide +kernel
theorem dX12_house_137 : decode cX12_house 137 = .ok (.invokevirtual 148, 3) := by decide +kernel
theorem dX12_house_140 : decode cX12_house 140 = .ok (.goto (-11), 3) := by decide +kernel
theorem dX12_house_143 : decode cX12_house 143 = .ok (.aload_n 0, 1) := by decide +kernel
theorem dX12_house_144 : decode cX12_house 144 = .ok (.invokevirtual 151, 3) := by decide +kernel
theorem dX12_house_147 : decode cX12_house 147 = .ok (.ifCond .ne 8, 3) := by decide +kernel
theorem dX12_house_150 : decode cX12_house 150 = .ok (.aload_n 0, 1) := by decide +kernel
theorem dX12_house_151 : decode cX12_house 151 = .ok (.iconst 1, 1) := by decide +kernel
theorem dX12_house_152 : decode cX12_house 152 = .ok (.invokevirtual 111, 3) := by decide +kernel
theorem dX12_house_155 : decode cX12_house 155 = .ok (.aload_n 0, 1) := by decide +kernel
theorem dX12_house_156 : decode cX12_house 156 = .ok (.invokevirtual 151, 3) := by decide +kernel
theorem dX12_house_159 : decode cX12_house 159 = .ok (.ifCond .eq 10, 3) := by decide +kernel
theorem dX12_house_162 : decode cX12_house 162 = .ok (.aload_n 0, 1) := by decide +kernel
theorem dX12_house_163 : decode cX12_house 163 = .ok (.invokevirtual 154, 3) := by decide +kernel
theorem dX12_house_166 : decode cX12_house 166 = .ok (.goto (-11), 3) := by decide +kernel
theorem dX12_house_169 : decode cX12_house 169 = .ok (.aload_n 0, 1) := by decide +kernel
theorem dX12_house_170 : decode cX12_house 170 = .ok (.invokevirtual 157, 3) := by decide +kernel
theorem dX12_house_173 : decode cX12_house 173 = .ok (.ifCond .eq 11, 3) := by decide +kernel
theorem dX12_house_176 : decode cX12_house 176 = .ok (.ldc 160, 2) := by decide +kernel
theorem dX12_house_178 : decode cX12_house 178 = .ok (.aload_n 0, 1) := by decide +kernel
theorem dX12_house_179 : decode cX12_house 179 = .ok (.getfield 90, 3) := by decide +kernel
theorem dX12_house_182 : decode cX12_house 182 = .ok (.isub, 1) := by decide +kernel
theorem dX12_house_183 : decode cX12_house 183 = .ok (.ireturn, 1) := by decide +kernel
theorem dX12_house_184 : decode cX12_house 184 = .ok (.aload_n 0, 1) := by decide +kernel
theorem dX12_house_185 : decode cX12_house 185 = .ok (.iconst 0, 1) := by decide +kernel
theorem dX12_house_186 : decode cX12_house 186 = .ok (.putfield 161, 3) := by decide +kernel
theorem dX12_house_189 : decode cX12_house 189 = .ok (.aload_n 0, 1) := by decide +kernel
theorem dX12_house_190 : decode cX12_house 190 = .ok (.iconst 0, 1) := by decide +kernel
theorem dX12_house_191 : decode cX12_house 191 = .ok (.putfield 164, 3) := by decide +kernel
theorem dX12_house_194 : decode cX12_house 194 = .ok (.iconst 0, 1) := by decide +kernel
theorem dX12_house_195 : decode cX12_house 195 = .ok (.istore_n 1, 1) := by decide +kernel
theorem dX12_house_196 : decode cX12_house 196 = .ok (.iload_n 1, 1) := by decide +kernel
theorem dX12_house_197 : decode cX12_house 197 = .ok (.bipush 54, 2) := by decide +kernel
theorem dX12_house_199 : decode cX12_house 199 = .ok (.if_icmp .ge 21, 3) := by decide +kernel
theorem dX12_house_202 : decode cX12_house 202 = .ok (.aload_n 0, 1) := by decide +kernel
theorem dX12_house_203 : decode cX12_house 203 = .ok (.getfield 19, 3) := by decide +kernel
theorem dX12_house_206 : decode cX12_house 206 = .ok (.iload_n 1, 1) := by decide +kernel
theorem dX12_house_207 : decode cX12_house 207 = .ok (.aload_n 0, 1) := by decide +kernel
theorem dX12_house_208 : decode cX12_house 208 = .ok (.getfield 22, 3) := by decide +kernel
theorem dX12_house_211 : decode cX12_house 211 = .ok (.iload_n 1, 1) := by decide +kernel
theorem dX12_house_212 : decode cX12_house 212 = .ok (.iaload, 1) := by decide +kernel
theorem dX12_house_213 : decode cX12_house 213 = .ok (.iastore, 1) := by decide +kernel
theorem dX12_house_214 : decode cX12_house 214 = .ok (.iinc 1 1, 3) := by decide +kernel
theorem dX12_house_217 : decode cX12_house 217 = .ok (.goto (-21), 3) := by decide +kernel
theorem dX12_house_220 : decode cX12_house 220 = .ok (.aload_n 0, 1) := by decide +kernel
theorem dX12_house_221 : decode cX12_house 221 = .ok (.getfield 19, 3) := by decide +kernel
theorem dX12_house_224 : decode cX12_house 224 = .ok (.iconst 0, 1) := by decide +kernel
theorem dX12_house_225 : decode cX12_house 225 = .ok (.iaload, 1) := by decide +kernel
theorem dX12_house_226 : decode cX12_house 226 = .ok (.ireturn, 1) := by decide +kernel
theorem dX12_isThere_0 : decode cX12_isThere 0 = .ok (.aload_n 0, 1) := by decide +kernel
theorem dX12_isThere_1 : decode cX12_isThere 1 = .ok (.getfield 19, 3) := by decide +kernel
theorem dX12_isThere_4 : decode cX12_isThere 4 = .ok (.iconst 1, 1) := by decide +kernel
theorem dX12_isThere_5 : decode cX12_isThere 5 = .ok (.iaload, 1) := by decide +kernel
theorem dX12_isThere_6 : decode cX12_isThere 6 = .ok (.ifCond .le 7, 3) := by decide +kernel
theorem dX12_isThere_9 : decode cX12_isThere 9 = .ok (.iconst 1, 1) := by decide +kernel
theorem dX12_isThere_10 : decode cX12_isThere 10 = .ok (.goto 4, 3) := by decide +kernel
theorem dX12_isThere_13 : decode cX12_isThere 13 = .ok (.iconst 0, 1) := by decide +kernel
theorem dX12_isThere_14 : decode cX12_isThere 14 = .ok (.ireturn, 1) := by decide +kernel
theorem dX12_isDoor_0 : decode cX12_isDoor 0 = .ok (.iload_n 1, 1) := by decide +kernel
theorem dX12_isDoor_1 : decode cX12_isDoor 1 = .ok (.i2l, 1) := by decide +kernel
theorem dX12_isDoor_2 : decode cX12_isDoor 2 = .ok (.lconst 0, 1) := by decide +kernel
theorem dX12_isDoor_3 : decode cX12_isDoor 3 = .ok (.aload_n 0, 1) := by decide +kernel
theorem dX12_isDoor_4 : decode cX12_isDoor 4 = .ok (.getfield 19, 3) := by decide +kernel
theorem dX12_isDoor_7 : decode cX12_isDoor 7 = .ok (.iconst 0, 1) := by decide +kernel
theorem dX12_isDoor_8 : decode cX12_isDoor 8 = .ok (.iaload, 1) := by decide +kernel
theorem dX12_isDoor_9 : decode cX12_isDoor 9 = .ok (.iconst 1, 1) := by decide +kernel
theorem dX12_isDoor_10 : decode cX12_isDoor 10 = .ok (.isub, 1) := by decide +kernel
theorem dX12_isDoor_11 : decode cX12_isDoor 11 = .ok (.i2l, 1) := by decide +kernel
theorem dX12_isDoor_12 : decode cX12_isDoor 12 = .ok (.invokestatic 63, 3) := by decide +kernel
theorem dX12_isDoor_15 : decode cX12_isDoor 15 = .ok (.ireturn, 1) := by decide +kernel
theorem dX12_isRoom_0 : decode cX12_isRoom 0 = .ok (.iload_n 1, 1) := by decide +kernel
theorem dX12_isRoom_1 : decode cX12_isRoom 1 = .ok (.i2l, 1) := by decide +kernel
theorem dX12_isRoom_2 : decode cX12_isRoom 2 = .ok (.lconst 0, 1) := by decide +kernel
theorem dX12_isRoom_3 : decode cX12_isRoom 3 = .ok (.aload_n 0, 1) := by decide +kernel
theorem dX12_isRoom_4 : decode cX12_isRoom 4 = .ok (.getfield 19, 3) := by decide +kernel
theorem dX12_isRoom_7 : decode cX12_isRoom 7 = .ok (.iconst 1, 1) := by decide +kernel
theorem dX12_isRoom_8 : decode cX12_isRoom 8 = .ok (.iaload, 1) := by decide +kernel
theorem dX12_isRoom_9 : decode cX12_isRoom 9 = .ok (.iconst 1, 1) := by decide +kernel
theorem dX12_isRoom_10 : decode cX12_isRoom 10 = .ok (.isub, 1) := by decide +kernel
theorem dX12_isRoom_11 : decode cX12_isRoom 11 = .ok (.i2l, 1) := by decide +kernel
theorem dX12_isRoom_12 : decode cX12_isRoom 12 = .ok (.invokestatic 63, 3) := by decide +kernel
theorem dX12_isRoom_15 : decode cX12_isRoom 15 = .ok (.ireturn, 1) := by decide +kernel
theorem dX12_bits_0 : decode cX12_bits 0 = .ok (.iconst 0, 1) := by decide +kernel
theorem dX12_bits_1 : decode cX12_bits 1 = .ok (.istore_n 1, 1) := by decide +kernel
theorem dX12_bits_2 : decode cX12_bits 2 = .ok (.iconst 0, 1) := by decide +kernel
theorem dX12_bits_3 : decode cX12_bits 3 = .ok (.istore_n 2, 1) := by decide +kernel
theorem dX12_bits_4 : decode cX12_bits 4 = .ok (.iload_n 2, 1) := by decide +kernel
theorem dX12_bits_5 : decode cX12_bits 5 = .ok (.bipush 8, 2) := by decide +kernel
theorem dX12_bits_7 : decode cX12_bits 7 = .ok (.if_icmp .ge 17, 3) := by decide +kernel
theorem dX12_bits_10 : decode cX12_bits 10 = .ok (.iload_n 1, 1) := by decide +kernel
theorem dX12_bits_11 : decode cX12_bits 11 = .ok (.iload_n 0, 1) := by decide +kernel
theorem dX12_bits_12 : decode cX12_bits 12 = .ok (.iload_n 2, 1) := by decide +kernel
theorem dX12_bits_13 : decode cX12_bits 13 = .ok (.ishr, 1) := by decide +kernel
theorem dX12_bits_14 : decode cX12_bits 14 = .ok (.iconst 1, 1) := by decide +kernel
theorem dX12_bits_15 : decode cX12_bits 15 = .ok (.iand, 1) := by decide +kernel
theorem dX12_bits_16 : decode cX12_bits 16 = .ok (.iadd, 1) := by decide +kernel
theorem dX12_bits_17 : decode cX12_bits 17 = .ok (.istore_n 1, 1) := by decide +kernel
theorem dX12_bits_18 : decode cX12_bits 18 = .ok (.iinc 2 1, 3) := by decide +kernel
theorem dX12_bits_21 : decode cX12_bits 21 = .ok (.goto (-17), 3) := by decide +kernel
theorem dX12_bits_24 : decode cX12_bits 24 = .ok (.iload_n 1, 1) := by decide +kernel
theorem dX12_bits_25 : decode cX12_bits 25 = .ok (.ireturn, 1) := by decide +kernel
theorem dX12_has_0 : decode cX12_has 0 = .ok (.iload_n 0, 1) := by decide +kernel
theorem dX12_has_1 : decode cX12_has 1 = .ok (.iload_n 1, 1) := by decide +kernel
theorem dX12_has_2 : decode cX12_has 2 = .ok (.ishr, 1) := by decide +kernel
theorem dX12_has_3 : decode cX12_has 3 = .ok (.iconst 1, 1) := by decide +kernel
theorem dX12_has_4 : decode cX12_has 4 = .ok (.iand, 1) := by decide +kernel
theorem dX12_has_5 : decode cX12_has 5 = .ok (.iconst 1, 1) := by decide +kernel
theorem dX12_has_6 : decode cX12_has 6 = .ok (.if_icmp .ne 7, 3) := by decide +kernel
theorem dX12_has_9 : decode cX12_has 9 = .ok (.iconst 1, 1) := by decide +kernel
theorem dX12_has_10 : decode cX12_has 10 = .ok (.goto 4, 3) := by decide +kernel
theorem dX12_has_13 : decode cX12_has 13 = .ok (.iconst 0, 1) := by decide +kernel
theorem dX12_has_14 : decode cX12_has 14 = .ok (.ireturn, 1) := by decide +kernel
theorem dX12_of_0 : decode cX12_of 0 = .ok (.aload_n 0, 1) := by decide +kernel
theorem dX12_of_1 : decode cX12_of 1 = .ok (.bipush 14, 2) := by decide +kernel
theorem dX12_of_3 : decode cX12_of 3 = .ok (.iconst 5, 1) := by decide +kernel
theorem dX12_of_4 : decode cX12_of 4 = .ok (.iload_n 1, 1) := by decide +kernel
theorem dX12_of_5 : decode cX12_of 5 = .ok (.imul, 1) := by decide +kernel
theorem dX12_of_6 : decode cX12_of 6 = .ok (.iadd, 1) := by decide +kernel
theorem dX12_of_7 : decode cX12_of 7 = .ok (.iload_n 2, 1) := by decide +kernel
theorem dX12_of_8 : decode cX12_of 8 = .ok (.iadd, 1) := by decide +kernel
theorem dX12_of_9 : decode cX12_of 9 = .ok (.iaload, 1) := by decide +kernel
theorem dX12_of_10 : decode cX12_of 10 = .ok (.ireturn, 1) := by decide +kernel
theorem dX12_be_0 : decode cX12_be 0 = .ok (.aload_n 0, 1) := by decide +kernel
theorem dX12_be_1 : decode cX12_be 1 = .ok (.bipush 14, 2) := by decide +kernel
theorem dX12_be_3 : decode cX12_be 3 = .ok (.iconst 5, 1) := by decide +kernel
theorem dX12_be_4 : decode cX12_be 4 = .ok (.iload_n 1, 1) := by decide +kernel
theorem dX12_be_5 : decode cX12_be 5 = .ok (.imul, 1) := by decide +kernel
theorem dX12_be_6 : decode cX12_be 6 = .ok (.iadd, 1) := by decide +kernel
theorem dX12_be_7 : decode cX12_be 7 = .ok (.iload_n 2, 1) := by decide +kernel
theorem dX12_be_8 : decode cX12_be 8 = .ok (.iadd, 1) := by decide +kernel
theorem dX12_be_9 : decode cX12_be 9 = .ok (.iload_n 3, 1) := by decide +kernel
theorem dX12_be_10 : decode cX12_be 10 = .ok (.iastore, 1) := by decide +kernel
theorem dX12_be_11 : decode cX12_be 11 = .ok (.return_, 1) := by decide +kernel
theorem dX12_loudOf_0 : decode cX12_loudOf 0 = .ok (.aload_n 0, 1) := by decide +kernel
theorem dX12_loudOf_1 : decode cX12_loudOf 1 = .ok (.iload_n 1, 1) := by decide +kernel
theorem dX12_loudOf_2 : decode cX12_loudOf 2 = .ok (.iconst 3, 1) := by decide +kernel
theorem dX12_loudOf_3 : decode cX12_loudOf 3 = .ok (.invokestatic 167, 3) := by decide +kernel
theorem dX12_loudOf_6 : decode cX12_loudOf 6 = .ok (.istore_n 2, 1) := by decide +kernel
theorem dX12_loudOf_7 : decode cX12_loudOf 7 = .ok (.aload_n 0, 1) := by decide +kernel
theorem dX12_loudOf_8 : decode cX12_loudOf 8 = .ok (.iload_n 1, 1) := by decide +kernel
theorem dX12_loudOf_9 : decode cX12_loudOf 9 = .ok (.iconst 0, 1) := by decide +kernel
theorem dX12_loudOf_10 : decode cX12_loudOf 10 = .ok (.invokestatic 167, 3) := by decide +kernel
theorem dX12_loudOf_13 : decode cX12_loudOf 13 = .ok (.tableswitch 44 1 3 #[27, 29, 33], 27) := by decide +kernel
theorem dX12_loudOf_40 : decode cX12_loudOf 40 = .ok (.iload_n 2, 1) := by decide +kernel
theorem dX12_loudOf_41 : decode cX12_loudOf 41 = .ok (.ireturn, 1) := by decide +kernel
theorem dX12_loudOf_42 : decode cX12_loudOf 42 = .ok (.iload_n 2, 1) := by decide +kernel
theorem dX12_loudOf_43 : decode cX12_loudOf 43 = .ok (.iconst 2, 1) := by decide +kernel
theorem dX12_loudOf_44 : decode cX12_loudOf 44 = .ok (.idiv, 1) := by decide +kernel
theorem dX12_loudOf_45 : decode cX12_loudOf 45 = .ok (.ireturn, 1) := by decide +kernel
theorem dX12_loudOf_46 : decode cX12_loudOf 46 = .ok (.iload_n 2, 1) := by decide +kernel
theorem dX12_loudOf_47 : decode cX12_loudOf 47 = .ok (.iconst 2, 1) := by decide +kernel
theorem dX12_loudOf_48 : decode cX12_loudOf 48 = .ok (.aload_n 0, 1) := by decide +kernel
theorem dX12_loudOf_49 : decode cX12_loudOf 49 = .ok (.iload_n 1, 1) := by decide +kernel
theorem dX12_loudOf_50 : decode cX12_loudOf 50 = .ok (.iconst 4, 1) := by decide +kernel
theorem dX12_loudOf_51 : decode cX12_loudOf 51 = .ok (.invokestatic 167, 3) := by decide +kernel
theorem dX12_loudOf_54 : decode cX12_loudOf 54 = .ok (.imul, 1) := by decide +kernel
theorem dX12_loudOf_55 : decode cX12_loudOf 55 = .ok (.iadd, 1) := by decide +kernel
theorem dX12_loudOf_56 : decode cX12_loudOf 56 = .ok (.ireturn, 1) := by decide +kernel
theorem dX12_loudOf_57 : decode cX12_loudOf 57 = .ok (.iconst 1, 1) := by decide +kernel
theorem dX12_loudOf_58 : decode cX12_loudOf 58 = .ok (.ireturn, 1) := by decide +kernel
theorem dX12_gapOf_0 : decode cX12_gapOf 0 = .ok (.aload_n 0, 1) := by decide +kernel
theorem dX12_gapOf_1 : decode cX12_gapOf 1 = .ok (.iload_n 1, 1) := by decide +kernel
theorem dX12_gapOf_2 : decode cX12_gapOf 2 = .ok (.iconst 0, 1) := by decide +kernel
theorem dX12_gapOf_3 : decode cX12_gapOf 3 = .ok (.invokestatic 167, 3) := by decide +kernel
theorem dX12_gapOf_6 : decode cX12_gapOf 6 = .ok (.istore_n 2, 1) := by decide +kernel
theorem dX12_gapOf_7 : decode cX12_gapOf 7 = .ok (.iload_n 2, 1) := by decide +kernel
theorem dX12_gapOf_8 : decode cX12_gapOf 8 = .ok (.iconst 2, 1) := by decide +kernel
theorem dX12_gapOf_9 : decode cX12_gapOf 9 = .ok (.if_icmp .ne 7, 3) := by decide +kernel
theorem dX12_gapOf_12 : decode cX12_gapOf 12 = .ok (.iconst 2, 1) := by decide +kernel
theorem dX12_gapOf_13 : decode cX12_gapOf 13 = .ok (.goto 13, 3) := by decide +kernel
theorem dX12_gapOf_16 : decode cX12_gapOf 16 = .ok (.iload_n 2, 1) := by decide +kernel
theorem dX12_gapOf_17 : decode cX12_gapOf 17 = .ok (.iconst 5, 1) := by decide +kernel
theorem dX12_gapOf_18 : decode cX12_gapOf 18 = .ok (.if_icmp .ne 7, 3) := by decide +kernel
theorem dX12_gapOf_21 : decode cX12_gapOf 21 = .ok (.iconst 0, 1) := by decide +kernel
theorem dX12_gapOf_22 : decode cX12_gapOf 22 = .ok (.goto 4, 3) := by decide +kernel
theorem dX12_gapOf_25 : decode cX12_gapOf 25 = .ok (.iconst 1, 1) := by decide +kernel
theorem dX12_gapOf_26 : decode cX12_gapOf 26 = .ok (.ireturn, 1) := by decide +kernel
theorem dX12_isOpen_0 : decode cX12_isOpen 0 = .ok (.iconst 0, 1) := by decide +kernel
theorem dX12_isOpen_1 : decode cX12_isOpen 1 = .ok (.istore_n 2, 1) := by decide +kernel
theorem dX12_isOpen_2 : decode cX12_isOpen 2 = .ok (.iload_n 2, 1) := by decide +kernel
theorem dX12_isOpen_3 : decode cX12_isOpen 3 = .ok (.aload_n 0, 1) := by decide +kernel
theorem dX12_isOpen_4 : decode cX12_isOpen 4 = .ok (.getfield 171, 3) := by decide +kernel
theorem dX12_isOpen_7 : decode cX12_isOpen 7 = .ok (.if_icmp .ge 21, 3) := by decide +kernel
theorem dX12_isOpen_10 : decode cX12_isOpen 10 = .ok (.aload_n 0, 1) := by decide +kernel
theorem dX12_isOpen_11 : decode cX12_isOpen 11 = .ok (.getfield 37, 3) := by decide +kernel
theorem dX12_isOpen_14 : decode cX12_isOpen 14 = .ok (.iload_n 2, 1) := by decide +kernel
theorem dX12_isOpen_15 : decode cX12_isOpen 15 = .ok (.iaload, 1) := by decide +kernel
theorem dX12_isOpen_16 : decode cX12_isOpen 16 = .ok (.iload_n 1, 1) := by decide +kernel
theorem dX12_isOpen_17 : decode cX12_isOpen 17 = .ok (.if_icmp .ne 5, 3) := by decide +kernel
theorem dX12_isOpen_20 : decode cX12_isOpen 20 = .ok (.iconst 1, 1) := by decide +kernel
theorem dX12_isOpen_21 : decode cX12_isOpen 21 = .ok (.ireturn, 1) := by decide +kernel
theorem dX12_isOpen_22 : decode cX12_isOpen 22 = .ok (.iinc 2 1, 3) := by decide +kernel
theorem dX12_isOpen_25 : decode cX12_isOpen 25 = .ok (.goto (-23), 3) := by decide +kernel
theorem dX12_isOpen_28 : decode cX12_isOpen 28 = .ok (.iconst 0, 1) := by decide +kernel
theorem dX12_isOpen_29 : decode cX12_isOpen 29 = .ok (.ireturn, 1) := by decide +kernel
theorem dX12_draughtNow_0 : decode cX12_draughtNow 0 = .ok (.iconst 0, 1) := by decide +kernel
theorem dX12_draughtNow_1 : decode cX12_draughtNow 1 = .ok (.istore_n 2, 1) := by decide +kernel
theorem dX12_draughtNow_2 : decode cX12_draughtNow 2 = .ok (.iconst 0, 1) := by decide +kernel
theorem dX12_draughtNow_3 : decode cX12_draughtNow 3 = .ok (.istore_n 3, 1) := by decide +kernel
theorem dX12_draughtNow_4 : decode cX12_draughtNow 4 = .ok (.iload_n 3, 1) := by decide +kernel
theorem dX12_draughtNow_5 : decode cX12_draughtNow 5 = .ok (.aload_n 0, 1) := by decide +kernel
theorem dX12_draughtNow_6 : decode cX12_draughtNow 6 = .ok (.getfield 171, 3) := by decide +kernel
theorem dX12_draughtNow_9 : decode cX12_draughtNow 9 = .ok (.if_icmp .ge 22, 3) := by decide +kernel
theorem dX12_draughtNow_12 : decode cX12_draughtNow 12 = .ok (.iload_n 2, 1) := by decide +kernel
theorem dX12_draughtNow_13 : decode cX12_draughtNow 13 = .ok (.aload_n 1, 1) := by decide +kernel
theorem dX12_draughtNow_14 : decode cX12_draughtNow 14 = .ok (.aload_n 0, 1) := by decide +kernel
theorem dX12_draughtNow_15 : decode cX12_draughtNow 15 = .ok (.getfield 37, 3) := by decide +kernel
theorem dX12_draughtNow_18 : decode cX12_draughtNow 18 = .ok (.iload_n 3, 1) := by decide +kernel
theorem dX12_draughtNow_19 : decode cX12_draughtNow 19 = .ok (.iaload, 1) := by decide +kernel
theorem dX12_draughtNow_20 : decode cX12_draughtNow 20 = .ok (.invokestatic 174, 3) := by decide +kernel
theorem dX12_draughtNow_23 : decode cX12_draughtNow 23 = .ok (.iadd, 1) := by decide +kernel
theorem dX12_draughtNow_24 : decode cX12_draughtNow 24 = .ok (.istore_n 2, 1) := by decide +kernel
theorem dX12_draughtNow_25 : decode cX12_draughtNow 25 = .ok (.iinc 3 1, 3) := by decide +kernel
theorem dX12_draughtNow_28 : decode cX12_draughtNow 28 = .ok (.goto (-24), 3) := by decide +kernel
theorem dX12_draughtNow_31 : decode cX12_draughtNow 31 = .ok (.iload_n 2, 1) := by decide +kernel
theorem dX12_draughtNow_32 : decode cX12_draughtNow 32 = .ok (.ireturn, 1) := by decide +kernel
theorem dX12_open_0 : decode cX12_open 0 = .ok (.aload_n 1, 1) := by decide +kernel
theorem dX12_open_1 : decode cX12_open 1 = .ok (.iload_n 2, 1) := by decide +kernel
theorem dX12_open_2 : decode cX12_open 2 = .ok (.iconst 0, 1) := by decide +kernel
theorem dX12_open_3 : decode cX12_open 3 = .ok (.invokestatic 167, 3) := by decide +kernel
theorem dX12_open_6 : decode cX12_open 6 = .ok (.iconst 4, 1) := by decide +kernel
theorem dX12_open_7 : decode cX12_open 7 = .ok (.if_icmp .lt 7, 3) := by decide +kernel
theorem dX12_open_10 : decode cX12_open 10 = .ok (.iconst 1, 1) := by decide +kernel
theorem dX12_open_11 : decode cX12_open 11 = .ok (.goto 4, 3) := by decide +kernel
theorem dX12_open_14 : decode cX12_open 14 = .ok (.iconst 0, 1) := by decide +kernel
theorem dX12_open_15 : decode cX12_open 15 = .ok (.istore_n 3, 1) := by decide +kernel
theorem dX12_open_16 : decode cX12_open 16 = .ok (.iload_n 3, 1) := by decide +kernel
theorem dX12_open_17 : decode cX12_open 17 = .ok (.ifCond .eq 24, 3) := by decide +kernel
theorem dX12_open_20 : decode cX12_open 20 = .ok (.aload_n 1, 1) := by decide +kernel
theorem dX12_open_21 : decode cX12_open 21 = .ok (.iconst 4, 1) := by decide +kernel
theorem dX12_open_22 : decode cX12_open 22 = .ok (.iaload, 1) := by decide +kernel
theorem dX12_open_23 : decode cX12_open 23 = .ok (.aload_n 1, 1) := by decide +kernel
theorem dX12_open_24 : decode cX12_open 24 = .ok (.iload_n 2, 1) := by decide +kernel
theorem dX12_open_25 : decode cX12_open 25 = .ok (.iconst 3, 1) := by decide +kernel
theorem dX12_open_26 : decode cX12_open 26 = .ok (.invokestatic 167, 3) := by decide +kernel
theorem dX12_open_29 : decode cX12_open 29 = .ok (.bipush 6, 2) := by decide +kernel
theorem dX12_open_31 : decode cX12_open 31 = .ok (.irem, 1) := by decide +kernel
theorem dX12_open_32 : decode cX12_open 32 = .ok (.invokestatic 178, 3) := by decide +kernel
theorem dX12_open_35 : decode cX12_open 35 = .ok (.ifCond .ne 6, 3) := by decide +kernel
theorem dX12_open_38 : decode cX12_open 38 = .ok (.bipush 7, 2) := by decide +kernel
theorem dX12_open_40 : decode cX12_open 40 = .ok (.ireturn, 1) := by decide +kernel
theorem dX12_open_41 : decode cX12_open 41 = .ok (.aload_n 1, 1) := by decide +kernel
theorem dX12_open_42 : decode cX12_open 42 = .ok (.iload_n 2, 1) := by decide +kernel
theorem dX12_open_43 : decode cX12_open 43 = .ok (.iconst 0, 1) := by decide +kernel
theorem dX12_open_44 : decode cX12_open 44 = .ok (.invokestatic 167, 3) := by decide +kernel
theorem dX12_open_47 : decode cX12_open 47 = .ok (.iconst 5, 1) := by decide +kernel
theorem dX12_open_48 : decode cX12_open 48 = .ok (.if_icmp .ne 15, 3) := by decide +kernel
theorem dX12_open_51 : decode cX12_open 51 = .ok (.aload_n 1, 1) := by decide +kernel
theorem dX12_open_52 : decode cX12_open 52 = .ok (.iload_n 2, 1) := by decide +kernel
theorem dX12_open_53 : decode cX12_open 53 = .ok (.iconst 4, 1) := by decide +kernel
theorem dX12_open_54 : decode cX12_open 54 = .ok (.invokestatic 167, 3) := by decide +kernel
theorem dX12_open_57 : decode cX12_open 57 = .ok (.ifCond .le 6, 3) := by decide +kernel
theorem dX12_open_60 : decode cX12_open 60 = .ok (.bipush 8, 2) := by decide +kernel
theorem dX12_open_62 : decode cX12_open 62 = .ok (.ireturn, 1) := by decide +kernel
theorem dX12_open_63 : decode cX12_open 63 = .ok (.aload_n 0, 1) := by decide +kernel
theorem dX12_open_64 : decode cX12_open 64 = .ok (.dup, 1) := by decide +kernel
theorem dX12_open_65 : decode cX12_open 65 = .ok (.getfield 182, 3) := by decide +kernel
theorem dX12_open_68 : decode cX12_open 68 = .ok (.aload_n 1, 1) := by decide +kernel
theorem dX12_open_69 : decode cX12_open 69 = .ok (.iload_n 2, 1) := by decide +kernel
theorem dX12_open_70 : decode cX12_open 70 = .ok (.invokestatic 185, 3) := by decide +kernel
theorem dX12_open_73 : decode cX12_open 73 = .ok (.iadd, 1) := by decide +kernel
theorem dX12_open_74 : decode cX12_open 74 = .ok (.putfield 182, 3) := by decide +kernel
theorem dX12_open_77 : decode cX12_open 77 = .ok (.aload_n 1, 1) := by decide +kernel
theorem dX12_open_78 : decode cX12_open 78 = .ok (.iload_n 2, 1) := by decide +kernel
theorem dX12_open_79 : decode cX12_open 79 = .ok (.iconst 4, 1) := by decide +kernel
theorem dX12_open_80 : decode cX12_open 80 = .ok (.aload_n 1, 1) := by decide +kernel
theorem dX12_open_81 : decode cX12_open 81 = .ok (.iload_n 2, 1) := by decide +kernel
theorem dX12_open_82 : decode cX12_open 82 = .ok (.iconst 4, 1) := by decide +kernel
theorem dX12_open_83 : decode cX12_open 83 = .ok (.invokestatic 167, 3) := by decide +kernel
theorem dX12_open_86 : decode cX12_open 86 = .ok (.iconst 1, 1) := by decide +kernel
theorem dX12_open_87 : decode cX12_open 87 = .ok (.iadd, 1) := by decide +kernel
theorem dX12_open_88 : decode cX12_open 88 = .ok (.invokestatic 188, 3) := by decide +kernel
theorem dX12_open_91 : decode cX12_open 91 = .ok (.aload_n 0, 1) := by decide +kernel
theorem dX12_open_92 : decode cX12_open 92 = .ok (.getfield 37, 3) := by decide +kernel
theorem dX12_open_95 : decode cX12_open 95 = .ok (.aload_n 0, 1) := by decide +kernel
theorem dX12_open_96 : decode cX12_open 96 = .ok (.getfield 171, 3) := by decide +kernel
theorem dX12_open_99 : decode cX12_open 99 = .ok (.iload_n 2, 1) := by decide +kernel
theorem dX12_open_100 : decode cX12_open 100 = .ok (.iastore, 1) := by decide +kernel
theorem dX12_open_101 : decode cX12_open 101 = .ok (.aload_n 0, 1) := by decide +kernel
theorem dX12_open_102 : decode cX12_open 102 = .ok (.dup, 1) := by decide +kernel
theorem dX12_open_103 : decode cX12_open 103 = .ok (.getfield 171, 3) := by decide +kernel
theorem dX12_open_106 : decode cX12_open 106 = .ok (.iconst 1, 1) := by decide +kernel
theorem dX12_open_107 : decode cX12_open 107 = .ok (.iadd, 1) := by decide +kernel
theorem dX12_open_108 : decode cX12_open 108 = .ok (.putfield 171, 3) := by decide +kernel
theorem dX12_open_111 : decode cX12_open 111 = .ok (.aload_n 0, 1) := by decide +kernel
theorem dX12_open_112 : decode cX12_open 112 = .ok (.aload_n 1, 1) := by decide +kernel
theorem dX12_open_113 : decode cX12_open 113 = .ok (.invokevirtual 192, 3) := by decide +kernel
theorem dX12_open_116 : decode cX12_open 116 = .ok (.istore 4, 2) := by decide +kernel
theorem dX12_open_118 : decode cX12_open 118 = .ok (.aload_n 0, 1) := by decide +kernel
theorem dX12_open_119 : decode cX12_open 119 = .ok (.iload 4, 2) := by decide +kernel
theorem dX12_open_121 : decode cX12_open 121 = .ok (.aload_n 0, 1) := by decide +kernel
theorem dX12_open_122 : decode cX12_open 122 = .ok (.getfield 196, 3) := by decide +kernel
theorem dX12_open_125 : decode cX12_open 125 = .ok (.if_icmp .le 8, 3) := by decide +kernel
theorem dX12_open_128 : decode cX12_open 128 = .ok (.iload 4, 2) := by decide +kernel
theorem dX12_open_130 : decode cX12_open 130 = .ok (.goto 7, 3) := by decide +kernel
theorem dX12_open_133 : decode cX12_open 133 = .ok (.aload_n 0, 1) := by decide +kernel
theorem dX12_open_134 : decode cX12_open 134 = .ok (.getfield 196, 3) := by decide +kernel
theorem dX12_open_137 : decode cX12_open 137 = .ok (.putfield 196, 3) := by decide +kernel
theorem dX12_open_140 : decode cX12_open 140 = .ok (.aload_n 0, 1) := by decide +kernel
theorem dX12_open_141 : decode cX12_open 141 = .ok (.getfield 182, 3) := by decide +kernel
theorem dX12_open_144 : decode cX12_open 144 = .ok (.aload_n 1, 1) := by decide +kernel
theorem dX12_open_145 : decode cX12_open 145 = .ok (.iconst 3, 1) := by decide +kernel
theorem dX12_open_146 : decode cX12_open 146 = .ok (.iaload, 1) := by decide +kernel
theorem dX12_open_147 : decode cX12_open 147 = .ok (.if_icmp .le 8, 3) := by decide +kernel
theorem dX12_open_150 : decode cX12_open 150 = .ok (.bipush 9, 2) := by decide +kernel
theorem dX12_open_152 : decode cX12_open 152 = .ok (.goto 17, 3) := by decide +kernel
theorem dX12_open_155 : decode cX12_open 155 = .ok (.iload 4, 2) := by decide +kernel
theorem dX12_open_157 : decode cX12_open 157 = .ok (.aload_n 1, 1) := by decide +kernel
theorem dX12_open_158 : decode cX12_open 158 = .ok (.iconst 2, 1) := by decide +kernel
theorem dX12_open_159 : decode cX12_open 159 = .ok (.iaload, 1) := by decide +kernel
theorem dX12_open_160 : decode cX12_open 160 = .ok (.if_icmp .le 8, 3) := by decide +kernel
theorem dX12_open_163 : decode cX12_open 163 = .ok (.bipush 10, 2) := by decide +kernel
theorem dX12_open_165 : decode cX12_open 165 = .ok (.goto 4, 3) := by decide +kernel
theorem dX12_open_168 : decode cX12_open 168 = .ok (.iconst 0, 1) := by decide +kernel
theorem dX12_open_169 : decode cX12_open 169 = .ok (.ireturn, 1) := by decide +kernel
theorem dX12_goThrough_0 : decode cX12_goThrough 0 = .ok (.iload_n 2, 1) := by decide +kernel
theorem dX12_goThrough_1 : decode cX12_goThrough 1 = .ok (.i2l, 1) := by decide +kernel
theorem dX12_goThrough_2 : decode cX12_goThrough 2 = .ok (.lconst 0, 1) := by decide +kernel
theorem dX12_goThrough_3 : decode cX12_goThrough 3 = .ok (.aload_n 1, 1) := by decide +kernel
theorem dX12_goThrough_4 : decode cX12_goThrough 4 = .ok (.iconst 0, 1) := by decide +kernel
theorem dX12_goThrough_5 : decode cX12_goThrough 5 = .ok (.iaload, 1) := by decide +kernel
theorem dX12_goThrough_6 : decode cX12_goThrough 6 = .ok (.iconst 1, 1) := by decide +kernel
theorem dX12_goThrough_7 : decode cX12_goThrough 7 = .ok (.isub, 1) := by decide +kernel
theorem dX12_goThrough_8 : decode cX12_goThrough 8 = .ok (.i2l, 1) := by decide +kernel
theorem dX12_goThrough_9 : decode cX12_goThrough 9 = .ok (.invokestatic 63, 3) := by decide +kernel
theorem dX12_goThrough_12 : decode cX12_goThrough 12 = .ok (.ifCond .eq 29, 3) := by decide +kernel
theorem dX12_goThrough_15 : decode cX12_goThrough 15 = .ok (.aload_n 1, 1) := by decide +kernel
theorem dX12_goThrough_16 : decode cX12_goThrough 16 = .ok (.iload_n 2, 1) := by decide +kernel
theorem dX12_goThrough_17 : decode cX12_goThrough 17 = .ok (.iconst 1, 1) := by decide +kernel
theorem dX12_goThrough_18 : decode cX12_goThrough 18 = .ok (.invokestatic 167, 3) := by decide +kernel
theorem dX12_goThrough_21 : decode cX12_goThrough 21 = .ok (.aload_n 0, 1) := by decide +kernel
theorem dX12_goThrough_22 : decode cX12_goThrough 22 = .ok (.getfield 199, 3) := by decide +kernel
theorem dX12_goThrough_25 : decode cX12_goThrough 25 = .ok (.if_icmp .eq 19, 3) := by decide +kernel
theorem dX12_goThrough_28 : decode cX12_goThrough 28 = .ok (.aload_n 1, 1) := by decide +kernel
theorem dX12_goThrough_29 : decode cX12_goThrough 29 = .ok (.iload_n 2, 1) := by decide +kernel
theorem dX12_goThrough_30 : decode cX12_goThrough 30 = .ok (.iconst 2, 1) := by decide +kernel
theorem dX12_goThrough_31 : decode cX12_goThrough 31 = .ok (.invokestatic 167, 3) := by decide +kernel
theorem dX12_goThrough_34 : decode cX12_goThrough 34 = .ok (.aload_n 0, 1) := by decide +kernel
theorem dX12_goThrough_35 : decode cX12_goThrough 35 = .ok (.getfield 199, 3) := by decide +kernel
theorem dX12_goThrough_38 : decode cX12_goThrough 38 = .ok (.if_icmp .eq 6, 3) := by decide +kernel
theorem dX12_goThrough_41 : decode cX12_goThrough 41 = .ok (.bipush 6, 2) := by decide +kernel
theorem dX12_goThrough_43 : decode cX12_goThrough 43 = .ok (.ireturn, 1) := by decide +kernel
theorem dX12_goThrough_44 : decode cX12_goThrough 44 = .ok (.aload_n 0, 1) := by decide +kernel
theorem dX12_goThrough_45 : decode cX12_goThrough 45 = .ok (.iload_n 2, 1) := by decide +kernel
theorem dX12_goThrough_46 : decode cX12_goThrough 46 = .ok (.invokevirtual 202, 3) := by decide +kernel
theorem dX12_goThrough_49 : decode cX12_goThrough 49 = .ok (.ifCond .eq 7, 3) := by decide +kernel
theorem dX12_goThrough_52 : decode cX12_goThrough 52 = .ok (.iconst 0, 1) := by decide +kernel
theorem dX12_goThrough_53 : decode cX12_goThrough 53 = .ok (.goto 9, 3) := by decide +kernel
theorem dX12_goThrough_56 : decode cX12_goThrough 56 = .ok (.aload_n 0, 1) := by decide +kernel
theorem dX12_goThrough_57 : decode cX12_goThrough 57 = .ok (.aload_n 1, 1) := by decide +kernel
theorem dX12_goThrough_58 : decode cX12_goThrough 58 = .ok (.iload_n 2, 1) := by decide +kernel
theorem dX12_goThrough_59 : decode cX12_goThrough 59 = .ok (.invokevirtual 205, 3) := by decide +kernel
theorem dX12_goThrough_62 : decode cX12_goThrough 62 = .ok (.istore_n 3, 1) := by decide +kernel
theorem dX12_goThrough_63 : decode cX12_goThrough 63 = .ok (.aload_n 0, 1) := by decide +kernel
theorem dX12_goThrough_64 : decode cX12_goThrough 64 = .ok (.iload_n 3, 1) := by decide +kernel
theorem dX12_goThrough_65 : decode cX12_goThrough 65 = .ok (.ifCond .ne 24, 3) := by decide +kernel
theorem dX12_goThrough_68 : decode cX12_goThrough 68 = .ok (.aload_n 1, 1) := by decide +kernel
theorem dX12_goThrough_69 : decode cX12_goThrough 69 = .ok (.iload_n 2, 1) := by decide +kernel
theorem dX12_goThrough_70 : decode cX12_goThrough 70 = .ok (.iconst 1, 1) := by decide +kernel
theorem dX12_goThrough_71 : decode cX12_goThrough 71 = .ok (.invokestatic 167, 3) := by decide +kernel
theorem dX12_goThrough_74 : decode cX12_goThrough 74 = .ok (.aload_n 1, 1) := by decide +kernel
theorem dX12_goThrough_75 : decode cX12_goThrough 75 = .ok (.iload_n 2, 1) := by decide +kernel
theorem dX12_goThrough_76 : decode cX12_goThrough 76 = .ok (.iconst 2, 1) := by decide +kernel
theorem dX12_goThrough_77 : decode cX12_goThrough 77 = .ok (.invokestatic 167, 3) := by decide +kernel
theorem dX12_goThrough_80 : decode cX12_goThrough 80 = .ok (.iadd, 1) := by decide +kernel
theorem dX12_goThrough_81 : decode cX12_goThrough 81 = .ok (.aload_n 0, 1) := by decide +kernel
theorem dX12_goThrough_82 : decode cX12_goThrough 82 = .ok (.getfield 199, 3) := by decide +kernel
theorem dX12_goThrough_85 : decode cX12_goThrough 85 = .ok (.isub, 1) := by decide +kernel
theorem dX12_goThrough_86 : decode cX12_goThrough 86 = .ok (.goto 7, 3) := by decide +kernel
theorem dX12_goThrough_89 : decode cX12_goThrough 89 = .ok (.aload_n 0, 1) := by decide +kernel
theorem dX12_goThrough_90 : decode cX12_goThrough 90 = .ok (.getfield 199, 3) := by decide +kernel
theorem dX12_goThrough_93 : decode cX12_goThrough 93 = .ok (.putfield 199, 3) := by decide +kernel
theorem dX12_goThrough_96 : decode cX12_goThrough 96 = .ok (.iload_n 3, 1) := by decide +kernel
theorem dX12_goThrough_97 : decode cX12_goThrough 97 = .ok (.ireturn, 1) := by decide +kernel
theorem dX12_goOut_0 : decode cX12_goOut 0 = .ok (.aload_n 0, 1) := by decide +kernel
theorem dX12_goOut_1 : decode cX12_goOut 1 = .ok (.iconst 0, 1) := by decide +kernel
theorem dX12_goOut_2 : decode cX12_goOut 2 = .ok (.putfield 171, 3) := by decide +kernel
theorem dX12_goOut_5 : decode cX12_goOut 5 = .ok (.aload_n 0, 1) := by decide +kernel
theorem dX12_goOut_6 : decode cX12_goOut 6 = .ok (.iconst 0, 1) := by decide +kernel
theorem dX12_goOut_7 : decode cX12_goOut 7 = .ok (.putfield 182, 3) := by decide +kernel
theorem dX12_goOut_10 : decode cX12_goOut 10 = .ok (.aload_n 0, 1) := by decide +kernel
theorem dX12_goOut_11 : decode cX12_goOut 11 = .ok (.iconst 0, 1) := by decide +kernel
theorem dX12_goOut_12 : decode cX12_goOut 12 = .ok (.putfield 196, 3) := by decide +kernel
theorem dX12_goOut_15 : decode cX12_goOut 15 = .ok (.aload_n 0, 1) := by decide +kernel
theorem dX12_goOut_16 : decode cX12_goOut 16 = .ok (.iconst 0, 1) := by decide +kernel
theorem dX12_goOut_17 : decode cX12_goOut 17 = .ok (.putfield 199, 3) := by decide +kernel
theorem dX12_goOut_20 : decode cX12_goOut 20 = .ok (.aload_n 0, 1) := by decide +kernel
theorem dX12_goOut_21 : decode cX12_goOut 21 = .ok (.iconst 0, 1) := by decide +kernel
theorem dX12_goOut_22 : decode cX12_goOut 22 = .ok (.putfield 208, 3) := by decide +kernel
theorem dX12_goOut_25 : decode cX12_goOut 25 = .ok (.iconst 0, 1) := by decide +kernel
theorem dX12_goOut_26 : decode cX12_goOut 26 = .ok (.istore_n 3, 1) := by decide +kernel
theorem dX12_goOut_27 : decode cX12_goOut 27 = .ok (.iload_n 3, 1) := by decide +kernel
theorem dX12_goOut_28 : decode cX12_goOut 28 = .ok (.iload_n 2, 1) := by decide +kernel
theorem dX12_goOut_29 : decode cX12_goOut 29 = .ok (.if_icmp .ge 31, 3) := by decide +kernel
theorem dX12_goOut_32 : decode cX12_goOut 32 = .ok (.aload_n 0, 1) := by decide +kernel
theorem dX12_goOut_33 : decode cX12_goOut 33 = .ok (.getfield 208, 3) := by decide +kernel
theorem dX12_goOut_36 : decode cX12_goOut 36 = .ok (.ifCond .ne 24, 3) := by decide +kernel
theorem dX12_goOut_39 : decode cX12_goOut 39 = .ok (.aload_n 0, 1) := by decide +kernel
theorem dX12_goOut_40 : decode cX12_goOut 40 = .ok (.aload_n 0, 1) := by decide +kernel
theorem dX12_goOut_41 : decode cX12_goOut 41 = .ok (.aload_n 1, 1) := by decide +kernel
theorem dX12_goOut_42 : decode cX12_goOut 42 = .ok (.aload_n 0, 1) := by decide +kernel
theorem dX12_goOut_43 : decode cX12_goOut 43 = .ok (.getfield 34, 3) := by decide +kernel
theorem dX12_goOut_46 : decode cX12_goOut 46 = .ok (.iload_n 3, 1) := by decide +kernel
theorem dX12_goOut_47 : decode cX12_goOut 47 = .ok (.iaload, 1) := by decide +kernel
theorem dX12_goOut_48 : decode cX12_goOut 48 = .ok (.invokevirtual 211, 3) := by decide +kernel
theorem dX12_goOut_51 : decode cX12_goOut 51 = .ok (.putfield 208, 3) := by decide +kernel
theorem dX12_goOut_54 : decode cX12_goOut 54 = .ok (.iinc 3 1, 3) := by decide +kernel
theorem dX12_goOut_57 : decode cX12_goOut 57 = .ok (.goto (-30), 3) := by decide +kernel
theorem dX12_goOut_60 : decode cX12_goOut 60 = .ok (.aload_n 0, 1) := by decide +kernel
theorem dX12_goOut_61 : decode cX12_goOut 61 = .ok (.getfield 208, 3) := by decide +kernel
theorem dX12_goOut_64 : decode cX12_goOut 64 = .ok (.ifCond .eq 5, 3) := by decide +kernel
theorem dX12_goOut_67 : decode cX12_goOut 67 = .ok (.iconst 0, 1) := by decide +kernel
theorem dX12_goOut_68 : decode cX12_goOut 68 = .ok (.ireturn, 1) := by decide +kernel
theorem dX12_goOut_69 : decode cX12_goOut 69 = .ok (.aload_n 1, 1) := by decide +kernel
theorem dX12_goOut_70 : decode cX12_goOut 70 = .ok (.bipush 6, 2) := by decide +kernel
theorem dX12_goOut_72 : decode cX12_goOut 72 = .ok (.aload_n 0, 1) := by decide +kernel
theorem dX12_goOut_73 : decode cX12_goOut 73 = .ok (.getfield 199, 3) := by decide +kernel
theorem dX12_goOut_76 : decode cX12_goOut 76 = .ok (.iadd, 1) := by decide +kernel
theorem dX12_goOut_77 : decode cX12_goOut 77 = .ok (.iaload, 1) := by decide +kernel
theorem dX12_goOut_78 : decode cX12_goOut 78 = .ok (.istore_n 3, 1) := by decide +kernel
theorem dX12_goOut_79 : decode cX12_goOut 79 = .ok (.aload_n 0, 1) := by decide +kernel
theorem dX12_goOut_80 : decode cX12_goOut 80 = .ok (.iload_n 3, 1) := by decide +kernel
theorem dX12_goOut_81 : decode cX12_goOut 81 = .ok (.ifCond .ne 8, 3) := by decide +kernel
theorem dX12_goOut_84 : decode cX12_goOut 84 = .ok (.bipush 11, 2) := by decide +kernel
theorem dX12_goOut_86 : decode cX12_goOut 86 = .ok (.goto 4, 3) := by decide +kernel
theorem dX12_goOut_89 : decode cX12_goOut 89 = .ok (.iconst 0, 1) := by decide +kernel
theorem dX12_goOut_90 : decode cX12_goOut 90 = .ok (.putfield 208, 3) := by decide +kernel
theorem dX12_goOut_93 : decode cX12_goOut 93 = .ok (.aload_n 1, 1) := by decide +kernel
theorem dX12_goOut_94 : decode cX12_goOut 94 = .ok (.bipush 6, 2) := by decide +kernel
theorem dX12_goOut_96 : decode cX12_goOut 96 = .ok (.aload_n 0, 1) := by decide +kernel
theorem dX12_goOut_97 : decode cX12_goOut 97 = .ok (.getfield 199, 3) := by decide +kernel
theorem dX12_goOut_100 : decode cX12_goOut 100 = .ok (.iadd, 1) := by decide +kernel
theorem dX12_goOut_101 : decode cX12_goOut 101 = .ok (.iconst 0, 1) := by decide +kernel
theorem dX12_goOut_102 : decode cX12_goOut 102 = .ok (.iastore, 1) := by decide +kernel
theorem dX12_goOut_103 : decode cX12_goOut 103 = .ok (.aload_n 1, 1) := by decide +kernel
theorem dX12_goOut_104 : decode cX12_goOut 104 = .ok (.iconst 5, 1) := by decide +kernel
theorem dX12_goOut_105 : decode cX12_goOut 105 = .ok (.dup2, 1) := by decide +kernel
theorem dX12_goOut_106 : decode cX12_goOut 106 = .ok (.iaload, 1) := by decide +kernel
theorem dX12_goOut_107 : decode cX12_goOut 107 = .ok (.iload_n 3, 1) := by decide +kernel
theorem dX12_goOut_108 : decode cX12_goOut 108 = .ok (.iadd, 1) := by decide +kernel
theorem dX12_goOut_109 : decode cX12_goOut 109 = .ok (.iastore, 1) := by decide +kernel
theorem dX12_goOut_110 : decode cX12_goOut 110 = .ok (.iload_n 3, 1) := by decide +kernel
theorem dX12_goOut_111 : decode cX12_goOut 111 = .ok (.ireturn, 1) := by decide +kernel
theorem dX12_layThen_0 : decode cX12_layThen 0 = .ok (.iconst 0, 1) := by decide +kernel
theorem dX12_layThen_1 : decode cX12_layThen 1 = .ok (.istore_n 1, 1) := by decide +kernel
theorem dX12_layThen_2 : decode cX12_layThen 2 = .ok (.iload_n 1, 1) := by decide +kernel
theorem dX12_layThen_3 : decode cX12_layThen 3 = .ok (.bipush 54, 2) := by decide +kernel
theorem dX12_layThen_5 : decode cX12_layThen 5 = .ok (.if_icmp .ge 21, 3) := by decide +kernel
theorem dX12_layThen_8 : decode cX12_layThen 8 = .ok (.aload_n 0, 1) := by decide +kernel
theorem dX12_layThen_9 : decode cX12_layThen 9 = .ok (.getfield 25, 3) := by decide +kernel
theorem dX12_layThen_12 : decode cX12_layThen 12 = .ok (.iload_n 1, 1) := by decide +kernel
theorem dX12_layThen_13 : decode cX12_layThen 13 = .ok (.aload_n 0, 1) := by decide +kernel
theorem dX12_layThen_14 : decode cX12_layThen 14 = .ok (.getfield 19, 3) := by decide +kernel
theorem dX12_layThen_17 : decode cX12_layThen 17 = .ok (.iload_n 1, 1) := by decide +kernel
theorem dX12_layThen_18 : decode cX12_layThen 18 = .ok (.iaload, 1) := by decide +kernel
theorem dX12_layThen_19 : decode cX12_layThen 19 = .ok (.iastore, 1) := by decide +kernel
theorem dX12_layThen_20 : decode cX12_layThen 20 = .ok (.iinc 1 1, 3) := by decide +kernel
theorem dX12_layThen_23 : decode cX12_layThen 23 = .ok (.goto (-21), 3) := by decide +kernel
theorem dX12_layThen_26 : decode cX12_layThen 26 = .ok (.return_, 1) := by decide +kernel
theorem dX12_writes_0 : decode cX12_writes 0 = .ok (.aload_n 0, 1) := by decide +kernel
theorem dX12_writes_1 : decode cX12_writes 1 = .ok (.getfield 40, 3) := by decide +kernel
theorem dX12_writes_4 : decode cX12_writes 4 = .ok (.aload_n 0, 1) := by decide +kernel
theorem dX12_writes_5 : decode cX12_writes 5 = .ok (.getfield 164, 3) := by decide +kernel
theorem dX12_writes_8 : decode cX12_writes 8 = .ok (.iload_n 1, 1) := by decide +kernel
theorem dX12_writes_9 : decode cX12_writes 9 = .ok (.iastore, 1) := by decide +kernel
theorem dX12_writes_10 : decode cX12_writes 10 = .ok (.aload_n 0, 1) := by decide +kernel
theorem dX12_writes_11 : decode cX12_writes 11 = .ok (.dup, 1) := by decide +kernel
theorem dX12_writes_12 : decode cX12_writes 12 = .ok (.getfield 164, 3) := by decide +kernel
theorem dX12_writes_15 : decode cX12_writes 15 = .ok (.iconst 1, 1) := by decide +kernel
theorem dX12_writes_16 : decode cX12_writes 16 = .ok (.iadd, 1) := by decide +kernel
theorem dX12_writes_17 : decode cX12_writes 17 = .ok (.putfield 164, 3) := by decide +kernel
theorem dX12_writes_20 : decode cX12_writes 20 = .ok (.return_, 1) := by decide +kernel
theorem dX12_keep_0 : decode cX12_keep 0 = .ok (.aload_n 0, 1) := by decide +kernel
theorem dX12_keep_1 : decode cX12_keep 1 = .ok (.getfield 161, 3) := by decide +kernel
theorem dX12_keep_4 : decode cX12_keep 4 = .ok (.bipush 24, 2) := by decide +kernel
theorem dX12_keep_6 : decode cX12_keep 6 = .ok (.if_icmp .ne 43, 3) := by decide +kernel
theorem dX12_keep_9 : decode cX12_keep 9 = .ok (.iconst 0, 1) := by decide +kernel
theorem dX12_keep_10 : decode cX12_keep 10 = .ok (.istore_n 1, 1) := by decide +kernel
theorem dX12_keep_11 : decode cX12_keep 11 = .ok (.iload_n 1, 1) := by decide +kernel
theorem dX12_keep_12 : decode cX12_keep 12 = .ok (.sipush 1242, 3) := by decide +kernel
theorem dX12_keep_15 : decode cX12_keep 15 = .ok (.if_icmp .ge 24, 3) := by decide +kernel
theorem dX12_keep_18 : decode cX12_keep 18 = .ok (.aload_n 0, 1) := by decide +kernel
theorem dX12_keep_19 : decode cX12_keep 19 = .ok (.getfield 28, 3) := by decide +kernel
theorem dX12_keep_22 : decode cX12_keep 22 = .ok (.iload_n 1, 1) := by decide +kernel
theorem dX12_keep_23 : decode cX12_keep 23 = .ok (.aload_n 0, 1) := by decide +kernel
theorem dX12_keep_24 : decode cX12_keep 24 = .ok (.getfield 28, 3) := by decide +kernel
theorem dX12_keep_27 : decode cX12_keep 27 = .ok (.iload_n 1, 1) := by decide +kernel
theorem dX12_keep_28 : decode cX12_keep 28 = .ok (.bipush 54, 2) := by decide +kernel
theorem dX12_keep_30 : decode cX12_keep 30 = .ok (.iadd, 1) := by decide +kernel
theorem dX12_keep_31 : decode cX12_keep 31 = .ok (.iaload, 1) := by decide +kernel
theorem dX12_keep_32 : decode cX12_keep 32 = .ok (.iastore, 1) := by decide +kernel
theorem dX12_keep_33 : decode cX12_keep 33 = .ok (.iinc 1 1, 3) := by decide +kernel
theorem dX12_keep_36 : decode cX12_keep 36 = .ok (.goto (-25), 3) := by decide +kernel
theorem dX12_keep_39 : decode cX12_keep 39 = .ok (.aload_n 0, 1) := by decide +kernel
theorem dX12_keep_40 : decode cX12_keep 40 = .ok (.dup, 1) := by decide +kernel
theorem dX12_keep_41 : decode cX12_keep 41 = .ok (.getfield 161, 3) := by decide +kernel
theorem dX12_keep_44 : decode cX12_keep 44 = .ok (.iconst 1, 1) := by decide +kernel
theorem dX12_keep_45 : decode cX12_keep 45 = .ok (.isub, 1) := by decide +kernel
theorem dX12_keep_46 : decode cX12_keep 46 = .ok (.putfield 161, 3) := by decide +kernel
theorem dX12_keep_49 : decode cX12_keep 49 = .ok (.iconst 0, 1) := by decide +kernel
theorem dX12_keep_50 : decode cX12_keep 50 = .ok (.istore_n 1, 1) := by decide +kernel
theorem dX12_keep_51 : decode cX12_keep 51 = .ok (.iload_n 1, 1) := by decide +kernel
theorem dX12_keep_52 : decode cX12_keep 52 = .ok (.bipush 54, 2) := by decide +kernel
theorem dX12_keep_54 : decode cX12_keep 54 = .ok (.if_icmp .ge 29, 3) := by decide +kernel
theorem dX12_keep_57 : decode cX12_keep 57 = .ok (.aload_n 0, 1) := by decide +kernel
theorem dX12_keep_58 : decode cX12_keep 58 = .ok (.getfield 28, 3) := by decide +kernel
theorem dX12_keep_61 : decode cX12_keep 61 = .ok (.bipush 54, 2) := by decide +kernel
theorem dX12_keep_63 : decode cX12_keep 63 = .ok (.aload_n 0, 1) := by decide +kernel
theorem dX12_keep_64 : decode cX12_keep 64 = .ok (.getfield 161, 3) := by decide +kernel
theorem dX12_keep_67 : decode cX12_keep 67 = .ok (.imul, 1) := by decide +kernel
theorem dX12_keep_68 : decode cX12_keep 68 = .ok (.iload_n 1, 1) := by decide +kernel
theorem dX12_keep_69 : decode cX12_keep 69 = .ok (.iadd, 1) := by decide +kernel
theorem dX12_keep_70 : decode cX12_keep 70 = .ok (.aload_n 0, 1) := by decide +kernel
theorem dX12_keep_71 : decode cX12_keep 71 = .ok (.getfield 19, 3) := by decide +kernel
theorem dX12_keep_74 : decode cX12_keep 74 = .ok (.iload_n 1, 1) := by decide +kernel
theorem dX12_keep_75 : decode cX12_keep 75 = .ok (.iaload, 1) := by decide +kernel
theorem dX12_keep_76 : decode cX12_keep 76 = .ok (.iastore, 1) := by decide +kernel
theorem dX12_keep_77 : decode cX12_keep 77 = .ok (.iinc 1 1, 3) := by decide +kernel
theorem dX12_keep_80 : decode cX12_keep 80 = .ok (.goto (-29), 3) := by decide +kernel
theorem dX12_keep_83 : decode cX12_keep 83 = .ok (.aload_n 0, 1) := by decide +kernel
theorem dX12_keep_84 : decode cX12_keep 84 = .ok (.dup, 1) := by decide +kernel
theorem dX12_keep_85 : decode cX12_keep 85 = .ok (.getfield 161, 3) := by decide +kernel
theorem dX12_keep_88 : decode cX12_keep 88 = .ok (.iconst 1, 1) := by decide +kernel
theorem dX12_keep_89 : decode cX12_keep 89 = .ok (.iadd, 1) := by decide +kernel
theorem dX12_keep_90 : decode cX12_keep 90 = .ok (.putfield 161, 3) := by decide +kernel
theorem dX12_keep_93 : decode cX12_keep 93 = .ok (.return_, 1) := by decide +kernel
theorem dX12_isErrand_0 : decode cX12_isErrand 0 = .ok (.iload_n 0, 1) := by decide +kernel
theorem dX12_isErrand_1 : decode cX12_isErrand 1 = .ok (.invokestatic 67, 3) := by decide +kernel
theorem dX12_isErrand_4 : decode cX12_isErrand 4 = .ok (.ifCond .eq 19, 3) := by decide +kernel
theorem dX12_isErrand_7 : decode cX12_isErrand 7 = .ok (.iload_n 1, 1) := by decide +kernel
theorem dX12_isErrand_8 : decode cX12_isErrand 8 = .ok (.i2l, 1) := by decide +kernel
theorem dX12_isErrand_9 : decode cX12_isErrand 9 = .ok (.lconst 0, 1) := by decide +kernel
theorem dX12_isErrand_10 : decode cX12_isErrand 10 = .ok (.ldc2_w 214, 3) := by decide +kernel
theorem dX12_isErrand_13 : decode cX12_isErrand 13 = .ok (.invokestatic 63, 3) := by decide +kernel
theorem dX12_isErrand_16 : decode cX12_isErrand 16 = .ok (.ifCond .eq 7, 3) := by decide +kernel
theorem dX12_isErrand_19 : decode cX12_isErrand 19 = .ok (.iconst 1, 1) := by decide +kernel
theorem dX12_isErrand_20 : decode cX12_isErrand 20 = .ok (.goto 4, 3) := by decide +kernel
theorem dX12_isErrand_23 : decode cX12_isErrand 23 = .ok (.iconst 0, 1) := by decide +kernel
theorem dX12_isErrand_24 : decode cX12_isErrand 24 = .ok (.ireturn, 1) := by decide +kernel
theorem dX12_rowFound_0 : decode cX12_rowFound 0 = .ok (.aload_n 0, 1) := by decide +kernel
theorem dX12_rowFound_1 : decode cX12_rowFound 1 = .ok (.getfield 7, 3) := by decide +kernel
theorem dX12_rowFound_4 : decode cX12_rowFound 4 = .ok (.iload_n 1, 1) := by decide +kernel
theorem dX12_rowFound_5 : decode cX12_rowFound 5 = .ok (.iaload, 1) := by decide +kernel
theorem dX12_rowFound_6 : decode cX12_rowFound 6 = .ok (.ifCond .ge 9, 3) := by decide +kernel
theorem dX12_rowFound_9 : decode cX12_rowFound 9 = .ok (.aload_n 0, 1) := by decide +kernel
theorem dX12_rowFound_10 : decode cX12_rowFound 10 = .ok (.iconst 1, 1) := by decide +kernel
theorem dX12_rowFound_11 : decode cX12_rowFound 11 = .ok (.invokevirtual 74, 3) := by decide +kernel
theorem dX12_rowFound_14 : decode cX12_rowFound 14 = .ok (.ireturn, 1) := by decide +kernel
theorem dX12_rowFound_15 : decode cX12_rowFound 15 = .ok (.iload_n 2, 1) := by decide +kernel
theorem dX12_rowFound_16 : decode cX12_rowFound 16 = .ok (.ifCond .lt 19, 3) := by decide +kernel
theorem dX12_rowFound_19 : decode cX12_rowFound 19 = .ok (.iload_n 2, 1) := by decide +kernel
theorem dX12_rowFound_20 : decode cX12_rowFound 20 = .ok (.i2l, 1) := by decide +kernel
theorem dX12_rowFound_21 : decode cX12_rowFound 21 = .ok (.iload_n 3, 1) := by decide +kernel
theorem dX12_rowFound_22 : decode cX12_rowFound 22 = .ok (.i2l, 1) := by decide +kernel
theorem dX12_rowFound_23 : decode cX12_rowFound 23 = .ok (.ladd, 1) := by decide +kernel
theorem dX12_rowFound_24 : decode cX12_rowFound 24 = .ok (.aload_n 0, 1) := by decide +kernel
theorem dX12_rowFound_25 : decode cX12_rowFound 25 = .ok (.getfield 13, 3) := by decide +kernel
theorem dX12_rowFound_28 : decode cX12_rowFound 28 = .ok (.iload_n 1, 1) := by decide +kernel
theorem dX12_rowFound_29 : decode cX12_rowFound 29 = .ok (.iaload, 1) := by decide +kernel
theorem dX12_rowFound_30 : decode cX12_rowFound 30 = .ok (.i2l, 1) := by decide +kernel
theorem dX12_rowFound_31 : decode cX12_rowFound 31 = .ok (.lcmp, 1) := by decide +kernel
theorem dX12_rowFound_32 : decode cX12_rowFound 32 = .ok (.ifCond .le 9, 3) := by decide +kernel
theorem dX12_rowFound_35 : decode cX12_rowFound 35 = .ok (.aload_n 0, 1) := by decide +kernel
theorem dX12_rowFound_36 : decode cX12_rowFound 36 = .ok (.iconst 2, 1) := by decide +kernel
theorem dX12_rowFound_37 : decode cX12_rowFound 37 = .ok (.invokevirtual 74, 3) := by decide +kernel
theorem dX12_rowFound_40 : decode cX12_rowFound 40 = .ok (.ireturn, 1) := by decide +kernel
theorem dX12_rowFound_41 : decode cX12_rowFound 41 = .ok (.aload_n 0, 1) := by decide +kernel
theorem dX12_rowFound_42 : decode cX12_rowFound 42 = .ok (.iconst 0, 1) := by decide +kernel
theorem dX12_rowFound_43 : decode cX12_rowFound 43 = .ok (.putfield 57, 3) := by decide +kernel
theorem dX12_rowFound_46 : decode cX12_rowFound 46 = .ok (.iconst 0, 1) := by decide +kernel
theorem dX12_rowFound_47 : decode cX12_rowFound 47 = .ok (.istore 4, 2) := by decide +kernel
theorem dX12_rowFound_49 : decode cX12_rowFound 49 = .ok (.iload 4, 2) := by decide +kernel
theorem dX12_rowFound_51 : decode cX12_rowFound 51 = .ok (.iload_n 3, 1) := by decide +kernel
theorem dX12_rowFound_52 : decode cX12_rowFound 52 = .ok (.if_icmp .ge 30, 3) := by decide +kernel
theorem dX12_rowFound_55 : decode cX12_rowFound 55 = .ok (.aload_n 0, 1) := by decide +kernel
theorem dX12_rowFound_56 : decode cX12_rowFound 56 = .ok (.getfield 34, 3) := by decide +kernel
theorem dX12_rowFound_59 : decode cX12_rowFound 59 = .ok (.iload 4, 2) := by decide +kernel
theorem dX12_rowFound_61 : decode cX12_rowFound 61 = .ok (.aload_n 0, 1) := by decide +kernel
theorem dX12_rowFound_62 : decode cX12_rowFound 62 = .ok (.getfield 16, 3) := by decide +kernel
theorem dX12_rowFound_65 : decode cX12_rowFound 65 = .ok (.bipush 40, 2) := by decide +kernel
theorem dX12_rowFound_67 : decode cX12_rowFound 67 = .ok (.iload_n 1, 1) := by decide +kernel
theorem dX12_rowFound_68 : decode cX12_rowFound 68 = .ok (.imul, 1) := by decide +kernel
theorem dX12_rowFound_69 : decode cX12_rowFound 69 = .ok (.iload_n 2, 1) := by decide +kernel
theorem dX12_rowFound_70 : decode cX12_rowFound 70 = .ok (.iadd, 1) := by decide +kernel
theorem dX12_rowFound_71 : decode cX12_rowFound 71 = .ok (.iload 4, 2) := by decide +kernel
theorem dX12_rowFound_73 : decode cX12_rowFound 73 = .ok (.iadd, 1) := by decide +kernel
theorem dX12_rowFound_74 : decode cX12_rowFound 74 = .ok (.iaload, 1) := by decide +kernel
theorem dX12_rowFound_75 : decode cX12_rowFound 75 = .ok (.iastore, 1) := by decide +kernel
theorem dX12_rowFound_76 : decode cX12_rowFound 76 = .ok (.iinc 4 1, 3) := by decide +kernel
theorem dX12_rowFound_79 : decode cX12_rowFound 79 = .ok (.goto (-30), 3) := by decide +kernel
theorem dX12_rowFound_82 : decode cX12_rowFound 82 = .ok (.iconst 0, 1) := by decide +kernel
theorem dX12_rowFound_83 : decode cX12_rowFound 83 = .ok (.ireturn, 1) := by decide +kernel
theorem dX12_errand_0 : decode cX12_errand 0 = .ok (.aload_n 0, 1) := by decide +kernel
theorem dX12_errand_1 : decode cX12_errand 1 = .ok (.iconst 0, 1) := by decide +kernel
theorem dX12_errand_2 : decode cX12_errand 2 = .ok (.putfield 53, 3) := by decide +kernel
theorem dX12_errand_5 : decode cX12_errand 5 = .ok (.aload_n 0, 1) := by decide +kernel
theorem dX12_errand_6 : decode cX12_errand 6 = .ok (.invokevirtual 216, 3) := by decide +kernel
theorem dX12_errand_9 : decode cX12_errand 9 = .ok (.ifCond .ne 6, 3) := by decide +kernel
theorem dX12_errand_12 : decode cX12_errand 12 = .ok (.ldc 219, 2) := by decide +kernel
theorem dX12_errand_14 : decode cX12_errand 14 = .ok (.ireturn, 1) := by decide +kernel
theorem dX12_errand_15 : decode cX12_errand 15 = .ok (.iload_n 1, 1) := by decide +kernel
theorem dX12_errand_16 : decode cX12_errand 16 = .ok (.iload_n 3, 1) := by decide +kernel
theorem dX12_errand_17 : decode cX12_errand 17 = .ok (.invokestatic 220, 3) := by decide +kernel
theorem dX12_errand_20 : decode cX12_errand 20 = .ok (.ifCond .ne 6, 3) := by decide +kernel
theorem dX12_errand_23 : decode cX12_errand 23 = .ok (.ldc 73, 2) := by decide +kernel
theorem dX12_errand_25 : decode cX12_errand 25 = .ok (.ireturn, 1) := by decide +kernel
theorem dX12_errand_26 : decode cX12_errand 26 = .ok (.aload_n 0, 1) := by decide +kernel
theorem dX12_errand_27 : decode cX12_errand 27 = .ok (.iload_n 1, 1) := by decide +kernel
theorem dX12_errand_28 : decode cX12_errand 28 = .ok (.iload_n 2, 1) := by decide +kernel
theorem dX12_errand_29 : decode cX12_errand 29 = .ok (.iload_n 3, 1) := by decide +kernel
theorem dX12_errand_30 : decode cX12_errand 30 = .ok (.invokevirtual 223, 3) := by decide +kernel
theorem dX12_errand_33 : decode cX12_errand 33 = .ok (.istore 4, 2) := by decide +kernel
theorem dX12_errand_35 : decode cX12_errand 35 = .ok (.iload 4, 2) := by decide +kernel
theorem dX12_errand_37 : decode cX12_errand 37 = .ok (.ifCond .eq 6, 3) := by decide +kernel
theorem dX12_errand_40 : decode cX12_errand 40 = .ok (.iload 4, 2) := by decide +kernel
theorem dX12_errand_42 : decode cX12_errand 42 = .ok (.ireturn, 1) := by decide +kernel
theorem dX12_errand_43 : decode cX12_errand 43 = .ok (.aload_n 0, 1) := by decide +kernel
theorem dX12_errand_44 : decode cX12_errand 44 = .ok (.invokevirtual 227, 3) := by decide +kernel
theorem dX12_errand_47 : decode cX12_errand 47 = .ok (.aload_n 0, 1) := by decide +kernel
theorem dX12_errand_48 : decode cX12_errand 48 = .ok (.aload_n 0, 1) := by decide +kernel
theorem dX12_errand_49 : decode cX12_errand 49 = .ok (.getfield 19, 3) := by decide +kernel
theorem dX12_errand_52 : decode cX12_errand 52 = .ok (.iload_n 3, 1) := by decide +kernel
theorem dX12_errand_53 : decode cX12_errand 53 = .ok (.invokevirtual 230, 3) := by decide +kernel
theorem dX12_errand_56 : decode cX12_errand 56 = .ok (.istore 5, 2) := by decide +kernel
theorem dX12_errand_58 : decode cX12_errand 58 = .ok (.aload_n 0, 1) := by decide +kernel
theorem dX12_errand_59 : decode cX12_errand 59 = .ok (.iconst 0, 1) := by decide +kernel
theorem dX12_errand_60 : decode cX12_errand 60 = .ok (.putfield 164, 3) := by decide +kernel
theorem dX12_errand_63 : decode cX12_errand 63 = .ok (.iconst 0, 1) := by decide +kernel
theorem dX12_errand_64 : decode cX12_errand 64 = .ok (.istore 6, 2) := by decide +kernel
theorem dX12_errand_66 : decode cX12_errand 66 = .ok (.iload 6, 2) := by decide +kernel
theorem dX12_errand_68 : decode cX12_errand 68 = .ok (.aload_n 0, 1) := by decide +kernel
theorem dX12_errand_69 : decode cX12_errand 69 = .ok (.getfield 171, 3) := by decide +kernel
theorem dX12_errand_72 : decode cX12_errand 72 = .ok (.if_icmp .ge 23, 3) := by decide +kernel
theorem dX12_errand_75 : decode cX12_errand 75 = .ok (.aload_n 0, 1) := by decide +kernel
theorem dX12_errand_76 : decode cX12_errand 76 = .ok (.bipush 100, 2) := by decide +kernel
theorem dX12_errand_78 : decode cX12_errand 78 = .ok (.aload_n 0, 1) := by decide +kernel
theorem dX12_errand_79 : decode cX12_errand 79 = .ok (.getfield 37, 3) := by decide +kernel
theorem dX12_errand_82 : decode cX12_errand 82 = .ok (.iload 6, 2) := by decide +kernel
theorem dX12_errand_84 : decode cX12_errand 84 = .ok (.iaload, 1) := by decide +kernel
theorem dX12_errand_85 : decode cX12_errand 85 = .ok (.iadd, 1) := by decide +kernel
theorem dX12_errand_86 : decode cX12_errand 86 = .ok (.invokevirtual 233, 3) := by decide +kernel
theorem dX12_errand_89 : decode cX12_errand 89 = .ok (.iinc 6 1, 3) := by decide +kernel
theorem dX12_errand_92 : decode cX12_errand 92 = .ok (.goto (-26), 3) := by decide +kernel
theorem dX12_errand_95 : decode cX12_errand 95 = .ok (.aload_n 0, 1) := by decide +kernel
theorem dX12_errand_96 : decode cX12_errand 96 = .ok (.aload_n 0, 1) := by decide +kernel
theorem dX12_errand_97 : decode cX12_errand 97 = .ok (.getfield 208, 3) := by decide +kernel
theorem dX12_errand_100 : decode cX12_errand 100 = .ok (.ifCond .ne 14, 3) := by decide +kernel
theorem dX12_errand_103 : decode cX12_errand 103 = .ok (.sipush 300, 3) := by decide +kernel
theorem dX12_errand_106 : decode cX12_errand 106 = .ok (.aload_n 0, 1) := by decide +kernel
theorem dX12_errand_107 : decode cX12_errand 107 = .ok (.getfield 199, 3) := by decide +kernel
theorem dX12_errand_110 : decode cX12_errand 110 = .ok (.iadd, 1) := by decide +kernel
theorem dX12_errand_111 : decode cX12_errand 111 = .ok (.goto 11, 3) := by decide +kernel
theorem dX12_errand_114 : decode cX12_errand 114 = .ok (.sipush 400, 3) := by decide +kernel
theorem dX12_errand_117 : decode cX12_errand 117 = .ok (.aload_n 0, 1) := by decide +kernel
theorem dX12_errand_118 : decode cX12_errand 118 = .ok (.getfield 208, 3) := by decide +kernel
theorem dX12_errand_121 : decode cX12_errand 121 = .ok (.iadd, 1) := by decide +kernel
theorem dX12_errand_122 : decode cX12_errand 122 = .ok (.invokevirtual 233, 3) := by decide +kernel
theorem dX12_errand_125 : decode cX12_errand 125 = .ok (.aload_n 0, 1) := by decide +kernel
theorem dX12_errand_126 : decode cX12_errand 126 = .ok (.getfield 171, 3) := by decide +kernel
theorem dX12_errand_129 : decode cX12_errand 129 = .ok (.iconst 1, 1) := by decide +kernel
theorem dX12_errand_130 : decode cX12_errand 130 = .ok (.isub, 1) := by decide +kernel
theorem dX12_errand_131 : decode cX12_errand 131 = .ok (.istore 6, 2) := by decide +kernel
theorem dX12_errand_133 : decode cX12_errand 133 = .ok (.iload 6, 2) := by decide +kernel
theorem dX12_errand_135 : decode cX12_errand 135 = .ok (.ifCond .lt 24, 3) := by decide +kernel
theorem dX12_errand_138 : decode cX12_errand 138 = .ok (.aload_n 0, 1) := by decide +kernel
theorem dX12_errand_139 : decode cX12_errand 139 = .ok (.sipush 200, 3) := by decide +kernel
theorem dX12_errand_142 : decode cX12_errand 142 = .ok (.aload_n 0, 1) := by decide +kernel
theorem dX12_errand_143 : decode cX12_errand 143 = .ok (.getfield 37, 3) := by decide +kernel
theorem dX12_errand_146 : decode cX12_errand 146 = .ok (.iload 6, 2) := by decide +kernel
theorem dX12_errand_148 : decode cX12_errand 148 = .ok (.iaload, 1) := by decide +kernel
theorem dX12_errand_149 : decode cX12_errand 149 = .ok (.iadd, 1) := by decide +kernel
theorem dX12_errand_150 : decode cX12_errand 150 = .ok (.invokevirtual 233, 3) := by decide +kernel
theorem dX12_errand_153 : decode cX12_errand 153 = .ok (.iinc 6 (-1), 3) := by decide +kernel
theorem dX12_errand_156 : decode cX12_errand 156 = .ok (.goto (-23), 3) := by decide +kernel
theorem dX12_errand_159 : decode cX12_errand 159 = .ok (.aload_n 0, 1) := by decide +kernel
theorem dX12_errand_160 : decode cX12_errand 160 = .ok (.getfield 208, 3) := by decide +kernel
theorem dX12_errand_163 : decode cX12_errand 163 = .ok (.ifCond .ne 8, 3) := by decide +kernel
theorem dX12_errand_166 : decode cX12_errand 166 = .ok (.iload 5, 2) := by decide +kernel
theorem dX12_errand_168 : decode cX12_errand 168 = .ok (.goto 11, 3) := by decide +kernel
theorem dX12_errand_171 : decode cX12_errand 171 = .ok (.aload_n 0, 1) := by decide +kernel
theorem dX12_errand_172 : decode cX12_errand 172 = .ok (.aload_n 0, 1) := by decide +kernel
theorem dX12_errand_173 : decode cX12_errand 173 = .ok (.getfield 208, 3) := by decide +kernel
theorem dX12_errand_176 : decode cX12_errand 176 = .ok (.invokevirtual 74, 3) := by decide +kernel
theorem dX12_errand_179 : decode cX12_errand 179 = .ok (.ireturn, 1) := by decide +kernel
theorem dX12_ledger_0 : decode cX12_ledger 0 = .ok (.aload_n 0, 1) := by decide +kernel
theorem dX12_ledger_1 : decode cX12_ledger 1 = .ok (.iconst 0, 1) := by decide +kernel
theorem dX12_ledger_2 : decode cX12_ledger 2 = .ok (.putfield 53, 3) := by decide +kernel
theorem dX12_ledger_5 : decode cX12_ledger 5 = .ok (.iload_n 1, 1) := by decide +kernel
theorem dX12_ledger_6 : decode cX12_ledger 6 = .ok (.i2l, 1) := by decide +kernel
theorem dX12_ledger_7 : decode cX12_ledger 7 = .ok (.lconst 0, 1) := by decide +kernel
theorem dX12_ledger_8 : decode cX12_ledger 8 = .ok (.aload_n 0, 1) := by decide +kernel
theorem dX12_ledger_9 : decode cX12_ledger 9 = .ok (.getfield 164, 3) := by decide +kernel
theorem dX12_ledger_12 : decode cX12_ledger 12 = .ok (.iconst 1, 1) := by decide +kernel
theorem dX12_ledger_13 : decode cX12_ledger 13 = .ok (.isub, 1) := by decide +kernel
theorem dX12_ledger_14 : decode cX12_ledger 14 = .ok (.i2l, 1) := by decide +kernel
theorem dX12_ledger_15 : decode cX12_ledger 15 = .ok (.invokestatic 63, 3) := by decide +kernel
theorem dX12_ledger_18 : decode cX12_ledger 18 = .ok (.ifCond .eq 12, 3) := by decide +kernel
theorem dX12_ledger_21 : decode cX12_ledger 21 = .ok (.aload_n 0, 1) := by decide +kernel
theorem dX12_ledger_22 : decode cX12_ledger 22 = .ok (.getfield 40, 3) := by decide +kernel
theorem dX12_ledger_25 : decode cX12_ledger 25 = .ok (.iload_n 1, 1) := by decide +kernel
theorem dX12_ledger_26 : decode cX12_ledger 26 = .ok (.iaload, 1) := by decide +kernel
theorem dX12_ledger_27 : decode cX12_ledger 27 = .ok (.goto 5, 3) := by decide +kernel
theorem dX12_ledger_30 : decode cX12_ledger 30 = .ok (.ldc 96, 2) := by decide +kernel
theorem dX12_ledger_32 : decode cX12_ledger 32 = .ok (.ireturn, 1) := by decide +kernel
theorem dX12_oil_0 : decode cX12_oil 0 = .ok (.aload_n 0, 1) := by decide +kernel
theorem dX12_oil_1 : decode cX12_oil 1 = .ok (.iconst 0, 1) := by decide +kernel
theorem dX12_oil_2 : decode cX12_oil 2 = .ok (.putfield 53, 3) := by decide +kernel
theorem dX12_oil_5 : decode cX12_oil 5 = .ok (.aload_n 0, 1) := by decide +kernel
theorem dX12_oil_6 : decode cX12_oil 6 = .ok (.iload_n 1, 1) := by decide +kernel
theorem dX12_oil_7 : decode cX12_oil 7 = .ok (.invokevirtual 236, 3) := by decide +kernel
theorem dX12_oil_10 : decode cX12_oil 10 = .ok (.ifCond .ne 6, 3) := by decide +kernel
theorem dX12_oil_13 : decode cX12_oil 13 = .ok (.ldc 73, 2) := by decide +kernel
theorem dX12_oil_15 : decode cX12_oil 15 = .ok (.ireturn, 1) := by decide +kernel
theorem dX12_oil_16 : decode cX12_oil 16 = .ok (.aload_n 0, 1) := by decide +kernel
theorem dX12_oil_17 : decode cX12_oil 17 = .ok (.getfield 19, 3) := by decide +kernel
theorem dX12_oil_20 : decode cX12_oil 20 = .ok (.iload_n 1, 1) := by decide +kernel
theorem dX12_oil_21 : decode cX12_oil 21 = .ok (.iconst 4, 1) := by decide +kernel
theorem dX12_oil_22 : decode cX12_oil 22 = .ok (.invokestatic 167, 3) := by decide +kernel
theorem dX12_oil_25 : decode cX12_oil 25 = .ok (.istore_n 2, 1) := by decide +kernel
theorem dX12_oil_26 : decode cX12_oil 26 = .ok (.iload_n 2, 1) := by decide +kernel
theorem dX12_oil_27 : decode cX12_oil 27 = .ok (.ifCond .ne 6, 3) := by decide +kernel
theorem dX12_oil_30 : decode cX12_oil 30 = .ok (.ldc 219, 2) := by decide +kernel
theorem dX12_oil_32 : decode cX12_oil 32 = .ok (.ireturn, 1) := by decide +kernel
theorem dX12_oil_33 : decode cX12_oil 33 = .ok (.aload_n 0, 1) := by decide +kernel
theorem dX12_oil_34 : decode cX12_oil 34 = .ok (.invokevirtual 227, 3) := by decide +kernel
theorem dX12_oil_37 : decode cX12_oil 37 = .ok (.aload_n 0, 1) := by decide +kernel
theorem dX12_oil_38 : decode cX12_oil 38 = .ok (.getfield 19, 3) := by decide +kernel
theorem dX12_oil_41 : decode cX12_oil 41 = .ok (.iload_n 1, 1) := by decide +kernel
theorem dX12_oil_42 : decode cX12_oil 42 = .ok (.iconst 4, 1) := by decide +kernel
theorem dX12_oil_43 : decode cX12_oil 43 = .ok (.iconst 0, 1) := by decide +kernel
theorem dX12_oil_44 : decode cX12_oil 44 = .ok (.invokestatic 188, 3) := by decide +kernel
theorem dX12_oil_47 : decode cX12_oil 47 = .ok (.iload_n 2, 1) := by decide +kernel
theorem dX12_oil_48 : decode cX12_oil 48 = .ok (.ireturn, 1) := by decide +kernel
theorem dX12_weightOf_0 : decode cX12_weightOf 0 = .ok (.iconst 0, 1) := by decide +kernel
theorem dX12_weightOf_1 : decode cX12_weightOf 1 = .ok (.istore_n 1, 1) := by decide +kernel
theorem dX12_weightOf_2 : decode cX12_weightOf 2 = .ok (.iconst 0, 1) := by decide +kernel
theorem dX12_weightOf_3 : decode cX12_weightOf 3 = .ok (.istore_n 2, 1) := by decide +kernel
theorem dX12_weightOf_4 : decode cX12_weightOf 4 = .ok (.iload_n 2, 1) := by decide +kernel
theorem dX12_weightOf_5 : decode cX12_weightOf 5 = .ok (.aload_n 0, 1) := by decide +kernel
theorem dX12_weightOf_6 : decode cX12_weightOf 6 = .ok (.iconst 1, 1) := by decide +kernel
theorem dX12_weightOf_7 : decode cX12_weightOf 7 = .ok (.iaload, 1) := by decide +kernel
theorem dX12_weightOf_8 : decode cX12_weightOf 8 = .ok (.if_icmp .ge 18, 3) := by decide +kernel
theorem dX12_weightOf_11 : decode cX12_weightOf 11 = .ok (.iload_n 1, 1) := by decide +kernel
theorem dX12_weightOf_12 : decode cX12_weightOf 12 = .ok (.aload_n 0, 1) := by decide +kernel
theorem dX12_weightOf_13 : decode cX12_weightOf 13 = .ok (.bipush 6, 2) := by decide +kernel
theorem dX12_weightOf_15 : decode cX12_weightOf 15 = .ok (.iload_n 2, 1) := by decide +kernel
theorem dX12_weightOf_16 : decode cX12_weightOf 16 = .ok (.iadd, 1) := by decide +kernel
theorem dX12_weightOf_17 : decode cX12_weightOf 17 = .ok (.iaload, 1) := by decide +kernel
theorem dX12_weightOf_18 : decode cX12_weightOf 18 = .ok (.iadd, 1) := by decide +kernel
theorem dX12_weightOf_19 : decode cX12_weightOf 19 = .ok (.istore_n 1, 1) := by decide +kernel
theorem dX12_weightOf_20 : decode cX12_weightOf 20 = .ok (.iinc 2 1, 3) := by decide +kernel
theorem dX12_weightOf_23 : decode cX12_weightOf 23 = .ok (.goto (-19), 3) := by decide +kernel
theorem dX12_weightOf_26 : decode cX12_weightOf 26 = .ok (.iload_n 1, 1) := by decide +kernel
theorem dX12_weightOf_27 : decode cX12_weightOf 27 = .ok (.ireturn, 1) := by decide +kernel
theorem dX12_bring_0 : decode cX12_bring 0 = .ok (.aload_n 0, 1) := by decide +kernel
theorem dX12_bring_1 : decode cX12_bring 1 = .ok (.iconst 0, 1) := by decide +kernel
theorem dX12_bring_2 : decode cX12_bring 2 = .ok (.putfield 53, 3) := by decide +kernel
theorem dX12_bring_5 : decode cX12_bring 5 = .ok (.aload_n 0, 1) := by decide +kernel
theorem dX12_bring_6 : decode cX12_bring 6 = .ok (.iload_n 1, 1) := by decide +kernel
theorem dX12_bring_7 : decode cX12_bring 7 = .ok (.invokevirtual 239, 3) := by decide +kernel
theorem dX12_bring_10 : decode cX12_bring 10 = .ok (.ifCond .eq 15, 3) := by decide +kernel
theorem dX12_bring_13 : decode cX12_bring 13 = .ok (.iload_n 2, 1) := by decide +kernel
theorem dX12_bring_14 : decode cX12_bring 14 = .ok (.i2l, 1) := by decide +kernel
theorem dX12_bring_15 : decode cX12_bring 15 = .ok (.lconst 1, 1) := by decide +kernel
theorem dX12_bring_16 : decode cX12_bring 16 = .ok (.ldc2_w 242, 3) := by decide +kernel
theorem dX12_bring_19 : decode cX12_bring 19 = .ok (.invokestatic 63, 3) := by decide +kernel
theorem dX12_bring_22 : decode cX12_bring 22 = .ok (.ifCond .ne 6, 3) := by decide +kernel
theorem dX12_bring_25 : decode cX12_bring 25 = .ok (.ldc 73, 2) := by decide +kernel
theorem dX12_bring_27 : decode cX12_bring 27 = .ok (.ireturn, 1) := by decide +kernel
theorem dX12_bring_28 : decode cX12_bring 28 = .ok (.aload_n 0, 1) := by decide +kernel
theorem dX12_bring_29 : decode cX12_bring 29 = .ok (.getfield 19, 3) := by decide +kernel
theorem dX12_bring_32 : decode cX12_bring 32 = .ok (.bipush 6, 2) := by decide +kernel
theorem dX12_bring_34 : decode cX12_bring 34 = .ok (.iload_n 1, 1) := by decide +kernel
theorem dX12_bring_35 : decode cX12_bring 35 = .ok (.iadd, 1) := by decide +kernel
theorem dX12_bring_36 : decode cX12_bring 36 = .ok (.iaload, 1) := by decide +kernel
theorem dX12_bring_37 : decode cX12_bring 37 = .ok (.ifCond .le 6, 3) := by decide +kernel
theorem dX12_bring_40 : decode cX12_bring 40 = .ok (.ldc 219, 2) := by decide +kernel
theorem dX12_bring_42 : decode cX12_bring 42 = .ok (.ireturn, 1) := by decide +kernel
theorem dX12_bring_43 : decode cX12_bring 43 = .ok (.aload_n 0, 1) := by decide +kernel
theorem dX12_bring_44 : decode cX12_bring 44 = .ok (.invokevirtual 227, 3) := by decide +kernel
theorem dX12_bring_47 : decode cX12_bring 47 = .ok (.aload_n 0, 1) := by decide +kernel
theorem dX12_bring_48 : decode cX12_bring 48 = .ok (.getfield 19, 3) := by decide +kernel
theorem dX12_bring_51 : decode cX12_bring 51 = .ok (.bipush 6, 2) := by decide +kernel
theorem dX12_bring_53 : decode cX12_bring 53 = .ok (.iload_n 1, 1) := by decide +kernel
theorem dX12_bring_54 : decode cX12_bring 54 = .ok (.iadd, 1) := by decide +kernel
theorem dX12_bring_55 : decode cX12_bring 55 = .ok (.iload_n 2, 1) := by decide +kernel
theorem dX12_bring_56 : decode cX12_bring 56 = .ok (.iastore, 1) := by decide +kernel
theorem dX12_bring_57 : decode cX12_bring 57 = .ok (.aload_n 0, 1) := by decide +kernel
theorem dX12_bring_58 : decode cX12_bring 58 = .ok (.getfield 19, 3) := by decide +kernel
theorem dX12_bring_61 : decode cX12_bring 61 = .ok (.invokestatic 244, 3) := by decide +kernel
theorem dX12_bring_64 : decode cX12_bring 64 = .ok (.ireturn, 1) := by decide +kernel
theorem dX12_rule_0 : decode cX12_rule 0 = .ok (.aload_n 0, 1) := by decide +kernel
theorem dX12_rule_1 : decode cX12_rule 1 = .ok (.iconst 0, 1) := by decide +kernel
theorem dX12_rule_2 : decode cX12_rule 2 = .ok (.putfield 53, 3) := by decide +kernel
theorem dX12_rule_5 : decode cX12_rule 5 = .ok (.aload_n 0, 1) := by decide +kernel
theorem dX12_rule_6 : decode cX12_rule 6 = .ok (.invokevirtual 216, 3) := by decide +kernel
theorem dX12_rule_9 : decode cX12_rule 9 = .ok (.ifCond .ne 6, 3) := by decide +kernel
theorem dX12_rule_12 : decode cX12_rule 12 = .ok (.ldc 219, 2) := by decide +kernel
theorem dX12_rule_14 : decode cX12_rule 14 = .ok (.ireturn, 1) := by decide +kernel
theorem dX12_rule_15 : decode cX12_rule 15 = .ok (.iload_n 1, 1) := by decide +kernel
theorem dX12_rule_16 : decode cX12_rule 16 = .ok (.ifCond .ne 15, 3) := by decide +kernel
theorem dX12_rule_19 : decode cX12_rule 19 = .ok (.iload_n 2, 1) := by decide +kernel
theorem dX12_rule_20 : decode cX12_rule 20 = .ok (.i2l, 1) := by decide +kernel
theorem dX12_rule_21 : decode cX12_rule 21 = .ok (.lconst 0, 1) := by decide +kernel
theorem dX12_rule_22 : decode cX12_rule 22 = .ok (.ldc2_w 247, 3) := by decide +kernel
theorem dX12_rule_25 : decode cX12_rule 25 = .ok (.invokestatic 63, 3) := by decide +kernel
theorem dX12_rule_28 : decode cX12_rule 28 = .ok (.ifCond .ne 37, 3) := by decide +kernel
theorem dX12_rule_31 : decode cX12_rule 31 = .ok (.iload_n 1, 1) := by decide +kernel
theorem dX12_rule_32 : decode cX12_rule 32 = .ok (.iconst 1, 1) := by decide +kernel
theorem dX12_rule_33 : decode cX12_rule 33 = .ok (.if_icmp .ne 15, 3) := by decide +kernel
theorem dX12_rule_36 : decode cX12_rule 36 = .ok (.iload_n 2, 1) := by decide +kernel
theorem dX12_rule_37 : decode cX12_rule 37 = .ok (.i2l, 1) := by decide +kernel
theorem dX12_rule_38 : decode cX12_rule 38 = .ok (.lconst 1, 1) := by decide +kernel
theorem dX12_rule_39 : decode cX12_rule 39 = .ok (.ldc2_w 249, 3) := by decide +kernel
theorem dX12_rule_42 : decode cX12_rule 42 = .ok (.invokestatic 63, 3) := by decide +kernel
theorem dX12_rule_45 : decode cX12_rule 45 = .ok (.ifCond .ne 20, 3) := by decide +kernel
theorem dX12_rule_48 : decode cX12_rule 48 = .ok (.iload_n 1, 1) := by decide +kernel
theorem dX12_rule_49 : decode cX12_rule 49 = .ok (.iconst 2, 1) := by decide +kernel
theorem dX12_rule_50 : decode cX12_rule 50 = .ok (.if_icmp .ne 19, 3) := by decide +kernel
theorem dX12_rule_53 : decode cX12_rule 53 = .ok (.iload_n 2, 1) := by decide +kernel
theorem dX12_rule_54 : decode cX12_rule 54 = .ok (.i2l, 1) := by decide +kernel
theorem dX12_rule_55 : decode cX12_rule 55 = .ok (.lconst 1, 1) := by decide +kernel
theorem dX12_rule_56 : decode cX12_rule 56 = .ok (.ldc2_w 251, 3) := by decide +kernel
theorem dX12_rule_59 : decode cX12_rule 59 = .ok (.invokestatic 63, 3) := by decide +kernel
theorem dX12_rule_62 : decode cX12_rule 62 = .ok (.ifCond .eq 7, 3) := by decide +kernel
theorem dX12_rule_65 : decode cX12_rule 65 = .ok (.iconst 1, 1) := by decide +kernel
theorem dX12_rule_66 : decode cX12_rule 66 = .ok (.goto 4, 3) := by decide +kernel
theorem dX12_rule_69 : decode cX12_rule 69 = .ok (.iconst 0, 1) := by decide +kernel
theorem dX12_rule_70 : decode cX12_rule 70 = .ok (.istore_n 3, 1) := by decide +kernel
theorem dX12_rule_71 : decode cX12_rule 71 = .ok (.iload_n 3, 1) := by decide +kernel
theorem dX12_rule_72 : decode cX12_rule 72 = .ok (.ifCond .ne 6, 3) := by decide +kernel
theorem dX12_rule_75 : decode cX12_rule 75 = .ok (.ldc 73, 2) := by decide +kernel
theorem dX12_rule_77 : decode cX12_rule 77 = .ok (.ireturn, 1) := by decide +kernel
theorem dX12_rule_78 : decode cX12_rule 78 = .ok (.iload_n 1, 1) := by decide +kernel
theorem dX12_rule_79 : decode cX12_rule 79 = .ok (.ifCond .ne 7, 3) := by decide +kernel
theorem dX12_rule_82 : decode cX12_rule 82 = .ok (.iconst 4, 1) := by decide +kernel
theorem dX12_rule_83 : decode cX12_rule 83 = .ok (.goto 13, 3) := by decide +kernel
theorem dX12_rule_86 : decode cX12_rule 86 = .ok (.iload_n 1, 1) := by decide +kernel
theorem dX12_rule_87 : decode cX12_rule 87 = .ok (.iconst 1, 1) := by decide +kernel
theorem dX12_rule_88 : decode cX12_rule 88 = .ok (.if_icmp .ne 7, 3) := by decide +kernel
theorem dX12_rule_91 : decode cX12_rule 91 = .ok (.iconst 2, 1) := by decide +kernel
theorem dX12_rule_92 : decode cX12_rule 92 = .ok (.goto 4, 3) := by decide +kernel
theorem dX12_rule_95 : decode cX12_rule 95 = .ok (.iconst 3, 1) := by decide +kernel
theorem dX12_rule_96 : decode cX12_rule 96 = .ok (.istore 4, 2) := by decide +kernel
theorem dX12_rule_98 : decode cX12_rule 98 = .ok (.aload_n 0, 1) := by decide +kernel
theorem dX12_rule_99 : decode cX12_rule 99 = .ok (.invokevirtual 227, 3) := by decide +kernel
theorem dX12_rule_102 : decode cX12_rule 102 = .ok (.aload_n 0, 1) := by decide +kernel
theorem dX12_rule_103 : decode cX12_rule 103 = .ok (.getfield 19, 3) := by decide +kernel
theorem dX12_rule_106 : decode cX12_rule 106 = .ok (.iload 4, 2) := by decide +kernel
theorem dX12_rule_108 : decode cX12_rule 108 = .ok (.iaload, 1) := by decide +kernel
theorem dX12_rule_109 : decode cX12_rule 109 = .ok (.istore 5, 2) := by decide +kernel
theorem dX12_rule_111 : decode cX12_rule 111 = .ok (.aload_n 0, 1) := by decide +kernel
theorem dX12_rule_112 : decode cX12_rule 112 = .ok (.getfield 19, 3) := by decide +kernel
theorem dX12_rule_115 : decode cX12_rule 115 = .ok (.iload 4, 2) := by decide +kernel
theorem dX12_rule_117 : decode cX12_rule 117 = .ok (.iload_n 2, 1) := by decide +kernel
theorem dX12_rule_118 : decode cX12_rule 118 = .ok (.iastore, 1) := by decide +kernel
theorem dX12_rule_119 : decode cX12_rule 119 = .ok (.iload 5, 2) := by decide +kernel
theorem dX12_rule_121 : decode cX12_rule 121 = .ok (.ireturn, 1) := by decide +kernel
theorem dX12_undo_0 : decode cX12_undo 0 = .ok (.aload_n 0, 1) := by decide +kernel
theorem dX12_undo_1 : decode cX12_undo 1 = .ok (.iconst 0, 1) := by decide +kernel
theorem dX12_undo_2 : decode cX12_undo 2 = .ok (.putfield 53, 3) := by decide +kernel
theorem dX12_undo_5 : decode cX12_undo 5 = .ok (.aload_n 0, 1) := by decide +kernel
theorem dX12_undo_6 : decode cX12_undo 6 = .ok (.getfield 161, 3) := by decide +kernel
theorem dX12_undo_9 : decode cX12_undo 9 = .ok (.ifCond .ne 6, 3) := by decide +kernel
theorem dX12_undo_12 : decode cX12_undo 12 = .ok (.ldc 219, 2) := by decide +kernel
theorem dX12_undo_14 : decode cX12_undo 14 = .ok (.ireturn, 1) := by decide +kernel
theorem dX12_undo_15 : decode cX12_undo 15 = .ok (.aload_n 0, 1) := by decide +kernel
theorem dX12_undo_16 : decode cX12_undo 16 = .ok (.dup, 1) := by decide +kernel
theorem dX12_undo_17 : decode cX12_undo 17 = .ok (.getfield 161, 3) := by decide +kernel
theorem dX12_undo_20 : decode cX12_undo 20 = .ok (.iconst 1, 1) := by decide +kernel
theorem dX12_undo_21 : decode cX12_undo 21 = .ok (.isub, 1) := by decide +kernel
theorem dX12_undo_22 : decode cX12_undo 22 = .ok (.putfield 161, 3) := by decide +kernel
theorem dX12_undo_25 : decode cX12_undo 25 = .ok (.iconst 0, 1) := by decide +kernel
theorem dX12_undo_26 : decode cX12_undo 26 = .ok (.istore_n 1, 1) := by decide +kernel
theorem dX12_undo_27 : decode cX12_undo 27 = .ok (.iload_n 1, 1) := by decide +kernel
theorem dX12_undo_28 : decode cX12_undo 28 = .ok (.bipush 54, 2) := by decide +kernel
theorem dX12_undo_30 : decode cX12_undo 30 = .ok (.if_icmp .ge 29, 3) := by decide +kernel
theorem dX12_undo_33 : decode cX12_undo 33 = .ok (.aload_n 0, 1) := by decide +kernel
theorem dX12_undo_34 : decode cX12_undo 34 = .ok (.getfield 19, 3) := by decide +kernel
theorem dX12_undo_37 : decode cX12_undo 37 = .ok (.iload_n 1, 1) := by decide +kernel
theorem dX12_undo_38 : decode cX12_undo 38 = .ok (.aload_n 0, 1) := by decide +kernel
theorem dX12_undo_39 : decode cX12_undo 39 = .ok (.getfield 28, 3) := by decide +kernel
theorem dX12_undo_42 : decode cX12_undo 42 = .ok (.bipush 54, 2) := by decide +kernel
theorem dX12_undo_44 : decode cX12_undo 44 = .ok (.aload_n 0, 1) := by decide +kernel
theorem dX12_undo_45 : decode cX12_undo 45 = .ok (.getfield 161, 3) := by decide +kernel
theorem dX12_undo_48 : decode cX12_undo 48 = .ok (.imul, 1) := by decide +kernel
theorem dX12_undo_49 : decode cX12_undo 49 = .ok (.iload_n 1, 1) := by decide +kernel
theorem dX12_undo_50 : decode cX12_undo 50 = .ok (.iadd, 1) := by decide +kernel
theorem dX12_undo_51 : decode cX12_undo 51 = .ok (.iaload, 1) := by decide +kernel
theorem dX12_undo_52 : decode cX12_undo 52 = .ok (.iastore, 1) := by decide +kernel
theorem dX12_undo_53 : decode cX12_undo 53 = .ok (.iinc 1 1, 3) := by decide +kernel
theorem dX12_undo_56 : decode cX12_undo 56 = .ok (.goto (-29), 3) := by decide +kernel
theorem dX12_undo_59 : decode cX12_undo 59 = .ok (.aload_n 0, 1) := by decide +kernel
theorem dX12_undo_60 : decode cX12_undo 60 = .ok (.getfield 161, 3) := by decide +kernel
theorem dX12_undo_63 : decode cX12_undo 63 = .ok (.ireturn, 1) := by decide +kernel
theorem dX12_door_0 : decode cX12_door 0 = .ok (.aload_n 0, 1) := by decide +kernel
theorem dX12_door_1 : decode cX12_door 1 = .ok (.iconst 0, 1) := by decide +kernel
theorem dX12_door_2 : decode cX12_door 2 = .ok (.putfield 53, 3) := by decide +kernel
theorem dX12_door_5 : decode cX12_door 5 = .ok (.aload_n 0, 1) := by decide +kernel
theorem dX12_door_6 : decode cX12_door 6 = .ok (.iload_n 1, 1) := by decide +kernel
theorem dX12_door_7 : decode cX12_door 7 = .ok (.invokevirtual 236, 3) := by decide +kernel
theorem dX12_door_10 : decode cX12_door 10 = .ok (.ifCond .ne 6, 3) := by decide +kernel
theorem dX12_door_13 : decode cX12_door 13 = .ok (.ldc 73, 2) := by decide +kernel
theorem dX12_door_15 : decode cX12_door 15 = .ok (.ireturn, 1) := by decide +kernel
theorem dX12_door_16 : decode cX12_door 16 = .ok (.iload_n 2, 1) := by decide +kernel
theorem dX12_door_17 : decode cX12_door 17 = .ok (.tableswitch 97 0 5 #[39, 49, 59, 69, 79, 88], 39) := by decide +kernel
theorem dX12_door_56 : decode cX12_door 56 = .ok (.aload_n 0, 1) := by decide +kernel
theorem dX12_door_57 : decode cX12_door 57 = .ok (.getfield 19, 3) := by decide +kernel
theorem dX12_door_60 : decode cX12_door 60 = .ok (.iload_n 1, 1) := by decide +kernel
theorem dX12_door_61 : decode cX12_door 61 = .ok (.iconst 1, 1) := by decide +kernel
theorem dX12_door_62 : decode cX12_door 62 = .ok (.invokestatic 167, 3) := by decide +kernel
theorem dX12_door_65 : decode cX12_door 65 = .ok (.ireturn, 1) := by decide +kernel
theorem dX12_door_66 : decode cX12_door 66 = .ok (.aload_n 0, 1) := by decide +kernel
theorem dX12_door_67 : decode cX12_door 67 = .ok (.getfield 19, 3) := by decide +kernel
theorem dX12_door_70 : decode cX12_door 70 = .ok (.iload_n 1, 1) := by decide +kernel
theorem dX12_door_71 : decode cX12_door 71 = .ok (.iconst 2, 1) := by decide +kernel
theorem dX12_door_72 : decode cX12_door 72 = .ok (.invokestatic 167, 3) := by decide +kernel
theorem dX12_door_75 : decode cX12_door 75 = .ok (.ireturn, 1) := by decide +kernel
theorem dX12_door_76 : decode cX12_door 76 = .ok (.aload_n 0, 1) := by decide +kernel
theorem dX12_door_77 : decode cX12_door 77 = .ok (.getfield 19, 3) := by decide +kernel
theorem dX12_door_80 : decode cX12_door 80 = .ok (.iload_n 1, 1) := by decide +kernel
theorem dX12_door_81 : decode cX12_door 81 = .ok (.iconst 3, 1) := by decide +kernel
theorem dX12_door_82 : decode cX12_door 82 = .ok (.invokestatic 167, 3) := by decide +kernel
theorem dX12_door_85 : decode cX12_door 85 = .ok (.ireturn, 1) := by decide +kernel
theorem dX12_door_86 : decode cX12_door 86 = .ok (.aload_n 0, 1) := by decide +kernel
theorem dX12_door_87 : decode cX12_door 87 = .ok (.getfield 19, 3) := by decide +kernel
theorem dX12_door_90 : decode cX12_door 90 = .ok (.iload_n 1, 1) := by decide +kernel
theorem dX12_door_91 : decode cX12_door 91 = .ok (.iconst 4, 1) := by decide +kernel
theorem dX12_door_92 : decode cX12_door 92 = .ok (.invokestatic 167, 3) := by decide +kernel
theorem dX12_door_95 : decode cX12_door 95 = .ok (.ireturn, 1) := by decide +kernel
theorem dX12_door_96 : decode cX12_door 96 = .ok (.aload_n 0, 1) := by decide +kernel
theorem dX12_door_97 : decode cX12_door 97 = .ok (.getfield 19, 3) := by decide +kernel
theorem dX12_door_100 : decode cX12_door 100 = .ok (.iload_n 1, 1) := by decide +kernel
theorem dX12_door_101 : decode cX12_door 101 = .ok (.invokestatic 185, 3) := by decide +kernel
theorem dX12_door_104 : decode cX12_door 104 = .ok (.ireturn, 1) := by decide +kernel
theorem dX12_door_105 : decode cX12_door 105 = .ok (.aload_n 0, 1) := by decide +kernel
theorem dX12_door_106 : decode cX12_door 106 = .ok (.getfield 19, 3) := by decide +kernel
theorem dX12_door_109 : decode cX12_door 109 = .ok (.iload_n 1, 1) := by decide +kernel
theorem dX12_door_110 : decode cX12_door 110 = .ok (.invokestatic 174, 3) := by decide +kernel
theorem dX12_door_113 : decode cX12_door 113 = .ok (.ireturn, 1) := by decide +kernel
theorem dX12_door_114 : decode cX12_door 114 = .ok (.ldc 73, 2) := by decide +kernel
theorem dX12_door_116 : decode cX12_door 116 = .ok (.ireturn, 1) := by decide +kernel
theorem dX12_room_0 : decode cX12_room 0 = .ok (.aload_n 0, 1) := by decide +kernel
theorem dX12_room_1 : decode cX12_room 1 = .ok (.iconst 0, 1) := by decide +kernel
theorem dX12_room_2 : decode cX12_room 2 = .ok (.putfield 53, 3) := by decide +kernel
theorem dX12_room_5 : decode cX12_room 5 = .ok (.aload_n 0, 1) := by decide +kernel
theorem dX12_room_6 : decode cX12_room 6 = .ok (.iload_n 1, 1) := by decide +kernel
theorem dX12_room_7 : decode cX12_room 7 = .ok (.invokevirtual 239, 3) := by decide +kernel
theorem dX12_room_10 : decode cX12_room 10 = .ok (.ifCond .eq 13, 3) := by decide +kernel
theorem dX12_room_13 : decode cX12_room 13 = .ok (.iload_n 2, 1) := by decide +kernel
theorem dX12_room_14 : decode cX12_room 14 = .ok (.i2l, 1) := by decide +kernel
theorem dX12_room_15 : decode cX12_room 15 = .ok (.lconst 0, 1) := by decide +kernel
theorem dX12_room_16 : decode cX12_room 16 = .ok (.lconst 1, 1) := by decide +kernel
theorem dX12_room_17 : decode cX12_room 17 = .ok (.invokestatic 63, 3) := by decide +kernel
theorem dX12_room_20 : decode cX12_room 20 = .ok (.ifCond .ne 6, 3) := by decide +kernel
theorem dX12_room_23 : decode cX12_room 23 = .ok (.ldc 73, 2) := by decide +kernel
theorem dX12_room_25 : decode cX12_room 25 = .ok (.ireturn, 1) := by decide +kernel
theorem dX12_room_26 : decode cX12_room 26 = .ok (.iconst 0, 1) := by decide +kernel
theorem dX12_room_27 : decode cX12_room 27 = .ok (.istore_n 3, 1) := by decide +kernel
theorem dX12_room_28 : decode cX12_room 28 = .ok (.iconst 0, 1) := by decide +kernel
theorem dX12_room_29 : decode cX12_room 29 = .ok (.istore 4, 2) := by decide +kernel
theorem dX12_room_31 : decode cX12_room 31 = .ok (.iload 4, 2) := by decide +kernel
theorem dX12_room_33 : decode cX12_room 33 = .ok (.aload_n 0, 1) := by decide +kernel
theorem dX12_room_34 : decode cX12_room 34 = .ok (.getfield 19, 3) := by decide +kernel
theorem dX12_room_37 : decode cX12_room 37 = .ok (.iconst 0, 1) := by decide +kernel
theorem dX12_room_38 : decode cX12_room 38 = .ok (.iaload, 1) := by decide +kernel
theorem dX12_room_39 : decode cX12_room 39 = .ok (.if_icmp .ge 48, 3) := by decide +kernel
theorem dX12_room_42 : decode cX12_room 42 = .ok (.iload_n 3, 1) := by decide +kernel
theorem dX12_room_43 : decode cX12_room 43 = .ok (.aload_n 0, 1) := by decide +kernel
theorem dX12_room_44 : decode cX12_room 44 = .ok (.getfield 19, 3) := by decide +kernel
theorem dX12_room_47 : decode cX12_room 47 = .ok (.iload 4, 2) := by decide +kernel
theorem dX12_room_49 : decode cX12_room 49 = .ok (.iconst 1, 1) := by decide +kernel
theorem dX12_room_50 : decode cX12_room 50 = .ok (.invokestatic 167, 3) := by decide +kernel
theorem dX12_room_53 : decode cX12_room 53 = .ok (.iload_n 1, 1) := by decide +kernel
theorem dX12_room_54 : decode cX12_room 54 = .ok (.if_icmp .eq 17, 3) := by decide +kernel
theorem dX12_room_57 : decode cX12_room 57 = .ok (.aload_n 0, 1) := by decide +kernel
theorem dX12_room_58 : decode cX12_room 58 = .ok (.getfield 19, 3) := by decide +kernel
theorem dX12_room_61 : decode cX12_room 61 = .ok (.iload 4, 2) := by decide +kernel
theorem dX12_room_63 : decode cX12_room 63 = .ok (.iconst 2, 1) := by decide +kernel
theorem dX12_room_64 : decode cX12_room 64 = .ok (.invokestatic 167, 3) := by decide +kernel
theorem dX12_room_67 : decode cX12_room 67 = .ok (.iload_n 1, 1) := by decide +kernel
theorem dX12_room_68 : decode cX12_room 68 = .ok (.if_icmp .ne 10, 3) := by decide +kernel
theorem dX12_room_71 : decode cX12_room 71 = .ok (.iconst 1, 1) := by decide +kernel
theorem dX12_room_72 : decode cX12_room 72 = .ok (.iload 4, 2) := by decide +kernel
theorem dX12_room_74 : decode cX12_room 74 = .ok (.ishl, 1) := by decide +kernel
theorem dX12_room_75 : decode cX12_room 75 = .ok (.goto 4, 3) := by decide +kernel
theorem dX12_room_78 : decode cX12_room 78 = .ok (.iconst 0, 1) := by decide +kernel
theorem dX12_room_79 : decode cX12_room 79 = .ok (.ior, 1) := by decide +kernel
theorem dX12_room_80 : decode cX12_room 80 = .ok (.istore_n 3, 1) := by decide +kernel
theorem dX12_room_81 : decode cX12_room 81 = .ok (.iinc 4 1, 3) := by decide +kernel
theorem dX12_room_84 : decode cX12_room 84 = .ok (.goto (-53), 3) := by decide +kernel
theorem dX12_room_87 : decode cX12_room 87 = .ok (.iload_n 2, 1) := by decide +kernel
theorem dX12_room_88 : decode cX12_room 88 = .ok (.ifCond .ne 15, 3) := by decide +kernel
theorem dX12_room_91 : decode cX12_room 91 = .ok (.aload_n 0, 1) := by decide +kernel
theorem dX12_room_92 : decode cX12_room 92 = .ok (.getfield 19, 3) := by decide +kernel
theorem dX12_room_95 : decode cX12_room 95 = .ok (.bipush 6, 2) := by decide +kernel
theorem dX12_room_97 : decode cX12_room 97 = .ok (.iload_n 1, 1) := by decide +kernel
theorem dX12_room_98 : decode cX12_room 98 = .ok (.iadd, 1) := by decide +kernel
theorem dX12_room_99 : decode cX12_room 99 = .ok (.iaload, 1) := by decide +kernel
theorem dX12_room_100 : decode cX12_room 100 = .ok (.goto 4, 3) := by decide +kernel
theorem dX12_room_103 : decode cX12_room 103 = .ok (.iload_n 3, 1) := by decide +kernel
theorem dX12_room_104 : decode cX12_room 104 = .ok (.ireturn, 1) := by decide +kernel
theorem dX12_would_0 : decode cX12_would 0 = .ok (.aload_n 0, 1) := by decide +kernel
theorem dX12_would_1 : decode cX12_would 1 = .ok (.iconst 0, 1) := by decide +kernel
theorem dX12_would_2 : decode cX12_would 2 = .ok (.putfield 53, 3) := by decide +kernel
theorem dX12_would_5 : decode cX12_would 5 = .ok (.aload_n 0, 1) := by decide +kernel
theorem dX12_would_6 : decode cX12_would 6 = .ok (.invokevirtual 216, 3) := by decide +kernel
theorem dX12_would_9 : decode cX12_would 9 = .ok (.ifCond .ne 6, 3) := by decide +kernel
theorem dX12_would_12 : decode cX12_would 12 = .ok (.ldc 219, 2) := by decide +kernel
theorem dX12_would_14 : decode cX12_would 14 = .ok (.ireturn, 1) := by decide +kernel
theorem dX12_would_15 : decode cX12_would 15 = .ok (.iload_n 1, 1) := by decide +kernel
theorem dX12_would_16 : decode cX12_would 16 = .ok (.iload_n 3, 1) := by decide +kernel
theorem dX12_would_17 : decode cX12_would 17 = .ok (.invokestatic 220, 3) := by decide +kernel
theorem dX12_would_20 : decode cX12_would 20 = .ok (.ifCond .eq 16, 3) := by decide +kernel
theorem dX12_would_23 : decode cX12_would 23 = .ok (.iload 4, 2) := by decide +kernel
theorem dX12_would_25 : decode cX12_would 25 = .ok (.i2l, 1) := by decide +kernel
theorem dX12_would_26 : decode cX12_would 26 = .ok (.lconst 0, 1) := by decide +kernel
theorem dX12_would_27 : decode cX12_would 27 = .ok (.ldc2_w 253, 3) := by decide +kernel
theorem dX12_would_30 : decode cX12_would 30 = .ok (.invokestatic 63, 3) := by decide +kernel
theorem dX12_would_33 : decode cX12_would 33 = .ok (.ifCond .ne 6, 3) := by decide +kernel
theorem dX12_would_36 : decode cX12_would 36 = .ok (.ldc 73, 2) := by decide +kernel
theorem dX12_would_38 : decode cX12_would 38 = .ok (.ireturn, 1) := by decide +kernel
theorem dX12_would_39 : decode cX12_would 39 = .ok (.aload_n 0, 1) := by decide +kernel
theorem dX12_would_40 : decode cX12_would 40 = .ok (.iload_n 1, 1) := by decide +kernel
theorem dX12_would_41 : decode cX12_would 41 = .ok (.iload_n 2, 1) := by decide +kernel
theorem dX12_would_42 : decode cX12_would 42 = .ok (.iload_n 3, 1) := by decide +kernel
theorem dX12_would_43 : decode cX12_would 43 = .ok (.invokevirtual 223, 3) := by decide +kernel
theorem dX12_would_46 : decode cX12_would 46 = .ok (.istore 5, 2) := by decide +kernel
theorem dX12_would_48 : decode cX12_would 48 = .ok (.iload 5, 2) := by decide +kernel
theorem dX12_would_50 : decode cX12_would 50 = .ok (.ifCond .eq 6, 3) := by decide +kernel
theorem dX12_would_53 : decode cX12_would 53 = .ok (.iload 5, 2) := by decide +kernel
theorem dX12_would_55 : decode cX12_would 55 = .ok (.ireturn, 1) := by decide +kernel
theorem dX12_would_56 : decode cX12_would 56 = .ok (.aload_n 0, 1) := by decide +kernel
theorem dX12_would_57 : decode cX12_would 57 = .ok (.invokevirtual 255, 3) := by decide +kernel
theorem dX12_would_60 : decode cX12_would 60 = .ok (.aload_n 0, 1) := by decide +kernel
theorem dX12_would_61 : decode cX12_would 61 = .ok (.aload_n 0, 1) := by decide +kernel
theorem dX12_would_62 : decode cX12_would 62 = .ok (.getfield 25, 3) := by decide +kernel
theorem dX12_would_65 : decode cX12_would 65 = .ok (.iload_n 3, 1) := by decide +kernel
theorem dX12_would_66 : decode cX12_would 66 = .ok (.invokevirtual 230, 3) := by decide +kernel
theorem dX12_would_69 : decode cX12_would 69 = .ok (.istore 6, 2) := by decide +kernel
theorem dX12_would_71 : decode cX12_would 71 = .ok (.iload 4, 2) := by decide +kernel
theorem dX12_would_73 : decode cX12_would 73 = .ok (.tableswitch 67 0 3 #[31, 52, 57, 62], 31) := by decide +kernel
theorem dX12_would_104 : decode cX12_would 104 = .ok (.aload_n 0, 1) := by decide +kernel
theorem dX12_would_105 : decode cX12_would 105 = .ok (.getfield 208, 3) := by decide +kernel
theorem dX12_would_108 : decode cX12_would 108 = .ok (.ifCond .ne 8, 3) := by decide +kernel
theorem dX12_would_111 : decode cX12_would 111 = .ok (.iload 6, 2) := by decide +kernel
theorem dX12_would_113 : decode cX12_would 113 = .ok (.goto 11, 3) := by decide +kernel
theorem dX12_would_116 : decode cX12_would 116 = .ok (.sipush 1000, 3) := by decide +kernel
theorem dX12_would_119 : decode cX12_would 119 = .ok (.aload_n 0, 1) := by decide +kernel
theorem dX12_would_120 : decode cX12_would 120 = .ok (.getfield 208, 3) := by decide +kernel
theorem dX12_would_123 : decode cX12_would 123 = .ok (.iadd, 1) := by decide +kernel
theorem dX12_would_124 : decode cX12_would 124 = .ok (.ireturn, 1) := by decide +kernel
theorem dX12_would_125 : decode cX12_would 125 = .ok (.aload_n 0, 1) := by decide +kernel
theorem dX12_would_126 : decode cX12_would 126 = .ok (.getfield 182, 3) := by decide +kernel
theorem dX12_would_129 : decode cX12_would 129 = .ok (.ireturn, 1) := by decide +kernel
theorem dX12_would_130 : decode cX12_would 130 = .ok (.aload_n 0, 1) := by decide +kernel
theorem dX12_would_131 : decode cX12_would 131 = .ok (.getfield 196, 3) := by decide +kernel
theorem dX12_would_134 : decode cX12_would 134 = .ok (.ireturn, 1) := by decide +kernel
theorem dX12_would_135 : decode cX12_would 135 = .ok (.aload_n 0, 1) := by decide +kernel
theorem dX12_would_136 : decode cX12_would 136 = .ok (.getfield 171, 3) := by decide +kernel
theorem dX12_would_139 : decode cX12_would 139 = .ok (.ireturn, 1) := by decide +kernel
theorem dX12_would_140 : decode cX12_would 140 = .ok (.aload_n 0, 1) := by decide +kernel
theorem dX12_would_141 : decode cX12_would 141 = .ok (.getfield 199, 3) := by decide +kernel
theorem dX12_would_144 : decode cX12_would 144 = .ok (.ireturn, 1) := by decide +kernel
theorem dX12_isWell_0 : decode cX12_isWell 0 = .ok (.aload_n 0, 1) := by decide +kernel
theorem dX12_isWell_1 : decode cX12_isWell 1 = .ok (.invokevirtual 255, 3) := by decide +kernel
theorem dX12_isWell_4 : decode cX12_isWell 4 = .ok (.aload_n 0, 1) := by decide +kernel
theorem dX12_isWell_5 : decode cX12_isWell 5 = .ok (.aload_n 0, 1) := by decide +kernel
theorem dX12_isWell_6 : decode cX12_isWell 6 = .ok (.getfield 25, 3) := by decide +kernel
theorem dX12_isWell_9 : decode cX12_isWell 9 = .ok (.iload_n 1, 1) := by decide +kernel
theorem dX12_isWell_10 : decode cX12_isWell 10 = .ok (.invokevirtual 230, 3) := by decide +kernel
theorem dX12_isWell_13 : decode cX12_isWell 13 = .ok (.ifCond .le 15, 3) := by decide +kernel
theorem dX12_isWell_16 : decode cX12_isWell 16 = .ok (.aload_n 0, 1) := by decide +kernel
theorem dX12_isWell_17 : decode cX12_isWell 17 = .ok (.getfield 199, 3) := by decide +kernel
theorem dX12_isWell_20 : decode cX12_isWell 20 = .ok (.iload_n 2, 1) := by decide +kernel
theorem dX12_isWell_21 : decode cX12_isWell 21 = .ok (.if_icmp .ne 7, 3) := by decide +kernel
theorem dX12_isWell_24 : decode cX12_isWell 24 = .ok (.iconst 1, 1) := by decide +kernel
theorem dX12_isWell_25 : decode cX12_isWell 25 = .ok (.goto 4, 3) := by decide +kernel
theorem dX12_isWell_28 : decode cX12_isWell 28 = .ok (.iconst 0, 1) := by decide +kernel
theorem dX12_isWell_29 : decode cX12_isWell 29 = .ok (.ireturn, 1) := by decide +kernel
theorem dX12_way_0 : decode cX12_way 0 = .ok (.aload_n 0, 1) := by decide +kernel
theorem dX12_way_1 : decode cX12_way 1 = .ok (.iconst 0, 1) := by decide +kernel
theorem dX12_way_2 : decode cX12_way 2 = .ok (.putfield 53, 3) := by decide +kernel
theorem dX12_way_5 : decode cX12_way 5 = .ok (.aload_n 0, 1) := by decide +kernel
theorem dX12_way_6 : decode cX12_way 6 = .ok (.iload_n 1, 1) := by decide +kernel
theorem dX12_way_7 : decode cX12_way 7 = .ok (.invokevirtual 239, 3) := by decide +kernel
theorem dX12_way_10 : decode cX12_way 10 = .ok (.ifCond .eq 8, 3) := by decide +kernel
theorem dX12_way_13 : decode cX12_way 13 = .ok (.iload_n 2, 1) := by decide +kernel
theorem dX12_way_14 : decode cX12_way 14 = .ok (.iconst (-1), 1) := by decide +kernel
theorem dX12_way_15 : decode cX12_way 15 = .ok (.if_icmp .ge 6, 3) := by decide +kernel
theorem dX12_way_18 : decode cX12_way 18 = .ok (.ldc 73, 2) := by decide +kernel
theorem dX12_way_20 : decode cX12_way 20 = .ok (.ireturn, 1) := by decide +kernel
theorem dX12_way_21 : decode cX12_way 21 = .ok (.iconst 1, 1) := by decide +kernel
theorem dX12_way_22 : decode cX12_way 22 = .ok (.istore_n 3, 1) := by decide +kernel
theorem dX12_way_23 : decode cX12_way 23 = .ok (.iconst 0, 1) := by decide +kernel
theorem dX12_way_24 : decode cX12_way 24 = .ok (.istore 4, 2) := by decide +kernel
theorem dX12_way_26 : decode cX12_way 26 = .ok (.iload 4, 2) := by decide +kernel
theorem dX12_way_28 : decode cX12_way 28 = .ok (.iconst 3, 1) := by decide +kernel
theorem dX12_way_29 : decode cX12_way 29 = .ok (.if_icmp .gt 119, 3) := by decide +kernel
theorem dX12_way_32 : decode cX12_way 32 = .ok (.iconst 0, 1) := by decide +kernel
theorem dX12_way_33 : decode cX12_way 33 = .ok (.istore 5, 2) := by decide +kernel
theorem dX12_way_35 : decode cX12_way 35 = .ok (.iload 5, 2) := by decide +kernel
theorem dX12_way_37 : decode cX12_way 37 = .ok (.iload_n 3, 1) := by decide +kernel
theorem dX12_way_38 : decode cX12_way 38 = .ok (.if_icmp .ge 95, 3) := by decide +kernel
theorem dX12_way_41 : decode cX12_way 41 = .ok (.iload 5, 2) := by decide +kernel
theorem dX12_way_43 : decode cX12_way 43 = .ok (.istore 6, 2) := by decide +kernel
theorem dX12_way_45 : decode cX12_way 45 = .ok (.iload 4, 2) := by decide +kernel
theorem dX12_way_47 : decode cX12_way 47 = .ok (.iconst 1, 1) := by decide +kernel
theorem dX12_way_48 : decode cX12_way 48 = .ok (.isub, 1) := by decide +kernel
theorem dX12_way_49 : decode cX12_way 49 = .ok (.istore 7, 2) := by decide +kernel
theorem dX12_way_51 : decode cX12_way 51 = .ok (.iload 7, 2) := by decide +kernel
theorem dX12_way_53 : decode cX12_way 53 = .ok (.ifCond .lt 36, 3) := by decide +kernel
theorem dX12_way_56 : decode cX12_way 56 = .ok (.aload_n 0, 1) := by decide +kernel
theorem dX12_way_57 : decode cX12_way 57 = .ok (.getfield 34, 3) := by decide +kernel
theorem dX12_way_60 : decode cX12_way 60 = .ok (.iload 7, 2) := by decide +kernel
theorem dX12_way_62 : decode cX12_way 62 = .ok (.iload 6, 2) := by decide +kernel
theorem dX12_way_64 : decode cX12_way 64 = .ok (.aload_n 0, 1) := by decide +kernel
theorem dX12_way_65 : decode cX12_way 65 = .ok (.getfield 19, 3) := by decide +kernel
theorem dX12_way_68 : decode cX12_way 68 = .ok (.iconst 0, 1) := by decide +kernel
theorem dX12_way_69 : decode cX12_way 69 = .ok (.iaload, 1) := by decide +kernel
theorem dX12_way_70 : decode cX12_way 70 = .ok (.irem, 1) := by decide +kernel
theorem dX12_way_71 : decode cX12_way 71 = .ok (.iastore, 1) := by decide +kernel
theorem dX12_way_72 : decode cX12_way 72 = .ok (.iload 6, 2) := by decide +kernel
theorem dX12_way_74 : decode cX12_way 74 = .ok (.aload_n 0, 1) := by decide +kernel
theorem dX12_way_75 : decode cX12_way 75 = .ok (.getfield 19, 3) := by decide +kernel
theorem dX12_way_78 : decode cX12_way 78 = .ok (.iconst 0, 1) := by decide +kernel
theorem dX12_way_79 : decode cX12_way 79 = .ok (.iaload, 1) := by decide +kernel
theorem dX12_way_80 : decode cX12_way 80 = .ok (.idiv, 1) := by decide +kernel
theorem dX12_way_81 : decode cX12_way 81 = .ok (.istore 6, 2) := by decide +kernel
theorem dX12_way_83 : decode cX12_way 83 = .ok (.iinc 7 (-1), 3) := by decide +kernel
theorem dX12_way_86 : decode cX12_way 86 = .ok (.goto (-35), 3) := by decide +kernel
theorem dX12_way_89 : decode cX12_way 89 = .ok (.aload_n 0, 1) := by decide +kernel
theorem dX12_way_90 : decode cX12_way 90 = .ok (.iload 4, 2) := by decide +kernel
theorem dX12_way_92 : decode cX12_way 92 = .ok (.iload_n 1, 1) := by decide +kernel
theorem dX12_way_93 : decode cX12_way 93 = .ok (.invokevirtual 258, 3) := by decide +kernel
theorem dX12_way_96 : decode cX12_way 96 = .ok (.ifCond .eq 31, 3) := by decide +kernel
theorem dX12_way_99 : decode cX12_way 99 = .ok (.iload_n 2, 1) := by decide +kernel
theorem dX12_way_100 : decode cX12_way 100 = .ok (.iconst (-1), 1) := by decide +kernel
theorem dX12_way_101 : decode cX12_way 101 = .ok (.if_icmp .ne 8, 3) := by decide +kernel
theorem dX12_way_104 : decode cX12_way 104 = .ok (.iload 4, 2) := by decide +kernel
theorem dX12_way_106 : decode cX12_way 106 = .ok (.goto 20, 3) := by decide +kernel
theorem dX12_way_109 : decode cX12_way 109 = .ok (.iload_n 2, 1) := by decide +kernel
theorem dX12_way_110 : decode cX12_way 110 = .ok (.iload 4, 2) := by decide +kernel
theorem dX12_way_112 : decode cX12_way 112 = .ok (.if_icmp .ge 12, 3) := by decide +kernel
theorem dX12_way_115 : decode cX12_way 115 = .ok (.aload_n 0, 1) := by decide +kernel
theorem dX12_way_116 : decode cX12_way 116 = .ok (.getfield 34, 3) := by decide +kernel
theorem dX12_way_119 : decode cX12_way 119 = .ok (.iload_n 2, 1) := by decide +kernel
theorem dX12_way_120 : decode cX12_way 120 = .ok (.iaload, 1) := by decide +kernel
theorem dX12_way_121 : decode cX12_way 121 = .ok (.goto 5, 3) := by decide +kernel
theorem dX12_way_124 : decode cX12_way 124 = .ok (.ldc 96, 2) := by decide +kernel
theorem dX12_way_126 : decode cX12_way 126 = .ok (.ireturn, 1) := by decide +kernel
theorem dX12_way_127 : decode cX12_way 127 = .ok (.iinc 5 1, 3) := by decide +kernel
theorem dX12_way_130 : decode cX12_way 130 = .ok (.goto (-95), 3) := by decide +kernel
theorem dX12_way_133 : decode cX12_way 133 = .ok (.iload_n 3, 1) := by decide +kernel
theorem dX12_way_134 : decode cX12_way 134 = .ok (.aload_n 0, 1) := by decide +kernel
theorem dX12_way_135 : decode cX12_way 135 = .ok (.getfield 19, 3) := by decide +kernel
theorem dX12_way_138 : decode cX12_way 138 = .ok (.iconst 0, 1) := by decide +kernel
theorem dX12_way_139 : decode cX12_way 139 = .ok (.iaload, 1) := by decide +kernel
theorem dX12_way_140 : decode cX12_way 140 = .ok (.imul, 1) := by decide +kernel
theorem dX12_way_141 : decode cX12_way 141 = .ok (.istore_n 3, 1) := by decide +kernel
theorem dX12_way_142 : decode cX12_way 142 = .ok (.iinc 4 1, 3) := by decide +kernel
theorem dX12_way_145 : decode cX12_way 145 = .ok (.goto (-119), 3) := by decide +kernel
theorem dX12_way_148 : decode cX12_way 148 = .ok (.ldc 96, 2) := by decide +kernel
theorem dX12_way_150 : decode cX12_way 150 = .ok (.ireturn, 1) := by decide +kernel
theorem dX12_keysFor_0 : decode cX12_keysFor 0 = .ok (.ldc 96, 2) := by decide +kernel
theorem dX12_keysFor_2 : decode cX12_keysFor 2 = .ok (.istore_n 3, 1) := by decide +kernel
theorem dX12_keysFor_3 : decode cX12_keysFor 3 = .ok (.iconst 0, 1) := by decide +kernel
theorem dX12_keysFor_4 : decode cX12_keysFor 4 = .ok (.istore 4, 2) := by decide +kernel
theorem dX12_keysFor_6 : decode cX12_keysFor 6 = .ok (.iload 4, 2) := by decide +kernel
theorem dX12_keysFor_8 : decode cX12_keysFor 8 = .ok (.bipush 64, 2) := by decide +kernel
theorem dX12_keysFor_10 : decode cX12_keysFor 10 = .ok (.if_icmp .ge 58, 3) := by decide +kernel
theorem dX12_keysFor_13 : decode cX12_keysFor 13 = .ok (.iload_n 3, 1) := by decide +kernel
theorem dX12_keysFor_14 : decode cX12_keysFor 14 = .ok (.ldc 96, 2) := by decide +kernel
theorem dX12_keysFor_16 : decode cX12_keysFor 16 = .ok (.if_icmp .eq 15, 3) := by decide +kernel
theorem dX12_keysFor_19 : decode cX12_keysFor 19 = .ok (.iload 4, 2) := by decide +kernel
theorem dX12_keysFor_21 : decode cX12_keysFor 21 = .ok (.invokestatic 261, 3) := by decide +kernel
theorem dX12_keysFor_24 : decode cX12_keysFor 24 = .ok (.iload_n 3, 1) := by decide +kernel
theorem dX12_keysFor_25 : decode cX12_keysFor 25 = .ok (.invokestatic 261, 3) := by decide +kernel
theorem dX12_keysFor_28 : decode cX12_keysFor 28 = .ok (.if_icmp .ge 34, 3) := by decide +kernel
theorem dX12_keysFor_31 : decode cX12_keysFor 31 = .ok (.aload_n 0, 1) := by decide +kernel
theorem dX12_keysFor_32 : decode cX12_keysFor 32 = .ok (.invokevirtual 255, 3) := by decide +kernel
theorem dX12_keysFor_35 : decode cX12_keysFor 35 = .ok (.aload_n 0, 1) := by decide +kernel
theorem dX12_keysFor_36 : decode cX12_keysFor 36 = .ok (.getfield 25, 3) := by decide +kernel
theorem dX12_keysFor_39 : decode cX12_keysFor 39 = .ok (.iconst 4, 1) := by decide +kernel
theorem dX12_keysFor_40 : decode cX12_keysFor 40 = .ok (.iload 4, 2) := by decide +kernel
theorem dX12_keysFor_42 : decode cX12_keysFor 42 = .ok (.iastore, 1) := by decide +kernel
theorem dX12_keysFor_43 : decode cX12_keysFor 43 = .ok (.aload_n 0, 1) := by decide +kernel
theorem dX12_keysFor_44 : decode cX12_keysFor 44 = .ok (.aload_n 0, 1) := by decide +kernel
theorem dX12_keysFor_45 : decode cX12_keysFor 45 = .ok (.getfield 25, 3) := by decide +kernel
theorem dX12_keysFor_48 : decode cX12_keysFor 48 = .ok (.iload_n 1, 1) := by decide +kernel
theorem dX12_keysFor_49 : decode cX12_keysFor 49 = .ok (.invokevirtual 230, 3) := by decide +kernel
theorem dX12_keysFor_52 : decode cX12_keysFor 52 = .ok (.ifCond .le 8, 3) := by decide +kernel
theorem dX12_keysFor_55 : decode cX12_keysFor 55 = .ok (.iload 4, 2) := by decide +kernel
theorem dX12_keysFor_57 : decode cX12_keysFor 57 = .ok (.goto 4, 3) := by decide +kernel
theorem dX12_keysFor_60 : decode cX12_keysFor 60 = .ok (.iload_n 3, 1) := by decide +kernel
theorem dX12_keysFor_61 : decode cX12_keysFor 61 = .ok (.istore_n 3, 1) := by decide +kernel
theorem dX12_keysFor_62 : decode cX12_keysFor 62 = .ok (.iinc 4 1, 3) := by decide +kernel
theorem dX12_keysFor_65 : decode cX12_keysFor 65 = .ok (.goto (-59), 3) := by decide +kernel
theorem dX12_keysFor_68 : decode cX12_keysFor 68 = .ok (.iload_n 3, 1) := by decide +kernel
theorem dX12_keysFor_69 : decode cX12_keysFor 69 = .ok (.ldc 96, 2) := by decide +kernel
theorem dX12_keysFor_71 : decode cX12_keysFor 71 = .ok (.if_icmp .eq 8, 3) := by decide +kernel
theorem dX12_keysFor_74 : decode cX12_keysFor 74 = .ok (.iload_n 2, 1) := by decide +kernel
theorem dX12_keysFor_75 : decode cX12_keysFor 75 = .ok (.iconst 1, 1) := by decide +kernel
theorem dX12_keysFor_76 : decode cX12_keysFor 76 = .ok (.if_icmp .ne 7, 3) := by decide +kernel
theorem dX12_keysFor_79 : decode cX12_keysFor 79 = .ok (.iload_n 3, 1) := by decide +kernel
theorem dX12_keysFor_80 : decode cX12_keysFor 80 = .ok (.goto 7, 3) := by decide +kernel
theorem dX12_keysFor_83 : decode cX12_keysFor 83 = .ok (.iload_n 3, 1) := by decide +kernel
theorem dX12_keysFor_84 : decode cX12_keysFor 84 = .ok (.invokestatic 261, 3) := by decide +kernel
theorem dX12_keysFor_87 : decode cX12_keysFor 87 = .ok (.ireturn, 1) := by decide +kernel
theorem dX12_sleepFor_0 : decode cX12_sleepFor 0 = .ok (.iconst 1, 1) := by decide +kernel
theorem dX12_sleepFor_1 : decode cX12_sleepFor 1 = .ok (.istore_n 2, 1) := by decide +kernel
theorem dX12_sleepFor_2 : decode cX12_sleepFor 2 = .ok (.iload_n 2, 1) := by decide +kernel
theorem dX12_sleepFor_3 : decode cX12_sleepFor 3 = .ok (.bipush 60, 2) := by decide +kernel
theorem dX12_sleepFor_5 : decode cX12_sleepFor 5 = .ok (.if_icmp .gt 34, 3) := by decide +kernel
theorem dX12_sleepFor_8 : decode cX12_sleepFor 8 = .ok (.aload_n 0, 1) := by decide +kernel
theorem dX12_sleepFor_9 : decode cX12_sleepFor 9 = .ok (.invokevirtual 255, 3) := by decide +kernel
theorem dX12_sleepFor_12 : decode cX12_sleepFor 12 = .ok (.aload_n 0, 1) := by decide +kernel
theorem dX12_sleepFor_13 : decode cX12_sleepFor 13 = .ok (.getfield 25, 3) := by decide +kernel
theorem dX12_sleepFor_16 : decode cX12_sleepFor 16 = .ok (.iconst 3, 1) := by decide +kernel
theorem dX12_sleepFor_17 : decode cX12_sleepFor 17 = .ok (.iload_n 2, 1) := by decide +kernel
theorem dX12_sleepFor_18 : decode cX12_sleepFor 18 = .ok (.iastore, 1) := by decide +kernel
theorem dX12_sleepFor_19 : decode cX12_sleepFor 19 = .ok (.aload_n 0, 1) := by decide +kernel
theorem dX12_sleepFor_20 : decode cX12_sleepFor 20 = .ok (.aload_n 0, 1) := by decide +kernel
theorem dX12_sleepFor_21 : decode cX12_sleepFor 21 = .ok (.getfield 25, 3) := by decide +kernel
theorem dX12_sleepFor_24 : decode cX12_sleepFor 24 = .ok (.iload_n 1, 1) := by decide +kernel
theorem dX12_sleepFor_25 : decode cX12_sleepFor 25 = .ok (.invokevirtual 230, 3) := by decide +kernel
theorem dX12_sleepFor_28 : decode cX12_sleepFor 28 = .ok (.ifCond .le 5, 3) := by decide +kernel
theorem dX12_sleepFor_31 : decode cX12_sleepFor 31 = .ok (.iload_n 2, 1) := by decide +kernel
theorem dX12_sleepFor_32 : decode cX12_sleepFor 32 = .ok (.ireturn, 1) := by decide +kernel
theorem dX12_sleepFor_33 : decode cX12_sleepFor 33 = .ok (.iinc 2 1, 3) := by decide +kernel
theorem dX12_sleepFor_36 : decode cX12_sleepFor 36 = .ok (.goto (-34), 3) := by decide +kernel
theorem dX12_sleepFor_39 : decode cX12_sleepFor 39 = .ok (.ldc 96, 2) := by decide +kernel
theorem dX12_sleepFor_41 : decode cX12_sleepFor 41 = .ok (.ireturn, 1) := by decide +kernel
theorem dX12_needs_0 : decode cX12_needs 0 = .ok (.aload_n 0, 1) := by decide +kernel
theorem dX12_needs_1 : decode cX12_needs 1 = .ok (.iconst 0, 1) := by decide +kernel
theorem dX12_needs_2 : decode cX12_needs 2 = .ok (.putfield 53, 3) := by decide +kernel
theorem dX12_needs_5 : decode cX12_needs 5 = .ok (.aload_n 0, 1) := by decide +kernel
theorem dX12_needs_6 : decode cX12_needs 6 = .ok (.invokevirtual 216, 3) := by decide +kernel
theorem dX12_needs_9 : decode cX12_needs 9 = .ok (.ifCond .ne 6, 3) := by decide +kernel
theorem dX12_needs_12 : decode cX12_needs 12 = .ok (.ldc 219, 2) := by decide +kernel
theorem dX12_needs_14 : decode cX12_needs 14 = .ok (.ireturn, 1) := by decide +kernel
theorem dX12_needs_15 : decode cX12_needs 15 = .ok (.iload_n 1, 1) := by decide +kernel
theorem dX12_needs_16 : decode cX12_needs 16 = .ok (.iload_n 3, 1) := by decide +kernel
theorem dX12_needs_17 : decode cX12_needs 17 = .ok (.invokestatic 220, 3) := by decide +kernel
theorem dX12_needs_20 : decode cX12_needs 20 = .ok (.ifCond .eq 16, 3) := by decide +kernel
theorem dX12_needs_23 : decode cX12_needs 23 = .ok (.iload 4, 2) := by decide +kernel
theorem dX12_needs_25 : decode cX12_needs 25 = .ok (.i2l, 1) := by decide +kernel
theorem dX12_needs_26 : decode cX12_needs 26 = .ok (.lconst 0, 1) := by decide +kernel
theorem dX12_needs_27 : decode cX12_needs 27 = .ok (.ldc2_w 71, 3) := by decide +kernel
theorem dX12_needs_30 : decode cX12_needs 30 = .ok (.invokestatic 63, 3) := by decide +kernel
theorem dX12_needs_33 : decode cX12_needs 33 = .ok (.ifCond .ne 6, 3) := by decide +kernel
theorem dX12_needs_36 : decode cX12_needs 36 = .ok (.ldc 73, 2) := by decide +kernel
theorem dX12_needs_38 : decode cX12_needs 38 = .ok (.ireturn, 1) := by decide +kernel
theorem dX12_needs_39 : decode cX12_needs 39 = .ok (.aload_n 0, 1) := by decide +kernel
theorem dX12_needs_40 : decode cX12_needs 40 = .ok (.iload_n 1, 1) := by decide +kernel
theorem dX12_needs_41 : decode cX12_needs 41 = .ok (.iload_n 2, 1) := by decide +kernel
theorem dX12_needs_42 : decode cX12_needs 42 = .ok (.iload_n 3, 1) := by decide +kernel
theorem dX12_needs_43 : decode cX12_needs 43 = .ok (.invokevirtual 223, 3) := by decide +kernel
theorem dX12_needs_46 : decode cX12_needs 46 = .ok (.istore 5, 2) := by decide +kernel
theorem dX12_needs_48 : decode cX12_needs 48 = .ok (.iload 5, 2) := by decide +kernel
theorem dX12_needs_50 : decode cX12_needs 50 = .ok (.ifCond .eq 6, 3) := by decide +kernel
theorem dX12_needs_53 : decode cX12_needs 53 = .ok (.iload 5, 2) := by decide +kernel
theorem dX12_needs_55 : decode cX12_needs 55 = .ok (.ireturn, 1) := by decide +kernel
theorem dX12_needs_56 : decode cX12_needs 56 = .ok (.iload 4, 2) := by decide +kernel
theorem dX12_needs_58 : decode cX12_needs 58 = .ok (.iconst 2, 1) := by decide +kernel
theorem dX12_needs_59 : decode cX12_needs 59 = .ok (.if_icmp .ne 11, 3) := by decide +kernel
theorem dX12_needs_62 : decode cX12_needs 62 = .ok (.aload_n 0, 1) := by decide +kernel
theorem dX12_needs_63 : decode cX12_needs 63 = .ok (.iload_n 3, 1) := by decide +kernel
theorem dX12_needs_64 : decode cX12_needs 64 = .ok (.invokevirtual 264, 3) := by decide +kernel
theorem dX12_needs_67 : decode cX12_needs 67 = .ok (.goto 10, 3) := by decide +kernel
theorem dX12_needs_70 : decode cX12_needs 70 = .ok (.aload_n 0, 1) := by decide +kernel
theorem dX12_needs_71 : decode cX12_needs 71 = .ok (.iload_n 3, 1) := by decide +kernel
theorem dX12_needs_72 : decode cX12_needs 72 = .ok (.iload 4, 2) := by decide +kernel
theorem dX12_needs_74 : decode cX12_needs 74 = .ok (.invokevirtual 267, 3) := by decide +kernel
theorem dX12_needs_77 : decode cX12_needs 77 = .ok (.ireturn, 1) := by decide +kernel
theorem dX12_sets_0 : decode cX12_sets 0 = .ok (.aload_n 0, 1) := by decide +kernel
theorem dX12_sets_1 : decode cX12_sets 1 = .ok (.iconst 0, 1) := by decide +kernel
theorem dX12_sets_2 : decode cX12_sets 2 = .ok (.putfield 53, 3) := by decide +kernel
theorem dX12_sets_5 : decode cX12_sets 5 = .ok (.aload_n 0, 1) := by decide +kernel
theorem dX12_sets_6 : decode cX12_sets 6 = .ok (.invokevirtual 216, 3) := by decide +kernel
theorem dX12_sets_9 : decode cX12_sets 9 = .ok (.ifCond .ne 6, 3) := by decide +kernel
theorem dX12_sets_12 : decode cX12_sets 12 = .ok (.ldc 219, 2) := by decide +kernel
theorem dX12_sets_14 : decode cX12_sets 14 = .ok (.ireturn, 1) := by decide +kernel
theorem dX12_sets_15 : decode cX12_sets 15 = .ok (.iload_n 1, 1) := by decide +kernel
theorem dX12_sets_16 : decode cX12_sets 16 = .ok (.i2l, 1) := by decide +kernel
theorem dX12_sets_17 : decode cX12_sets 17 = .ok (.lconst 0, 1) := by decide +kernel
theorem dX12_sets_18 : decode cX12_sets 18 = .ok (.ldc2_w 270, 3) := by decide +kernel
theorem dX12_sets_21 : decode cX12_sets 21 = .ok (.invokestatic 63, 3) := by decide +kernel
theorem dX12_sets_24 : decode cX12_sets 24 = .ok (.ifCond .eq 15, 3) := by decide +kernel
theorem dX12_sets_27 : decode cX12_sets 27 = .ok (.iload_n 2, 1) := by decide +kernel
theorem dX12_sets_28 : decode cX12_sets 28 = .ok (.i2l, 1) := by decide +kernel
theorem dX12_sets_29 : decode cX12_sets 29 = .ok (.lconst 0, 1) := by decide +kernel
theorem dX12_sets_30 : decode cX12_sets 30 = .ok (.ldc2_w 71, 3) := by decide +kernel
theorem dX12_sets_33 : decode cX12_sets 33 = .ok (.invokestatic 63, 3) := by decide +kernel
theorem dX12_sets_36 : decode cX12_sets 36 = .ok (.ifCond .ne 6, 3) := by decide +kernel
theorem dX12_sets_39 : decode cX12_sets 39 = .ok (.ldc 73, 2) := by decide +kernel
theorem dX12_sets_41 : decode cX12_sets 41 = .ok (.ireturn, 1) := by decide +kernel
theorem dX12_sets_42 : decode cX12_sets 42 = .ok (.iconst 0, 1) := by decide +kernel
theorem dX12_sets_43 : decode cX12_sets 43 = .ok (.istore_n 3, 1) := by decide +kernel
theorem dX12_sets_44 : decode cX12_sets 44 = .ok (.iconst 0, 1) := by decide +kernel
theorem dX12_sets_45 : decode cX12_sets 45 = .ok (.istore 4, 2) := by decide +kernel
theorem dX12_sets_47 : decode cX12_sets 47 = .ok (.iconst 0, 1) := by decide +kernel
theorem dX12_sets_48 : decode cX12_sets 48 = .ok (.istore 5, 2) := by decide +kernel
theorem dX12_sets_50 : decode cX12_sets 50 = .ok (.iconst 0, 1) := by decide +kernel
theorem dX12_sets_51 : decode cX12_sets 51 = .ok (.istore 6, 2) := by decide +kernel
theorem dX12_sets_53 : decode cX12_sets 53 = .ok (.iload 6, 2) := by decide +kernel
theorem dX12_sets_55 : decode cX12_sets 55 = .ok (.iconst 1, 1) := by decide +kernel
theorem dX12_sets_56 : decode cX12_sets 56 = .ok (.aload_n 0, 1) := by decide +kernel
theorem dX12_sets_57 : decode cX12_sets 57 = .ok (.getfield 19, 3) := by decide +kernel
theorem dX12_sets_60 : decode cX12_sets 60 = .ok (.iconst 1, 1) := by decide +kernel
theorem dX12_sets_61 : decode cX12_sets 61 = .ok (.iaload, 1) := by decide +kernel
theorem dX12_sets_62 : decode cX12_sets 62 = .ok (.ishl, 1) := by decide +kernel
theorem dX12_sets_63 : decode cX12_sets 63 = .ok (.if_icmp .ge 136, 3) := by decide +kernel
theorem dX12_sets_66 : decode cX12_sets 66 = .ok (.iconst 0, 1) := by decide +kernel
theorem dX12_sets_67 : decode cX12_sets 67 = .ok (.istore 7, 2) := by decide +kernel
theorem dX12_sets_69 : decode cX12_sets 69 = .ok (.iconst 1, 1) := by decide +kernel
theorem dX12_sets_70 : decode cX12_sets 70 = .ok (.istore 8, 2) := by decide +kernel
theorem dX12_sets_72 : decode cX12_sets 72 = .ok (.iconst 0, 1) := by decide +kernel
theorem dX12_sets_73 : decode cX12_sets 73 = .ok (.istore 9, 2) := by decide +kernel
theorem dX12_sets_75 : decode cX12_sets 75 = .ok (.iload 9, 2) := by decide +kernel
theorem dX12_sets_77 : decode cX12_sets 77 = .ok (.aload_n 0, 1) := by decide +kernel
theorem dX12_sets_78 : decode cX12_sets 78 = .ok (.getfield 19, 3) := by decide +kernel
theorem dX12_sets_81 : decode cX12_sets 81 = .ok (.iconst 1, 1) := by decide +kernel
theorem dX12_sets_82 : decode cX12_sets 82 = .ok (.iaload, 1) := by decide +kernel
theorem dX12_sets_83 : decode cX12_sets 83 = .ok (.if_icmp .ge 73, 3) := by decide +kernel
theorem dX12_sets_86 : decode cX12_sets 86 = .ok (.iload 7, 2) := by decide +kernel
theorem dX12_sets_88 : decode cX12_sets 88 = .ok (.iload 6, 2) := by decide +kernel
theorem dX12_sets_90 : decode cX12_sets 90 = .ok (.iload 9, 2) := by decide +kernel
theorem dX12_sets_92 : decode cX12_sets 92 = .ok (.invokestatic 178, 3) := by decide +kernel
theorem dX12_sets_95 : decode cX12_sets 95 = .ok (.ifCond .eq 16, 3) := by decide +kernel
theorem dX12_sets_98 : decode cX12_sets 98 = .ok (.aload_n 0, 1) := by decide +kernel
theorem dX12_sets_99 : decode cX12_sets 99 = .ok (.getfield 19, 3) := by decide +kernel
theorem dX12_sets_102 : decode cX12_sets 102 = .ok (.bipush 6, 2) := by decide +kernel
theorem dX12_sets_104 : decode cX12_sets 104 = .ok (.iload 9, 2) := by decide +kernel
theorem dX12_sets_106 : decode cX12_sets 106 = .ok (.iadd, 1) := by decide +kernel
theorem dX12_sets_107 : decode cX12_sets 107 = .ok (.iaload, 1) := by decide +kernel
theorem dX12_sets_108 : decode cX12_sets 108 = .ok (.goto 4, 3) := by decide +kernel
theorem dX12_sets_111 : decode cX12_sets 111 = .ok (.iconst 0, 1) := by decide +kernel
theorem dX12_sets_112 : decode cX12_sets 112 = .ok (.iadd, 1) := by decide +kernel
theorem dX12_sets_113 : decode cX12_sets 113 = .ok (.istore 7, 2) := by decide +kernel
theorem dX12_sets_115 : decode cX12_sets 115 = .ok (.iload 8, 2) := by decide +kernel
theorem dX12_sets_117 : decode cX12_sets 117 = .ok (.ifCond .eq 30, 3) := by decide +kernel
theorem dX12_sets_120 : decode cX12_sets 120 = .ok (.iload 6, 2) := by decide +kernel
theorem dX12_sets_122 : decode cX12_sets 122 = .ok (.iload 9, 2) := by decide +kernel
theorem dX12_sets_124 : decode cX12_sets 124 = .ok (.invokestatic 178, 3) := by decide +kernel
theorem dX12_sets_127 : decode cX12_sets 127 = .ok (.ifCond .eq 16, 3) := by decide +kernel
theorem dX12_sets_130 : decode cX12_sets 130 = .ok (.aload_n 0, 1) := by decide +kernel
theorem dX12_sets_131 : decode cX12_sets 131 = .ok (.getfield 19, 3) := by decide +kernel
theorem dX12_sets_134 : decode cX12_sets 134 = .ok (.bipush 6, 2) := by decide +kernel
theorem dX12_sets_136 : decode cX12_sets 136 = .ok (.iload 9, 2) := by decide +kernel
theorem dX12_sets_138 : decode cX12_sets 138 = .ok (.iadd, 1) := by decide +kernel
theorem dX12_sets_139 : decode cX12_sets 139 = .ok (.iaload, 1) := by decide +kernel
theorem dX12_sets_140 : decode cX12_sets 140 = .ok (.ifCond .le 7, 3) := by decide +kernel
theorem dX12_sets_143 : decode cX12_sets 143 = .ok (.iconst 1, 1) := by decide +kernel
theorem dX12_sets_144 : decode cX12_sets 144 = .ok (.goto 4, 3) := by decide +kernel
theorem dX12_sets_147 : decode cX12_sets 147 = .ok (.iconst 0, 1) := by decide +kernel
theorem dX12_sets_148 : decode cX12_sets 148 = .ok (.istore 8, 2) := by decide +kernel
theorem dX12_sets_150 : decode cX12_sets 150 = .ok (.iinc 9 1, 3) := by decide +kernel
theorem dX12_sets_153 : decode cX12_sets 153 = .ok (.goto (-78), 3) := by decide +kernel
theorem dX12_sets_156 : decode cX12_sets 156 = .ok (.iload 8, 2) := by decide +kernel
theorem dX12_sets_158 : decode cX12_sets 158 = .ok (.ifCond .eq 35, 3) := by decide +kernel
theorem dX12_sets_161 : decode cX12_sets 161 = .ok (.iload 7, 2) := by decide +kernel
theorem dX12_sets_163 : decode cX12_sets 163 = .ok (.iload_n 1, 1) := by decide +kernel
theorem dX12_sets_164 : decode cX12_sets 164 = .ok (.if_icmp .ne 29, 3) := by decide +kernel
theorem dX12_sets_167 : decode cX12_sets 167 = .ok (.iload_n 3, 1) := by decide +kernel
theorem dX12_sets_168 : decode cX12_sets 168 = .ok (.ifCond .ne 8, 3) := by decide +kernel
theorem dX12_sets_171 : decode cX12_sets 171 = .ok (.iload 6, 2) := by decide +kernel
theorem dX12_sets_173 : decode cX12_sets 173 = .ok (.goto 8, 3) := by decide +kernel
theorem dX12_sets_176 : decode cX12_sets 176 = .ok (.iload 4, 2) := by decide +kernel
theorem dX12_sets_178 : decode cX12_sets 178 = .ok (.iload 6, 2) := by decide +kernel
theorem dX12_sets_180 : decode cX12_sets 180 = .ok (.iand, 1) := by decide +kernel
theorem dX12_sets_181 : decode cX12_sets 181 = .ok (.istore 4, 2) := by decide +kernel
theorem dX12_sets_183 : decode cX12_sets 183 = .ok (.iload 5, 2) := by decide +kernel
theorem dX12_sets_185 : decode cX12_sets 185 = .ok (.iload 6, 2) := by decide +kernel
theorem dX12_sets_187 : decode cX12_sets 187 = .ok (.ior, 1) := by decide +kernel
theorem dX12_sets_188 : decode cX12_sets 188 = .ok (.istore 5, 2) := by decide +kernel
theorem dX12_sets_190 : decode cX12_sets 190 = .ok (.iinc 3 1, 3) := by decide +kernel
theorem dX12_sets_193 : decode cX12_sets 193 = .ok (.iinc 6 1, 3) := by decide +kernel
theorem dX12_sets_196 : decode cX12_sets 196 = .ok (.goto (-143), 3) := by decide +kernel
theorem dX12_sets_199 : decode cX12_sets 199 = .ok (.iload_n 2, 1) := by decide +kernel
theorem dX12_sets_200 : decode cX12_sets 200 = .ok (.ifCond .ne 7, 3) := by decide +kernel
theorem dX12_sets_203 : decode cX12_sets 203 = .ok (.iload_n 3, 1) := by decide +kernel
theorem dX12_sets_204 : decode cX12_sets 204 = .ok (.goto 15, 3) := by decide +kernel
theorem dX12_sets_207 : decode cX12_sets 207 = .ok (.iload_n 2, 1) := by decide +kernel
theorem dX12_sets_208 : decode cX12_sets 208 = .ok (.iconst 1, 1) := by decide +kernel
theorem dX12_sets_209 : decode cX12_sets 209 = .ok (.if_icmp .ne 8, 3) := by decide +kernel
theorem dX12_sets_212 : decode cX12_sets 212 = .ok (.iload 4, 2) := by decide +kernel
theorem dX12_sets_214 : decode cX12_sets 214 = .ok (.goto 5, 3) := by decide +kernel
theorem dX12_sets_217 : decode cX12_sets 217 = .ok (.iload 5, 2) := by decide +kernel
theorem dX12_sets_219 : decode cX12_sets 219 = .ok (.ireturn, 1) := by decide +kernel
theorem dX12_share_0 : decode cX12_share 0 = .ok (.aload_n 0, 1) := by decide +kernel
theorem dX12_share_1 : decode cX12_share 1 = .ok (.iconst 0, 1) := by decide +kernel
theorem dX12_share_2 : decode cX12_share 2 = .ok (.putfield 53, 3) := by decide +kernel
theorem dX12_share_5 : decode cX12_share 5 = .ok (.aload_n 0, 1) := by decide +kernel
theorem dX12_share_6 : decode cX12_share 6 = .ok (.iload_n 1, 1) := by decide +kernel
theorem dX12_share_7 : decode cX12_share 7 = .ok (.invokevirtual 239, 3) := by decide +kernel
theorem dX12_share_10 : decode cX12_share 10 = .ok (.ifCond .eq 15, 3) := by decide +kernel
theorem dX12_share_13 : decode cX12_share 13 = .ok (.iload_n 2, 1) := by decide +kernel
theorem dX12_share_14 : decode cX12_share 14 = .ok (.i2l, 1) := by decide +kernel
theorem dX12_share_15 : decode cX12_share 15 = .ok (.lconst 0, 1) := by decide +kernel
theorem dX12_share_16 : decode cX12_share 16 = .ok (.ldc2_w 272, 3) := by decide +kernel
theorem dX12_share_19 : decode cX12_share 19 = .ok (.invokestatic 63, 3) := by decide +kernel
theorem dX12_share_22 : decode cX12_share 22 = .ok (.ifCond .ne 6, 3) := by decide +kernel
theorem dX12_share_25 : decode cX12_share 25 = .ok (.ldc 73, 2) := by decide +kernel
theorem dX12_share_27 : decode cX12_share 27 = .ok (.ireturn, 1) := by decide +kernel
theorem dX12_share_28 : decode cX12_share 28 = .ok (.aload_n 0, 1) := by decide +kernel
theorem dX12_share_29 : decode cX12_share 29 = .ok (.getfield 19, 3) := by decide +kernel
theorem dX12_share_32 : decode cX12_share 32 = .ok (.invokestatic 244, 3) := by decide +kernel
theorem dX12_share_35 : decode cX12_share 35 = .ok (.istore_n 3, 1) := by decide +kernel
theorem dX12_share_36 : decode cX12_share 36 = .ok (.aload_n 0, 1) := by decide +kernel
theorem dX12_share_37 : decode cX12_share 37 = .ok (.getfield 19, 3) := by decide +kernel
theorem dX12_share_40 : decode cX12_share 40 = .ok (.bipush 6, 2) := by decide +kernel
theorem dX12_share_42 : decode cX12_share 42 = .ok (.iload_n 1, 1) := by decide +kernel
theorem dX12_share_43 : decode cX12_share 43 = .ok (.iadd, 1) := by decide +kernel
theorem dX12_share_44 : decode cX12_share 44 = .ok (.iaload, 1) := by decide +kernel
theorem dX12_share_45 : decode cX12_share 45 = .ok (.istore 4, 2) := by decide +kernel
theorem dX12_share_47 : decode cX12_share 47 = .ok (.iload 4, 2) := by decide +kernel
theorem dX12_share_49 : decode cX12_share 49 = .ok (.ifCond .ne 5, 3) := by decide +kernel
theorem dX12_share_52 : decode cX12_share 52 = .ok (.iconst 0, 1) := by decide +kernel
theorem dX12_share_53 : decode cX12_share 53 = .ok (.ireturn, 1) := by decide +kernel
theorem dX12_share_54 : decode cX12_share 54 = .ok (.iload_n 2, 1) := by decide +kernel
theorem dX12_share_55 : decode cX12_share 55 = .ok (.istore 5, 2) := by decide +kernel
theorem dX12_share_57 : decode cX12_share 57 = .ok (.iconst 0, 1) := by decide +kernel
theorem dX12_share_58 : decode cX12_share 58 = .ok (.istore 6, 2) := by decide +kernel
theorem dX12_share_60 : decode cX12_share 60 = .ok (.iconst 0, 1) := by decide +kernel
theorem dX12_share_61 : decode cX12_share 61 = .ok (.istore 7, 2) := by decide +kernel
theorem dX12_share_63 : decode cX12_share 63 = .ok (.iload 7, 2) := by decide +kernel
theorem dX12_share_65 : decode cX12_share 65 = .ok (.aload_n 0, 1) := by decide +kernel
theorem dX12_share_66 : decode cX12_share 66 = .ok (.getfield 19, 3) := by decide +kernel
theorem dX12_share_69 : decode cX12_share 69 = .ok (.iconst 1, 1) := by decide +kernel
theorem dX12_share_70 : decode cX12_share 70 = .ok (.iaload, 1) := by decide +kernel
theorem dX12_share_71 : decode cX12_share 71 = .ok (.if_icmp .ge 57, 3) := by decide +kernel
theorem dX12_share_74 : decode cX12_share 74 = .ok (.iload 5, 2) := by decide +kernel
theorem dX12_share_76 : decode cX12_share 76 = .ok (.iload_n 2, 1) := by decide +kernel
theorem dX12_share_77 : decode cX12_share 77 = .ok (.aload_n 0, 1) := by decide +kernel
theorem dX12_share_78 : decode cX12_share 78 = .ok (.getfield 19, 3) := by decide +kernel
theorem dX12_share_81 : decode cX12_share 81 = .ok (.bipush 6, 2) := by decide +kernel
theorem dX12_share_83 : decode cX12_share 83 = .ok (.iload 7, 2) := by decide +kernel
theorem dX12_share_85 : decode cX12_share 85 = .ok (.iadd, 1) := by decide +kernel
theorem dX12_share_86 : decode cX12_share 86 = .ok (.iaload, 1) := by decide +kernel
theorem dX12_share_87 : decode cX12_share 87 = .ok (.imul, 1) := by decide +kernel
theorem dX12_share_88 : decode cX12_share 88 = .ok (.iload_n 3, 1) := by decide +kernel
theorem dX12_share_89 : decode cX12_share 89 = .ok (.idiv, 1) := by decide +kernel
theorem dX12_share_90 : decode cX12_share 90 = .ok (.isub, 1) := by decide +kernel
theorem dX12_share_91 : decode cX12_share 91 = .ok (.istore 5, 2) := by decide +kernel
theorem dX12_share_93 : decode cX12_share 93 = .ok (.iload 6, 2) := by decide +kernel
theorem dX12_share_95 : decode cX12_share 95 = .ok (.iload 7, 2) := by decide +kernel
theorem dX12_share_97 : decode cX12_share 97 = .ok (.iload_n 1, 1) := by decide +kernel
theorem dX12_share_98 : decode cX12_share 98 = .ok (.if_icmp .ge 20, 3) := by decide +kernel
theorem dX12_share_101 : decode cX12_share 101 = .ok (.aload_n 0, 1) := by decide +kernel
theorem dX12_share_102 : decode cX12_share 102 = .ok (.getfield 19, 3) := by decide +kernel
theorem dX12_share_105 : decode cX12_share 105 = .ok (.bipush 6, 2) := by decide +kernel
theorem dX12_share_107 : decode cX12_share 107 = .ok (.iload 7, 2) := by decide +kernel
theorem dX12_share_109 : decode cX12_share 109 = .ok (.iadd, 1) := by decide +kernel
theorem dX12_share_110 : decode cX12_share 110 = .ok (.iaload, 1) := by decide +kernel
theorem dX12_share_111 : decode cX12_share 111 = .ok (.ifCond .le 7, 3) := by decide +kernel
theorem dX12_share_114 : decode cX12_share 114 = .ok (.iconst 1, 1) := by decide +kernel
theorem dX12_share_115 : decode cX12_share 115 = .ok (.goto 4, 3) := by decide +kernel
theorem dX12_share_118 : decode cX12_share 118 = .ok (.iconst 0, 1) := by decide +kernel
theorem dX12_share_119 : decode cX12_share 119 = .ok (.iadd, 1) := by decide +kernel
theorem dX12_share_120 : decode cX12_share 120 = .ok (.istore 6, 2) := by decide +kernel
theorem dX12_share_122 : decode cX12_share 122 = .ok (.iinc 7 1, 3) := by decide +kernel
theorem dX12_share_125 : decode cX12_share 125 = .ok (.goto (-62), 3) := by decide +kernel
theorem dX12_share_128 : decode cX12_share 128 = .ok (.iload_n 2, 1) := by decide +kernel
theorem dX12_share_129 : decode cX12_share 129 = .ok (.iload 4, 2) := by decide +kernel
theorem dX12_share_131 : decode cX12_share 131 = .ok (.imul, 1) := by decide +kernel
theorem dX12_share_132 : decode cX12_share 132 = .ok (.iload_n 3, 1) := by decide +kernel
theorem dX12_share_133 : decode cX12_share 133 = .ok (.idiv, 1) := by decide +kernel
theorem dX12_share_134 : decode cX12_share 134 = .ok (.iload 6, 2) := by decide +kernel
theorem dX12_share_136 : decode cX12_share 136 = .ok (.iload 5, 2) := by decide +kernel
theorem dX12_share_138 : decode cX12_share 138 = .ok (.if_icmp .ge 7, 3) := by decide +kernel
theorem dX12_share_141 : decode cX12_share 141 = .ok (.iconst 1, 1) := by decide +kernel
theorem dX12_share_142 : decode cX12_share 142 = .ok (.goto 4, 3) := by decide +kernel
theorem dX12_share_145 : decode cX12_share 145 = .ok (.iconst 0, 1) := by decide +kernel
theorem dX12_share_146 : decode cX12_share 146 = .ok (.iadd, 1) := by decide +kernel
theorem dX12_share_147 : decode cX12_share 147 = .ok (.ireturn, 1) := by decide +kernel
theorem dX12_afterTurns_0 : decode cX12_afterTurns 0 = .ok (.iconst 0, 1) := by decide +kernel
theorem dX12_afterTurns_1 : decode cX12_afterTurns 1 = .ok (.istore 4, 2) := by decide +kernel
theorem dX12_afterTurns_3 : decode cX12_afterTurns 3 = .ok (.aload_n 0, 1) := by decide +kernel
theorem dX12_afterTurns_4 : decode cX12_afterTurns 4 = .ok (.invokevirtual 255, 3) := by decide +kernel
theorem dX12_afterTurns_7 : decode cX12_afterTurns 7 = .ok (.iconst 0, 1) := by decide +kernel
theorem dX12_afterTurns_8 : decode cX12_afterTurns 8 = .ok (.istore 5, 2) := by decide +kernel
theorem dX12_afterTurns_10 : decode cX12_afterTurns 10 = .ok (.iload 5, 2) := by decide +kernel
theorem dX12_afterTurns_12 : decode cX12_afterTurns 12 = .ok (.iconst 3, 1) := by decide +kernel
theorem dX12_afterTurns_13 : decode cX12_afterTurns 13 = .ok (.if_icmp .ge 84, 3) := by decide +kernel
theorem dX12_afterTurns_16 : decode cX12_afterTurns 16 = .ok (.iload 5, 2) := by decide +kernel
theorem dX12_afterTurns_18 : decode cX12_afterTurns 18 = .ok (.ifCond .ne 7, 3) := by decide +kernel
theorem dX12_afterTurns_21 : decode cX12_afterTurns 21 = .ok (.iload_n 1, 1) := by decide +kernel
theorem dX12_afterTurns_22 : decode cX12_afterTurns 22 = .ok (.goto 14, 3) := by decide +kernel
theorem dX12_afterTurns_25 : decode cX12_afterTurns 25 = .ok (.iload 5, 2) := by decide +kernel
theorem dX12_afterTurns_27 : decode cX12_afterTurns 27 = .ok (.iconst 1, 1) := by decide +kernel
theorem dX12_afterTurns_28 : decode cX12_afterTurns 28 = .ok (.if_icmp .ne 7, 3) := by decide +kernel
theorem dX12_afterTurns_31 : decode cX12_afterTurns 31 = .ok (.iload_n 2, 1) := by decide +kernel
theorem dX12_afterTurns_32 : decode cX12_afterTurns 32 = .ok (.goto 4, 3) := by decide +kernel
theorem dX12_afterTurns_35 : decode cX12_afterTurns 35 = .ok (.iload_n 3, 1) := by decide +kernel
theorem dX12_afterTurns_36 : decode cX12_afterTurns 36 = .ok (.istore 6, 2) := by decide +kernel
theorem dX12_afterTurns_38 : decode cX12_afterTurns 38 = .ok (.aload_n 0, 1) := by decide +kernel
theorem dX12_afterTurns_39 : decode cX12_afterTurns 39 = .ok (.getfield 34, 3) := by decide +kernel
theorem dX12_afterTurns_42 : decode cX12_afterTurns 42 = .ok (.iconst 0, 1) := by decide +kernel
theorem dX12_afterTurns_43 : decode cX12_afterTurns 43 = .ok (.iload 6, 2) := by decide +kernel
theorem dX12_afterTurns_45 : decode cX12_afterTurns 45 = .ok (.iastore, 1) := by decide +kernel
theorem dX12_afterTurns_46 : decode cX12_afterTurns 46 = .ok (.iload 6, 2) := by decide +kernel
theorem dX12_afterTurns_48 : decode cX12_afterTurns 48 = .ok (.aload_n 0, 1) := by decide +kernel
theorem dX12_afterTurns_49 : decode cX12_afterTurns 49 = .ok (.getfield 19, 3) := by decide +kernel
theorem dX12_afterTurns_52 : decode cX12_afterTurns 52 = .ok (.iconst 0, 1) := by decide +kernel
theorem dX12_afterTurns_53 : decode cX12_afterTurns 53 = .ok (.iaload, 1) := by decide +kernel
theorem dX12_afterTurns_54 : decode cX12_afterTurns 54 = .ok (.if_icmp .ge 15, 3) := by decide +kernel
theorem dX12_afterTurns_57 : decode cX12_afterTurns 57 = .ok (.aload_n 0, 1) := by decide +kernel
theorem dX12_afterTurns_58 : decode cX12_afterTurns 58 = .ok (.aload_n 0, 1) := by decide +kernel
theorem dX12_afterTurns_59 : decode cX12_afterTurns 59 = .ok (.getfield 25, 3) := by decide +kernel
theorem dX12_afterTurns_62 : decode cX12_afterTurns 62 = .ok (.iconst 1, 1) := by decide +kernel
theorem dX12_afterTurns_63 : decode cX12_afterTurns 63 = .ok (.invokevirtual 230, 3) := by decide +kernel
theorem dX12_afterTurns_66 : decode cX12_afterTurns 66 = .ok (.goto 4, 3) := by decide +kernel
theorem dX12_afterTurns_69 : decode cX12_afterTurns 69 = .ok (.iconst 0, 1) := by decide +kernel
theorem dX12_afterTurns_70 : decode cX12_afterTurns 70 = .ok (.istore 7, 2) := by decide +kernel
theorem dX12_afterTurns_72 : decode cX12_afterTurns 72 = .ok (.iload 4, 2) := by decide +kernel
theorem dX12_afterTurns_74 : decode cX12_afterTurns 74 = .ok (.iload 5, 2) := by decide +kernel
theorem dX12_afterTurns_76 : decode cX12_afterTurns 76 = .ok (.iconst 1, 1) := by decide +kernel
theorem dX12_afterTurns_77 : decode cX12_afterTurns 77 = .ok (.if_icmp .ne 9, 3) := by decide +kernel
theorem dX12_afterTurns_80 : decode cX12_afterTurns 80 = .ok (.iload 7, 2) := by decide +kernel
theorem dX12_afterTurns_82 : decode cX12_afterTurns 82 = .ok (.ineg, 1) := by decide +kernel
theorem dX12_afterTurns_83 : decode cX12_afterTurns 83 = .ok (.goto 5, 3) := by decide +kernel
theorem dX12_afterTurns_86 : decode cX12_afterTurns 86 = .ok (.iload 7, 2) := by decide +kernel
theorem dX12_afterTurns_88 : decode cX12_afterTurns 88 = .ok (.iadd, 1) := by decide +kernel
theorem dX12_afterTurns_89 : decode cX12_afterTurns 89 = .ok (.istore 4, 2) := by decide +kernel
theorem dX12_afterTurns_91 : decode cX12_afterTurns 91 = .ok (.iinc 5 1, 3) := by decide +kernel
theorem dX12_afterTurns_94 : decode cX12_afterTurns 94 = .ok (.goto (-84), 3) := by decide +kernel
theorem dX12_afterTurns_97 : decode cX12_afterTurns 97 = .ok (.iload 4, 2) := by decide +kernel
theorem dX12_afterTurns_99 : decode cX12_afterTurns 99 = .ok (.ireturn, 1) := by decide +kernel
theorem dX12_byTurns_0 : decode cX12_byTurns 0 = .ok (.aload_n 0, 1) := by decide +kernel
theorem dX12_byTurns_1 : decode cX12_byTurns 1 = .ok (.iconst 0, 1) := by decide +kernel
theorem dX12_byTurns_2 : decode cX12_byTurns 2 = .ok (.putfield 53, 3) := by decide +kernel
theorem dX12_byTurns_5 : decode cX12_byTurns 5 = .ok (.aload_n 0, 1) := by decide +kernel
theorem dX12_byTurns_6 : decode cX12_byTurns 6 = .ok (.invokevirtual 216, 3) := by decide +kernel
theorem dX12_byTurns_9 : decode cX12_byTurns 9 = .ok (.ifCond .ne 6, 3) := by decide +kernel
theorem dX12_byTurns_12 : decode cX12_byTurns 12 = .ok (.ldc 219, 2) := by decide +kernel
theorem dX12_byTurns_14 : decode cX12_byTurns 14 = .ok (.ireturn, 1) := by decide +kernel
theorem dX12_byTurns_15 : decode cX12_byTurns 15 = .ok (.iload_n 1, 1) := by decide +kernel
theorem dX12_byTurns_16 : decode cX12_byTurns 16 = .ok (.i2l, 1) := by decide +kernel
theorem dX12_byTurns_17 : decode cX12_byTurns 17 = .ok (.lconst 0, 1) := by decide +kernel
theorem dX12_byTurns_18 : decode cX12_byTurns 18 = .ok (.ldc2_w 274, 3) := by decide +kernel
theorem dX12_byTurns_21 : decode cX12_byTurns 21 = .ok (.invokestatic 63, 3) := by decide +kernel
theorem dX12_byTurns_24 : decode cX12_byTurns 24 = .ok (.ifCond .ne 6, 3) := by decide +kernel
theorem dX12_byTurns_27 : decode cX12_byTurns 27 = .ok (.ldc 73, 2) := by decide +kernel
theorem dX12_byTurns_29 : decode cX12_byTurns 29 = .ok (.ireturn, 1) := by decide +kernel
theorem dX12_byTurns_30 : decode cX12_byTurns 30 = .ok (.aload_n 0, 1) := by decide +kernel
theorem dX12_byTurns_31 : decode cX12_byTurns 31 = .ok (.getfield 19, 3) := by decide +kernel
theorem dX12_byTurns_34 : decode cX12_byTurns 34 = .ok (.iconst 0, 1) := by decide +kernel
theorem dX12_byTurns_35 : decode cX12_byTurns 35 = .ok (.iaload, 1) := by decide +kernel
theorem dX12_byTurns_36 : decode cX12_byTurns 36 = .ok (.istore_n 2, 1) := by decide +kernel
theorem dX12_byTurns_37 : decode cX12_byTurns 37 = .ok (.ldc 96, 2) := by decide +kernel
theorem dX12_byTurns_39 : decode cX12_byTurns 39 = .ok (.istore_n 3, 1) := by decide +kernel
theorem dX12_byTurns_40 : decode cX12_byTurns 40 = .ok (.iload_n 1, 1) := by decide +kernel
theorem dX12_byTurns_41 : decode cX12_byTurns 41 = .ok (.ifCond .le 7, 3) := by decide +kernel
theorem dX12_byTurns_44 : decode cX12_byTurns 44 = .ok (.iconst 0, 1) := by decide +kernel
theorem dX12_byTurns_45 : decode cX12_byTurns 45 = .ok (.goto 4, 3) := by decide +kernel
theorem dX12_byTurns_48 : decode cX12_byTurns 48 = .ok (.iload_n 2, 1) := by decide +kernel
theorem dX12_byTurns_49 : decode cX12_byTurns 49 = .ok (.istore 4, 2) := by decide +kernel
theorem dX12_byTurns_51 : decode cX12_byTurns 51 = .ok (.iload 4, 2) := by decide +kernel
theorem dX12_byTurns_53 : decode cX12_byTurns 53 = .ok (.iload_n 2, 1) := by decide +kernel
theorem dX12_byTurns_54 : decode cX12_byTurns 54 = .ok (.if_icmp .gt 129, 3) := by decide +kernel
theorem dX12_byTurns_57 : decode cX12_byTurns 57 = .ok (.ldc 96, 2) := by decide +kernel
theorem dX12_byTurns_59 : decode cX12_byTurns 59 = .ok (.istore 5, 2) := by decide +kernel
theorem dX12_byTurns_61 : decode cX12_byTurns 61 = .ok (.iload_n 1, 1) := by decide +kernel
theorem dX12_byTurns_62 : decode cX12_byTurns 62 = .ok (.iconst 1, 1) := by decide +kernel
theorem dX12_byTurns_63 : decode cX12_byTurns 63 = .ok (.if_icmp .le 7, 3) := by decide +kernel
theorem dX12_byTurns_66 : decode cX12_byTurns 66 = .ok (.iconst 0, 1) := by decide +kernel
theorem dX12_byTurns_67 : decode cX12_byTurns 67 = .ok (.goto 4, 3) := by decide +kernel
theorem dX12_byTurns_70 : decode cX12_byTurns 70 = .ok (.iload_n 2, 1) := by decide +kernel
theorem dX12_byTurns_71 : decode cX12_byTurns 71 = .ok (.istore 6, 2) := by decide +kernel
theorem dX12_byTurns_73 : decode cX12_byTurns 73 = .ok (.iload 6, 2) := by decide +kernel
theorem dX12_byTurns_75 : decode cX12_byTurns 75 = .ok (.iload_n 2, 1) := by decide +kernel
theorem dX12_byTurns_76 : decode cX12_byTurns 76 = .ok (.if_icmp .gt 88, 3) := by decide +kernel
theorem dX12_byTurns_79 : decode cX12_byTurns 79 = .ok (.ldc 96, 2) := by decide +kernel
theorem dX12_byTurns_81 : decode cX12_byTurns 81 = .ok (.istore 7, 2) := by decide +kernel
theorem dX12_byTurns_83 : decode cX12_byTurns 83 = .ok (.iload_n 1, 1) := by decide +kernel
theorem dX12_byTurns_84 : decode cX12_byTurns 84 = .ok (.iconst 2, 1) := by decide +kernel
theorem dX12_byTurns_85 : decode cX12_byTurns 85 = .ok (.if_icmp .le 7, 3) := by decide +kernel
theorem dX12_byTurns_88 : decode cX12_byTurns 88 = .ok (.iconst 0, 1) := by decide +kernel
theorem dX12_byTurns_89 : decode cX12_byTurns 89 = .ok (.goto 4, 3) := by decide +kernel
theorem dX12_byTurns_92 : decode cX12_byTurns 92 = .ok (.iload_n 2, 1) := by decide +kernel
theorem dX12_byTurns_93 : decode cX12_byTurns 93 = .ok (.istore 8, 2) := by decide +kernel
theorem dX12_byTurns_95 : decode cX12_byTurns 95 = .ok (.iload 8, 2) := by decide +kernel
theorem dX12_byTurns_97 : decode cX12_byTurns 97 = .ok (.iload_n 2, 1) := by decide +kernel
theorem dX12_byTurns_98 : decode cX12_byTurns 98 = .ok (.if_icmp .gt 37, 3) := by decide +kernel
theorem dX12_byTurns_101 : decode cX12_byTurns 101 = .ok (.aload_n 0, 1) := by decide +kernel
theorem dX12_byTurns_102 : decode cX12_byTurns 102 = .ok (.iload 4, 2) := by decide +kernel
theorem dX12_byTurns_104 : decode cX12_byTurns 104 = .ok (.iload 6, 2) := by decide +kernel
theorem dX12_byTurns_106 : decode cX12_byTurns 106 = .ok (.iload 8, 2) := by decide +kernel
theorem dX12_byTurns_108 : decode cX12_byTurns 108 = .ok (.invokevirtual 276, 3) := by decide +kernel
theorem dX12_byTurns_111 : decode cX12_byTurns 111 = .ok (.istore 9, 2) := by decide +kernel
theorem dX12_byTurns_113 : decode cX12_byTurns 113 = .ok (.iload 9, 2) := by decide +kernel
theorem dX12_byTurns_115 : decode cX12_byTurns 115 = .ok (.iload 7, 2) := by decide +kernel
theorem dX12_byTurns_117 : decode cX12_byTurns 117 = .ok (.if_icmp .le 8, 3) := by decide +kernel
theorem dX12_byTurns_120 : decode cX12_byTurns 120 = .ok (.iload 9, 2) := by decide +kernel
theorem dX12_byTurns_122 : decode cX12_byTurns 122 = .ok (.goto 5, 3) := by decide +kernel
theorem dX12_byTurns_125 : decode cX12_byTurns 125 = .ok (.iload 7, 2) := by decide +kernel
theorem dX12_byTurns_127 : decode cX12_byTurns 127 = .ok (.istore 7, 2) := by decide +kernel
theorem dX12_byTurns_129 : decode cX12_byTurns 129 = .ok (.iinc 8 1, 3) := by decide +kernel
theorem dX12_byTurns_132 : decode cX12_byTurns 132 = .ok (.goto (-37), 3) := by decide +kernel
theorem dX12_byTurns_135 : decode cX12_byTurns 135 = .ok (.iload 5, 2) := by decide +kernel
theorem dX12_byTurns_137 : decode cX12_byTurns 137 = .ok (.ldc 96, 2) := by decide +kernel
theorem dX12_byTurns_139 : decode cX12_byTurns 139 = .ok (.if_icmp .eq 10, 3) := by decide +kernel
theorem dX12_byTurns_142 : decode cX12_byTurns 142 = .ok (.iload 7, 2) := by decide +kernel
theorem dX12_byTurns_144 : decode cX12_byTurns 144 = .ok (.iload 5, 2) := by decide +kernel
theorem dX12_byTurns_146 : decode cX12_byTurns 146 = .ok (.if_icmp .ge 8, 3) := by decide +kernel
theorem dX12_byTurns_149 : decode cX12_byTurns 149 = .ok (.iload 7, 2) := by decide +kernel
theorem dX12_byTurns_151 : decode cX12_byTurns 151 = .ok (.goto 5, 3) := by decide +kernel
theorem dX12_byTurns_154 : decode cX12_byTurns 154 = .ok (.iload 5, 2) := by decide +kernel
theorem dX12_byTurns_156 : decode cX12_byTurns 156 = .ok (.istore 5, 2) := by decide +kernel
theorem dX12_byTurns_158 : decode cX12_byTurns 158 = .ok (.iinc 6 1, 3) := by decide +kernel
theorem dX12_byTurns_161 : decode cX12_byTurns 161 = .ok (.goto (-88), 3) := by decide +kernel
theorem dX12_byTurns_164 : decode cX12_byTurns 164 = .ok (.iload 5, 2) := by decide +kernel
theorem dX12_byTurns_166 : decode cX12_byTurns 166 = .ok (.iload_n 3, 1) := by decide +kernel
theorem dX12_byTurns_167 : decode cX12_byTurns 167 = .ok (.if_icmp .le 8, 3) := by decide +kernel
theorem dX12_byTurns_170 : decode cX12_byTurns 170 = .ok (.iload 5, 2) := by decide +kernel
theorem dX12_byTurns_172 : decode cX12_byTurns 172 = .ok (.goto 4, 3) := by decide +kernel
theorem dX12_byTurns_175 : decode cX12_byTurns 175 = .ok (.iload_n 3, 1) := by decide +kernel
theorem dX12_byTurns_176 : decode cX12_byTurns 176 = .ok (.istore_n 3, 1) := by decide +kernel
theorem dX12_byTurns_177 : decode cX12_byTurns 177 = .ok (.iinc 4 1, 3) := by decide +kernel
theorem dX12_byTurns_180 : decode cX12_byTurns 180 = .ok (.goto (-129), 3) := by decide +kernel
theorem dX12_byTurns_183 : decode cX12_byTurns 183 = .ok (.iload_n 3, 1) := by decide +kernel
theorem dX12_byTurns_184 : decode cX12_byTurns 184 = .ok (.ireturn, 1) := by decide +kernel
theorem dX12_doesComeTo_0 : decode cX12_doesComeTo 0 = .ok (.aload_n 0, 1) := by decide +kernel
theorem dX12_doesComeTo_1 : decode cX12_doesComeTo 1 = .ok (.aload_n 0, 1) := by decide +kernel
theorem dX12_doesComeTo_2 : decode cX12_doesComeTo 2 = .ok (.getfield 25, 3) := by decide +kernel
theorem dX12_doesComeTo_5 : decode cX12_doesComeTo 5 = .ok (.iload_n 1, 1) := by decide +kernel
theorem dX12_doesComeTo_6 : decode cX12_doesComeTo 6 = .ok (.invokevirtual 230, 3) := by decide +kernel
theorem dX12_doesComeTo_9 : decode cX12_doesComeTo 9 = .ok (.istore_n 3, 1) := by decide +kernel
theorem dX12_doesComeTo_10 : decode cX12_doesComeTo 10 = .ok (.aload_n 0, 1) := by decide +kernel
theorem dX12_doesComeTo_11 : decode cX12_doesComeTo 11 = .ok (.getfield 208, 3) := by decide +kernel
theorem dX12_doesComeTo_14 : decode cX12_doesComeTo 14 = .ok (.ifCond .ne 7, 3) := by decide +kernel
theorem dX12_doesComeTo_17 : decode cX12_doesComeTo 17 = .ok (.iload_n 3, 1) := by decide +kernel
theorem dX12_doesComeTo_18 : decode cX12_doesComeTo 18 = .ok (.goto 11, 3) := by decide +kernel
theorem dX12_doesComeTo_21 : decode cX12_doesComeTo 21 = .ok (.sipush 1000, 3) := by decide +kernel
theorem dX12_doesComeTo_24 : decode cX12_doesComeTo 24 = .ok (.aload_n 0, 1) := by decide +kernel
theorem dX12_doesComeTo_25 : decode cX12_doesComeTo 25 = .ok (.getfield 208, 3) := by decide +kernel
theorem dX12_doesComeTo_28 : decode cX12_doesComeTo 28 = .ok (.iadd, 1) := by decide +kernel
theorem dX12_doesComeTo_29 : decode cX12_doesComeTo 29 = .ok (.iload_n 2, 1) := by decide +kernel
theorem dX12_doesComeTo_30 : decode cX12_doesComeTo 30 = .ok (.if_icmp .ne 7, 3) := by decide +kernel
theorem dX12_doesComeTo_33 : decode cX12_doesComeTo 33 = .ok (.iconst 1, 1) := by decide +kernel
theorem dX12_doesComeTo_34 : decode cX12_doesComeTo 34 = .ok (.goto 4, 3) := by decide +kernel
theorem dX12_doesComeTo_37 : decode cX12_doesComeTo 37 = .ok (.iconst 0, 1) := by decide +kernel
theorem dX12_doesComeTo_38 : decode cX12_doesComeTo 38 = .ok (.ireturn, 1) := by decide +kernel
theorem dX12_who_0 : decode cX12_who 0 = .ok (.aload_n 0, 1) := by decide +kernel
theorem dX12_who_1 : decode cX12_who 1 = .ok (.iconst 0, 1) := by decide +kernel
theorem dX12_who_2 : decode cX12_who 2 = .ok (.putfield 53, 3) := by decide +kernel
theorem dX12_who_5 : decode cX12_who 5 = .ok (.aload_n 0, 1) := by decide +kernel
theorem dX12_who_6 : decode cX12_who 6 = .ok (.iload_n 1, 1) := by decide +kernel
theorem dX12_who_7 : decode cX12_who 7 = .ok (.invokevirtual 236, 3) := by decide +kernel
theorem dX12_who_10 : decode cX12_who 10 = .ok (.ifCond .eq 52, 3) := by decide +kernel
theorem dX12_who_13 : decode cX12_who 13 = .ok (.iload_n 2, 1) := by decide +kernel
theorem dX12_who_14 : decode cX12_who 14 = .ok (.i2l, 1) := by decide +kernel
theorem dX12_who_15 : decode cX12_who 15 = .ok (.lconst 0, 1) := by decide +kernel
theorem dX12_who_16 : decode cX12_who 16 = .ok (.ldc2_w 274, 3) := by decide +kernel
theorem dX12_who_19 : decode cX12_who 19 = .ok (.invokestatic 63, 3) := by decide +kernel
theorem dX12_who_22 : decode cX12_who 22 = .ok (.ifCond .eq 40, 3) := by decide +kernel
theorem dX12_who_25 : decode cX12_who 25 = .ok (.iload_n 3, 1) := by decide +kernel
theorem dX12_who_26 : decode cX12_who 26 = .ok (.iload 5, 2) := by decide +kernel
theorem dX12_who_28 : decode cX12_who 28 = .ok (.invokestatic 220, 3) := by decide +kernel
theorem dX12_who_31 : decode cX12_who 31 = .ok (.ifCond .eq 31, 3) := by decide +kernel
theorem dX12_who_34 : decode cX12_who 34 = .ok (.iload 6, 2) := by decide +kernel
theorem dX12_who_36 : decode cX12_who 36 = .ok (.i2l, 1) := by decide +kernel
theorem dX12_who_37 : decode cX12_who 37 = .ok (.lconst 0, 1) := by decide +kernel
theorem dX12_who_38 : decode cX12_who 38 = .ok (.ldc2_w 270, 3) := by decide +kernel
theorem dX12_who_41 : decode cX12_who 41 = .ok (.invokestatic 63, 3) := by decide +kernel
theorem dX12_who_44 : decode cX12_who 44 = .ok (.ifCond .ne 21, 3) := by decide +kernel
theorem dX12_who_47 : decode cX12_who 47 = .ok (.iload 6, 2) := by decide +kernel
theorem dX12_who_49 : decode cX12_who 49 = .ok (.i2l, 1) := by decide +kernel
theorem dX12_who_50 : decode cX12_who 50 = .ok (.ldc2_w 279, 3) := by decide +kernel
theorem dX12_who_53 : decode cX12_who 53 = .ok (.ldc2_w 281, 3) := by decide +kernel
theorem dX12_who_56 : decode cX12_who 56 = .ok (.invokestatic 63, 3) := by decide +kernel
theorem dX12_who_59 : decode cX12_who 59 = .ok (.ifCond .ne 6, 3) := by decide +kernel
theorem dX12_who_62 : decode cX12_who 62 = .ok (.ldc 73, 2) := by decide +kernel
theorem dX12_who_64 : decode cX12_who 64 = .ok (.ireturn, 1) := by decide +kernel
theorem dX12_who_65 : decode cX12_who 65 = .ok (.aload_n 0, 1) := by decide +kernel
theorem dX12_who_66 : decode cX12_who 66 = .ok (.iload_n 3, 1) := by decide +kernel
theorem dX12_who_67 : decode cX12_who 67 = .ok (.iload 4, 2) := by decide +kernel
theorem dX12_who_69 : decode cX12_who 69 = .ok (.iload 5, 2) := by decide +kernel
theorem dX12_who_71 : decode cX12_who 71 = .ok (.invokevirtual 223, 3) := by decide +kernel
theorem dX12_who_74 : decode cX12_who 74 = .ok (.istore 7, 2) := by decide +kernel
theorem dX12_who_76 : decode cX12_who 76 = .ok (.iload 7, 2) := by decide +kernel
theorem dX12_who_78 : decode cX12_who 78 = .ok (.ifCond .eq 6, 3) := by decide +kernel
theorem dX12_who_81 : decode cX12_who 81 = .ok (.iload 7, 2) := by decide +kernel
theorem dX12_who_83 : decode cX12_who 83 = .ok (.ireturn, 1) := by decide +kernel
theorem dX12_who_84 : decode cX12_who 84 = .ok (.iload_n 2, 1) := by decide +kernel
theorem dX12_who_85 : decode cX12_who 85 = .ok (.iconst 1, 1) := by decide +kernel
theorem dX12_who_86 : decode cX12_who 86 = .ok (.if_icmp .le 7, 3) := by decide +kernel
theorem dX12_who_89 : decode cX12_who 89 = .ok (.iconst 4, 1) := by decide +kernel
theorem dX12_who_90 : decode cX12_who 90 = .ok (.goto 19, 3) := by decide +kernel
theorem dX12_who_93 : decode cX12_who 93 = .ok (.bipush 14, 2) := by decide +kernel
theorem dX12_who_95 : decode cX12_who 95 = .ok (.iconst 5, 1) := by decide +kernel
theorem dX12_who_96 : decode cX12_who 96 = .ok (.iload_n 1, 1) := by decide +kernel
theorem dX12_who_97 : decode cX12_who 97 = .ok (.imul, 1) := by decide +kernel
theorem dX12_who_98 : decode cX12_who 98 = .ok (.iadd, 1) := by decide +kernel
theorem dX12_who_99 : decode cX12_who 99 = .ok (.iload_n 2, 1) := by decide +kernel
theorem dX12_who_100 : decode cX12_who 100 = .ok (.ifCond .ne 7, 3) := by decide +kernel
theorem dX12_who_103 : decode cX12_who 103 = .ok (.iconst 0, 1) := by decide +kernel
theorem dX12_who_104 : decode cX12_who 104 = .ok (.goto 4, 3) := by decide +kernel
theorem dX12_who_107 : decode cX12_who 107 = .ok (.iconst 3, 1) := by decide +kernel
theorem dX12_who_108 : decode cX12_who 108 = .ok (.iadd, 1) := by decide +kernel
theorem dX12_who_109 : decode cX12_who 109 = .ok (.istore 8, 2) := by decide +kernel
theorem dX12_who_111 : decode cX12_who 111 = .ok (.iload_n 2, 1) := by decide +kernel
theorem dX12_who_112 : decode cX12_who 112 = .ok (.ifCond .ne 7, 3) := by decide +kernel
theorem dX12_who_115 : decode cX12_who 115 = .ok (.iconst 5, 1) := by decide +kernel
theorem dX12_who_116 : decode cX12_who 116 = .ok (.goto 15, 3) := by decide +kernel
theorem dX12_who_119 : decode cX12_who 119 = .ok (.iload_n 2, 1) := by decide +kernel
theorem dX12_who_120 : decode cX12_who 120 = .ok (.iconst 1, 1) := by decide +kernel
theorem dX12_who_121 : decode cX12_who 121 = .ok (.if_icmp .ne 8, 3) := by decide +kernel
theorem dX12_who_124 : decode cX12_who 124 = .ok (.bipush 9, 2) := by decide +kernel
theorem dX12_who_126 : decode cX12_who 126 = .ok (.goto 5, 3) := by decide +kernel
theorem dX12_who_129 : decode cX12_who 129 = .ok (.bipush 63, 2) := by decide +kernel
theorem dX12_who_131 : decode cX12_who 131 = .ok (.istore 9, 2) := by decide +kernel
theorem dX12_who_133 : decode cX12_who 133 = .ok (.iconst 0, 1) := by decide +kernel
theorem dX12_who_134 : decode cX12_who 134 = .ok (.istore 10, 2) := by decide +kernel
theorem dX12_who_136 : decode cX12_who 136 = .ok (.iconst 0, 1) := by decide +kernel
theorem dX12_who_137 : decode cX12_who 137 = .ok (.istore 11, 2) := by decide +kernel
theorem dX12_who_139 : decode cX12_who 139 = .ok (.ldc 96, 2) := by decide +kernel
theorem dX12_who_141 : decode cX12_who 141 = .ok (.istore 12, 2) := by decide +kernel
theorem dX12_who_143 : decode cX12_who 143 = .ok (.iload_n 2, 1) := by decide +kernel
theorem dX12_who_144 : decode cX12_who 144 = .ok (.ifCond .ne 7, 3) := by decide +kernel
theorem dX12_who_147 : decode cX12_who 147 = .ok (.iconst 1, 1) := by decide +kernel
theorem dX12_who_148 : decode cX12_who 148 = .ok (.goto 4, 3) := by decide +kernel
theorem dX12_who_151 : decode cX12_who 151 = .ok (.iconst 0, 1) := by decide +kernel
theorem dX12_who_152 : decode cX12_who 152 = .ok (.istore 13, 2) := by decide +kernel
theorem dX12_who_154 : decode cX12_who 154 = .ok (.iload 13, 2) := by decide +kernel
theorem dX12_who_156 : decode cX12_who 156 = .ok (.iload 9, 2) := by decide +kernel
theorem dX12_who_158 : decode cX12_who 158 = .ok (.if_icmp .gt 68, 3) := by decide +kernel
theorem dX12_who_161 : decode cX12_who 161 = .ok (.aload_n 0, 1) := by decide +kernel
theorem dX12_who_162 : decode cX12_who 162 = .ok (.invokevirtual 255, 3) := by decide +kernel
theorem dX12_who_165 : decode cX12_who 165 = .ok (.aload_n 0, 1) := by decide +kernel
theorem dX12_who_166 : decode cX12_who 166 = .ok (.getfield 25, 3) := by decide +kernel
theorem dX12_who_169 : decode cX12_who 169 = .ok (.iload 8, 2) := by decide +kernel
theorem dX12_who_171 : decode cX12_who 171 = .ok (.iload 13, 2) := by decide +kernel
theorem dX12_who_173 : decode cX12_who 173 = .ok (.iastore, 1) := by decide +kernel
theorem dX12_who_174 : decode cX12_who 174 = .ok (.aload_n 0, 1) := by decide +kernel
theorem dX12_who_175 : decode cX12_who 175 = .ok (.iload 5, 2) := by decide +kernel
theorem dX12_who_177 : decode cX12_who 177 = .ok (.iload 6, 2) := by decide +kernel
theorem dX12_who_179 : decode cX12_who 179 = .ok (.invokevirtual 283, 3) := by decide +kernel
theorem dX12_who_182 : decode cX12_who 182 = .ok (.ifCond .eq 38, 3) := by decide +kernel
theorem dX12_who_185 : decode cX12_who 185 = .ok (.iload 10, 2) := by decide +kernel
theorem dX12_who_187 : decode cX12_who 187 = .ok (.iload_n 2, 1) := by decide +kernel
theorem dX12_who_188 : decode cX12_who 188 = .ok (.iconst 2, 1) := by decide +kernel
theorem dX12_who_189 : decode cX12_who 189 = .ok (.if_icmp .ge 10, 3) := by decide +kernel
theorem dX12_who_192 : decode cX12_who 192 = .ok (.iconst 1, 1) := by decide +kernel
theorem dX12_who_193 : decode cX12_who 193 = .ok (.iload 13, 2) := by decide +kernel
theorem dX12_who_195 : decode cX12_who 195 = .ok (.ishl, 1) := by decide +kernel
theorem dX12_who_196 : decode cX12_who 196 = .ok (.goto 4, 3) := by decide +kernel
theorem dX12_who_199 : decode cX12_who 199 = .ok (.iconst 0, 1) := by decide +kernel
theorem dX12_who_200 : decode cX12_who 200 = .ok (.ior, 1) := by decide +kernel
theorem dX12_who_201 : decode cX12_who 201 = .ok (.istore 10, 2) := by decide +kernel
theorem dX12_who_203 : decode cX12_who 203 = .ok (.iload 11, 2) := by decide +kernel
theorem dX12_who_205 : decode cX12_who 205 = .ok (.ifCond .ne 8, 3) := by decide +kernel
theorem dX12_who_208 : decode cX12_who 208 = .ok (.iload 13, 2) := by decide +kernel
theorem dX12_who_210 : decode cX12_who 210 = .ok (.goto 5, 3) := by decide +kernel
theorem dX12_who_213 : decode cX12_who 213 = .ok (.iload 12, 2) := by decide +kernel
theorem dX12_who_215 : decode cX12_who 215 = .ok (.istore 12, 2) := by decide +kernel
theorem dX12_who_217 : decode cX12_who 217 = .ok (.iinc 11 1, 3) := by decide +kernel
theorem dX12_who_220 : decode cX12_who 220 = .ok (.iinc 13 1, 3) := by decide +kernel
theorem dX12_who_223 : decode cX12_who 223 = .ok (.goto (-69), 3) := by decide +kernel
theorem dX12_who_226 : decode cX12_who 226 = .ok (.iload_n 2, 1) := by decide +kernel
theorem dX12_who_227 : decode cX12_who 227 = .ok (.iconst 2, 1) := by decide +kernel
theorem dX12_who_228 : decode cX12_who 228 = .ok (.if_icmp .ge 8, 3) := by decide +kernel
theorem dX12_who_231 : decode cX12_who 231 = .ok (.iload 10, 2) := by decide +kernel
theorem dX12_who_233 : decode cX12_who 233 = .ok (.goto 15, 3) := by decide +kernel
theorem dX12_who_236 : decode cX12_who 236 = .ok (.iload_n 2, 1) := by decide +kernel
theorem dX12_who_237 : decode cX12_who 237 = .ok (.iconst 2, 1) := by decide +kernel
theorem dX12_who_238 : decode cX12_who 238 = .ok (.if_icmp .ne 8, 3) := by decide +kernel
theorem dX12_who_241 : decode cX12_who 241 = .ok (.iload 11, 2) := by decide +kernel
theorem dX12_who_243 : decode cX12_who 243 = .ok (.goto 5, 3) := by decide +kernel
theorem dX12_who_246 : decode cX12_who 246 = .ok (.iload 12, 2) := by decide +kernel
theorem dX12_who_248 : decode cX12_who 248 = .ok (.ireturn, 1) := by decide +kernel
theorem dX12_sticks_0 : decode cX12_sticks 0 = .ok (.aload_n 0, 1) := by decide +kernel
theorem dX12_sticks_1 : decode cX12_sticks 1 = .ok (.iconst 0, 1) := by decide +kernel
theorem dX12_sticks_2 : decode cX12_sticks 2 = .ok (.putfield 53, 3) := by decide +kernel
theorem dX12_sticks_5 : decode cX12_sticks 5 = .ok (.aload_n 0, 1) := by decide +kernel
theorem dX12_sticks_6 : decode cX12_sticks 6 = .ok (.invokevirtual 216, 3) := by decide +kernel
theorem dX12_sticks_9 : decode cX12_sticks 9 = .ok (.ifCond .ne 7, 3) := by decide +kernel
theorem dX12_sticks_12 : decode cX12_sticks 12 = .ok (.ldc2_w 286, 3) := by decide +kernel
theorem dX12_sticks_15 : decode cX12_sticks 15 = .ok (.lreturn, 1) := by decide +kernel
theorem dX12_sticks_16 : decode cX12_sticks 16 = .ok (.iload_n 1, 1) := by decide +kernel
theorem dX12_sticks_17 : decode cX12_sticks 17 = .ok (.iload_n 3, 1) := by decide +kernel
theorem dX12_sticks_18 : decode cX12_sticks 18 = .ok (.invokestatic 220, 3) := by decide +kernel
theorem dX12_sticks_21 : decode cX12_sticks 21 = .ok (.ifCond .eq 27, 3) := by decide +kernel
theorem dX12_sticks_24 : decode cX12_sticks 24 = .ok (.iload 4, 2) := by decide +kernel
theorem dX12_sticks_26 : decode cX12_sticks 26 = .ok (.i2l, 1) := by decide +kernel
theorem dX12_sticks_27 : decode cX12_sticks 27 = .ok (.lconst 0, 1) := by decide +kernel
theorem dX12_sticks_28 : decode cX12_sticks 28 = .ok (.ldc2_w 288, 3) := by decide +kernel
theorem dX12_sticks_31 : decode cX12_sticks 31 = .ok (.invokestatic 63, 3) := by decide +kernel
theorem dX12_sticks_34 : decode cX12_sticks 34 = .ok (.ifCond .eq 14, 3) := by decide +kernel
theorem dX12_sticks_37 : decode cX12_sticks 37 = .ok (.iload 5, 2) := by decide +kernel
theorem dX12_sticks_39 : decode cX12_sticks 39 = .ok (.i2l, 1) := by decide +kernel
theorem dX12_sticks_40 : decode cX12_sticks 40 = .ok (.lconst 0, 1) := by decide +kernel
theorem dX12_sticks_41 : decode cX12_sticks 41 = .ok (.lconst 1, 1) := by decide +kernel
theorem dX12_sticks_42 : decode cX12_sticks 42 = .ok (.invokestatic 63, 3) := by decide +kernel
theorem dX12_sticks_45 : decode cX12_sticks 45 = .ok (.ifCond .ne 7, 3) := by decide +kernel
theorem dX12_sticks_48 : decode cX12_sticks 48 = .ok (.ldc2_w 290, 3) := by decide +kernel
theorem dX12_sticks_51 : decode cX12_sticks 51 = .ok (.lreturn, 1) := by decide +kernel
theorem dX12_sticks_52 : decode cX12_sticks 52 = .ok (.aload_n 0, 1) := by decide +kernel
theorem dX12_sticks_53 : decode cX12_sticks 53 = .ok (.iload_n 1, 1) := by decide +kernel
theorem dX12_sticks_54 : decode cX12_sticks 54 = .ok (.iload_n 2, 1) := by decide +kernel
theorem dX12_sticks_55 : decode cX12_sticks 55 = .ok (.iload_n 3, 1) := by decide +kernel
theorem dX12_sticks_56 : decode cX12_sticks 56 = .ok (.invokevirtual 223, 3) := by decide +kernel
theorem dX12_sticks_59 : decode cX12_sticks 59 = .ok (.istore 6, 2) := by decide +kernel
theorem dX12_sticks_61 : decode cX12_sticks 61 = .ok (.iload 6, 2) := by decide +kernel
theorem dX12_sticks_63 : decode cX12_sticks 63 = .ok (.ifCond .eq 7, 3) := by decide +kernel
theorem dX12_sticks_66 : decode cX12_sticks 66 = .ok (.iload 6, 2) := by decide +kernel
theorem dX12_sticks_68 : decode cX12_sticks 68 = .ok (.i2l, 1) := by decide +kernel
theorem dX12_sticks_69 : decode cX12_sticks 69 = .ok (.lreturn, 1) := by decide +kernel
theorem dX12_sticks_70 : decode cX12_sticks 70 = .ok (.aload_n 0, 1) := by decide +kernel
theorem dX12_sticks_71 : decode cX12_sticks 71 = .ok (.invokevirtual 255, 3) := by decide +kernel
theorem dX12_sticks_74 : decode cX12_sticks 74 = .ok (.aload_n 0, 1) := by decide +kernel
theorem dX12_sticks_75 : decode cX12_sticks 75 = .ok (.aload_n 0, 1) := by decide +kernel
theorem dX12_sticks_76 : decode cX12_sticks 76 = .ok (.getfield 25, 3) := by decide +kernel
theorem dX12_sticks_79 : decode cX12_sticks 79 = .ok (.iload_n 3, 1) := by decide +kernel
theorem dX12_sticks_80 : decode cX12_sticks 80 = .ok (.invokevirtual 230, 3) := by decide +kernel
theorem dX12_sticks_83 : decode cX12_sticks 83 = .ok (.istore 7, 2) := by decide +kernel
theorem dX12_sticks_85 : decode cX12_sticks 85 = .ok (.iload 7, 2) := by decide +kernel
theorem dX12_sticks_87 : decode cX12_sticks 87 = .ok (.ifCond .le 7, 3) := by decide +kernel
theorem dX12_sticks_90 : decode cX12_sticks 90 = .ok (.lconst 1, 1) := by decide +kernel
theorem dX12_sticks_91 : decode cX12_sticks 91 = .ok (.goto 4, 3) := by decide +kernel
theorem dX12_sticks_94 : decode cX12_sticks 94 = .ok (.lconst 0, 1) := by decide +kernel
theorem dX12_sticks_95 : decode cX12_sticks 95 = .ok (.lstore 8, 2) := by decide +kernel
theorem dX12_sticks_97 : decode cX12_sticks 97 = .ok (.lconst 1, 1) := by decide +kernel
theorem dX12_sticks_98 : decode cX12_sticks 98 = .ok (.lstore 10, 2) := by decide +kernel
theorem dX12_sticks_100 : decode cX12_sticks 100 = .ok (.iconst 0, 1) := by decide +kernel
theorem dX12_sticks_101 : decode cX12_sticks 101 = .ok (.istore 12, 2) := by decide +kernel
theorem dX12_sticks_103 : decode cX12_sticks 103 = .ok (.iload 12, 2) := by decide +kernel
theorem dX12_sticks_105 : decode cX12_sticks 105 = .ok (.aload_n 0, 1) := by decide +kernel
theorem dX12_sticks_106 : decode cX12_sticks 106 = .ok (.getfield 171, 3) := by decide +kernel
theorem dX12_sticks_109 : decode cX12_sticks 109 = .ok (.if_icmp .ge 29, 3) := by decide +kernel
theorem dX12_sticks_112 : decode cX12_sticks 112 = .ok (.lload 8, 2) := by decide +kernel
theorem dX12_sticks_114 : decode cX12_sticks 114 = .ok (.ldc2_w 288, 3) := by decide +kernel
theorem dX12_sticks_117 : decode cX12_sticks 117 = .ok (.iload 4, 2) := by decide +kernel
theorem dX12_sticks_119 : decode cX12_sticks 119 = .ok (.i2l, 1) := by decide +kernel
theorem dX12_sticks_120 : decode cX12_sticks 120 = .ok (.lsub, 1) := by decide +kernel
theorem dX12_sticks_121 : decode cX12_sticks 121 = .ok (.lmul, 1) := by decide +kernel
theorem dX12_sticks_122 : decode cX12_sticks 122 = .ok (.lstore 8, 2) := by decide +kernel
theorem dX12_sticks_124 : decode cX12_sticks 124 = .ok (.lload 10, 2) := by decide +kernel
theorem dX12_sticks_126 : decode cX12_sticks 126 = .ok (.ldc2_w 288, 3) := by decide +kernel
theorem dX12_sticks_129 : decode cX12_sticks 129 = .ok (.lmul, 1) := by decide +kernel
theorem dX12_sticks_130 : decode cX12_sticks 130 = .ok (.lstore 10, 2) := by decide +kernel
theorem dX12_sticks_132 : decode cX12_sticks 132 = .ok (.iinc 12 1, 3) := by decide +kernel
theorem dX12_sticks_135 : decode cX12_sticks 135 = .ok (.goto (-32), 3) := by decide +kernel
theorem dX12_sticks_138 : decode cX12_sticks 138 = .ok (.lload 8, 2) := by decide +kernel
theorem dX12_sticks_140 : decode cX12_sticks 140 = .ok (.lstore 12, 2) := by decide +kernel
theorem dX12_sticks_142 : decode cX12_sticks 142 = .ok (.lload 10, 2) := by decide +kernel
theorem dX12_sticks_144 : decode cX12_sticks 144 = .ok (.lstore 14, 2) := by decide +kernel
theorem dX12_sticks_146 : decode cX12_sticks 146 = .ok (.lload 14, 2) := by decide +kernel
theorem dX12_sticks_148 : decode cX12_sticks 148 = .ok (.lconst 0, 1) := by decide +kernel
theorem dX12_sticks_149 : decode cX12_sticks 149 = .ok (.lcmp, 1) := by decide +kernel
theorem dX12_sticks_150 : decode cX12_sticks 150 = .ok (.ifCond .eq 21, 3) := by decide +kernel
theorem dX12_sticks_153 : decode cX12_sticks 153 = .ok (.lload 12, 2) := by decide +kernel
theorem dX12_sticks_155 : decode cX12_sticks 155 = .ok (.lload 14, 2) := by decide +kernel
theorem dX12_sticks_157 : decode cX12_sticks 157 = .ok (.lrem, 1) := by decide +kernel
theorem dX12_sticks_158 : decode cX12_sticks 158 = .ok (.lstore 16, 2) := by decide +kernel
theorem dX12_sticks_160 : decode cX12_sticks 160 = .ok (.lload 14, 2) := by decide +kernel
theorem dX12_sticks_162 : decode cX12_sticks 162 = .ok (.lstore 12, 2) := by decide +kernel
theorem dX12_sticks_164 : decode cX12_sticks 164 = .ok (.lload 16, 2) := by decide +kernel
theorem dX12_sticks_166 : decode cX12_sticks 166 = .ok (.lstore 14, 2) := by decide +kernel
theorem dX12_sticks_168 : decode cX12_sticks 168 = .ok (.goto (-22), 3) := by decide +kernel
theorem dX12_sticks_171 : decode cX12_sticks 171 = .ok (.iload 5, 2) := by decide +kernel
theorem dX12_sticks_173 : decode cX12_sticks 173 = .ok (.ifCond .ne 8, 3) := by decide +kernel
theorem dX12_sticks_176 : decode cX12_sticks 176 = .ok (.lload 8, 2) := by decide +kernel
theorem dX12_sticks_178 : decode cX12_sticks 178 = .ok (.goto 5, 3) := by decide +kernel
theorem dX12_sticks_181 : decode cX12_sticks 181 = .ok (.lload 10, 2) := by decide +kernel
theorem dX12_sticks_183 : decode cX12_sticks 183 = .ok (.lload 12, 2) := by decide +kernel
theorem dX12_sticks_185 : decode cX12_sticks 185 = .ok (.ldiv, 1) := by decide +kernel
theorem dX12_sticks_186 : decode cX12_sticks 186 = .ok (.lreturn, 1) := by decide +kernel
theorem dX12_drawn_0 : decode cX12_drawn 0 = .ok (.aload_n 0, 1) := by decide +kernel
theorem dX12_drawn_1 : decode cX12_drawn 1 = .ok (.iconst 0, 1) := by decide +kernel
theorem dX12_drawn_2 : decode cX12_drawn 2 = .ok (.putfield 53, 3) := by decide +kernel
theorem dX12_drawn_5 : decode cX12_drawn 5 = .ok (.aload_n 0, 1) := by decide +kernel
theorem dX12_drawn_6 : decode cX12_drawn 6 = .ok (.invokevirtual 216, 3) := by decide +kernel
theorem dX12_drawn_9 : decode cX12_drawn 9 = .ok (.ifCond .ne 6, 3) := by decide +kernel
theorem dX12_drawn_12 : decode cX12_drawn 12 = .ok (.ldc 219, 2) := by decide +kernel
theorem dX12_drawn_14 : decode cX12_drawn 14 = .ok (.ireturn, 1) := by decide +kernel
theorem dX12_drawn_15 : decode cX12_drawn 15 = .ok (.iload_n 1, 1) := by decide +kernel
theorem dX12_drawn_16 : decode cX12_drawn 16 = .ok (.i2l, 1) := by decide +kernel
theorem dX12_drawn_17 : decode cX12_drawn 17 = .ok (.lconst 0, 1) := by decide +kernel
theorem dX12_drawn_18 : decode cX12_drawn 18 = .ok (.ldc2_w 251, 3) := by decide +kernel
theorem dX12_drawn_21 : decode cX12_drawn 21 = .ok (.invokestatic 63, 3) := by decide +kernel
theorem dX12_drawn_24 : decode cX12_drawn 24 = .ok (.ifCond .eq 25, 3) := by decide +kernel
theorem dX12_drawn_27 : decode cX12_drawn 27 = .ok (.iload_n 2, 1) := by decide +kernel
theorem dX12_drawn_28 : decode cX12_drawn 28 = .ok (.i2l, 1) := by decide +kernel
theorem dX12_drawn_29 : decode cX12_drawn 29 = .ok (.lconst 1, 1) := by decide +kernel
theorem dX12_drawn_30 : decode cX12_drawn 30 = .ok (.ldc2_w 292, 3) := by decide +kernel
theorem dX12_drawn_33 : decode cX12_drawn 33 = .ok (.invokestatic 63, 3) := by decide +kernel
theorem dX12_drawn_36 : decode cX12_drawn 36 = .ok (.ifCond .eq 13, 3) := by decide +kernel
theorem dX12_drawn_39 : decode cX12_drawn 39 = .ok (.iload_n 3, 1) := by decide +kernel
theorem dX12_drawn_40 : decode cX12_drawn 40 = .ok (.i2l, 1) := by decide +kernel
theorem dX12_drawn_41 : decode cX12_drawn 41 = .ok (.lconst 0, 1) := by decide +kernel
theorem dX12_drawn_42 : decode cX12_drawn 42 = .ok (.lconst 1, 1) := by decide +kernel
theorem dX12_drawn_43 : decode cX12_drawn 43 = .ok (.invokestatic 63, 3) := by decide +kernel
theorem dX12_drawn_46 : decode cX12_drawn 46 = .ok (.ifCond .ne 6, 3) := by decide +kernel
theorem dX12_drawn_49 : decode cX12_drawn 49 = .ok (.ldc 73, 2) := by decide +kernel
theorem dX12_drawn_51 : decode cX12_drawn 51 = .ok (.ireturn, 1) := by decide +kernel
theorem dX12_drawn_52 : decode cX12_drawn 52 = .ok (.aload_n 0, 1) := by decide +kernel
theorem dX12_drawn_53 : decode cX12_drawn 53 = .ok (.invokevirtual 255, 3) := by decide +kernel
theorem dX12_drawn_56 : decode cX12_drawn 56 = .ok (.iload_n 2, 1) := by decide +kernel
theorem dX12_drawn_57 : decode cX12_drawn 57 = .ok (.i2l, 1) := by decide +kernel
theorem dX12_drawn_58 : decode cX12_drawn 58 = .ok (.lstore 4, 2) := by decide +kernel
theorem dX12_drawn_60 : decode cX12_drawn 60 = .ok (.iconst 0, 1) := by decide +kernel
theorem dX12_drawn_61 : decode cX12_drawn 61 = .ok (.istore 6, 2) := by decide +kernel
theorem dX12_drawn_63 : decode cX12_drawn 63 = .ok (.iconst 0, 1) := by decide +kernel
theorem dX12_drawn_64 : decode cX12_drawn 64 = .ok (.istore 7, 2) := by decide +kernel
theorem dX12_drawn_66 : decode cX12_drawn 66 = .ok (.iconst 0, 1) := by decide +kernel
theorem dX12_drawn_67 : decode cX12_drawn 67 = .ok (.istore 8, 2) := by decide +kernel
theorem dX12_drawn_69 : decode cX12_drawn 69 = .ok (.iload 8, 2) := by decide +kernel
theorem dX12_drawn_71 : decode cX12_drawn 71 = .ok (.iload_n 1, 1) := by decide +kernel
theorem dX12_drawn_72 : decode cX12_drawn 72 = .ok (.if_icmp .ge 144, 3) := by decide +kernel
theorem dX12_drawn_75 : decode cX12_drawn 75 = .ok (.lload 4, 2) := by decide +kernel
theorem dX12_drawn_77 : decode cX12_drawn 77 = .ok (.ldc2_w 294, 3) := by decide +kernel
theorem dX12_drawn_80 : decode cX12_drawn 80 = .ok (.lmul, 1) := by decide +kernel
theorem dX12_drawn_81 : decode cX12_drawn 81 = .ok (.ldc2_w 296, 3) := by decide +kernel
theorem dX12_drawn_84 : decode cX12_drawn 84 = .ok (.lrem, 1) := by decide +kernel
theorem dX12_drawn_85 : decode cX12_drawn 85 = .ok (.lstore 4, 2) := by decide +kernel
theorem dX12_drawn_87 : decode cX12_drawn 87 = .ok (.lload 4, 2) := by decide +kernel
theorem dX12_drawn_89 : decode cX12_drawn 89 = .ok (.aload_n 0, 1) := by decide +kernel
theorem dX12_drawn_90 : decode cX12_drawn 90 = .ok (.getfield 25, 3) := by decide +kernel
theorem dX12_drawn_93 : decode cX12_drawn 93 = .ok (.iconst 1, 1) := by decide +kernel
theorem dX12_drawn_94 : decode cX12_drawn 94 = .ok (.iaload, 1) := by decide +kernel
theorem dX12_drawn_95 : decode cX12_drawn 95 = .ok (.i2l, 1) := by decide +kernel
theorem dX12_drawn_96 : decode cX12_drawn 96 = .ok (.lrem, 1) := by decide +kernel
theorem dX12_drawn_97 : decode cX12_drawn 97 = .ok (.l2i, 1) := by decide +kernel
theorem dX12_drawn_98 : decode cX12_drawn 98 = .ok (.istore 9, 2) := by decide +kernel
theorem dX12_drawn_100 : decode cX12_drawn 100 = .ok (.aload_n 0, 1) := by decide +kernel
theorem dX12_drawn_101 : decode cX12_drawn 101 = .ok (.getfield 25, 3) := by decide +kernel
theorem dX12_drawn_104 : decode cX12_drawn 104 = .ok (.bipush 6, 2) := by decide +kernel
theorem dX12_drawn_106 : decode cX12_drawn 106 = .ok (.iload 9, 2) := by decide +kernel
theorem dX12_drawn_108 : decode cX12_drawn 108 = .ok (.iadd, 1) := by decide +kernel
theorem dX12_drawn_109 : decode cX12_drawn 109 = .ok (.iaload, 1) := by decide +kernel
theorem dX12_drawn_110 : decode cX12_drawn 110 = .ok (.ifCond .ne 25, 3) := by decide +kernel
theorem dX12_drawn_113 : decode cX12_drawn 113 = .ok (.lload 4, 2) := by decide +kernel
theorem dX12_drawn_115 : decode cX12_drawn 115 = .ok (.ldc2_w 274, 3) := by decide +kernel
theorem dX12_drawn_118 : decode cX12_drawn 118 = .ok (.lrem, 1) := by decide +kernel
theorem dX12_drawn_119 : decode cX12_drawn 119 = .ok (.lconst 0, 1) := by decide +kernel
theorem dX12_drawn_120 : decode cX12_drawn 120 = .ok (.lcmp, 1) := by decide +kernel
theorem dX12_drawn_121 : decode cX12_drawn 121 = .ok (.ifCond .ne 14, 3) := by decide +kernel
theorem dX12_drawn_124 : decode cX12_drawn 124 = .ok (.aload_n 0, 1) := by decide +kernel
theorem dX12_drawn_125 : decode cX12_drawn 125 = .ok (.getfield 25, 3) := by decide +kernel
theorem dX12_drawn_128 : decode cX12_drawn 128 = .ok (.bipush 6, 2) := by decide +kernel
theorem dX12_drawn_130 : decode cX12_drawn 130 = .ok (.iload 9, 2) := by decide +kernel
theorem dX12_drawn_132 : decode cX12_drawn 132 = .ok (.iadd, 1) := by decide +kernel
theorem dX12_drawn_133 : decode cX12_drawn 133 = .ok (.iconst 5, 1) := by decide +kernel
theorem dX12_drawn_134 : decode cX12_drawn 134 = .ok (.iastore, 1) := by decide +kernel
theorem dX12_drawn_135 : decode cX12_drawn 135 = .ok (.aload_n 0, 1) := by decide +kernel
theorem dX12_drawn_136 : decode cX12_drawn 136 = .ok (.getfield 34, 3) := by decide +kernel
theorem dX12_drawn_139 : decode cX12_drawn 139 = .ok (.iconst 0, 1) := by decide +kernel
theorem dX12_drawn_140 : decode cX12_drawn 140 = .ok (.lload 4, 2) := by decide +kernel
theorem dX12_drawn_142 : decode cX12_drawn 142 = .ok (.ldc2_w 214, 3) := by decide +kernel
theorem dX12_drawn_145 : decode cX12_drawn 145 = .ok (.ldiv, 1) := by decide +kernel
theorem dX12_drawn_146 : decode cX12_drawn 146 = .ok (.aload_n 0, 1) := by decide +kernel
theorem dX12_drawn_147 : decode cX12_drawn 147 = .ok (.getfield 25, 3) := by decide +kernel
theorem dX12_drawn_150 : decode cX12_drawn 150 = .ok (.iconst 0, 1) := by decide +kernel
theorem dX12_drawn_151 : decode cX12_drawn 151 = .ok (.iaload, 1) := by decide +kernel
theorem dX12_drawn_152 : decode cX12_drawn 152 = .ok (.i2l, 1) := by decide +kernel
theorem dX12_drawn_153 : decode cX12_drawn 153 = .ok (.lrem, 1) := by decide +kernel
theorem dX12_drawn_154 : decode cX12_drawn 154 = .ok (.l2i, 1) := by decide +kernel
theorem dX12_drawn_155 : decode cX12_drawn 155 = .ok (.iastore, 1) := by decide +kernel
theorem dX12_drawn_156 : decode cX12_drawn 156 = .ok (.aload_n 0, 1) := by decide +kernel
theorem dX12_drawn_157 : decode cX12_drawn 157 = .ok (.getfield 34, 3) := by decide +kernel
theorem dX12_drawn_160 : decode cX12_drawn 160 = .ok (.iconst 1, 1) := by decide +kernel
theorem dX12_drawn_161 : decode cX12_drawn 161 = .ok (.lload 4, 2) := by decide +kernel
theorem dX12_drawn_163 : decode cX12_drawn 163 = .ok (.ldc2_w 298, 3) := by decide +kernel
theorem dX12_drawn_166 : decode cX12_drawn 166 = .ok (.ldiv, 1) := by decide +kernel
theorem dX12_drawn_167 : decode cX12_drawn 167 = .ok (.aload_n 0, 1) := by decide +kernel
theorem dX12_drawn_168 : decode cX12_drawn 168 = .ok (.getfield 25, 3) := by decide +kernel
theorem dX12_drawn_171 : decode cX12_drawn 171 = .ok (.iconst 0, 1) := by decide +kernel
theorem dX12_drawn_172 : decode cX12_drawn 172 = .ok (.iaload, 1) := by decide +kernel
theorem dX12_drawn_173 : decode cX12_drawn 173 = .ok (.i2l, 1) := by decide +kernel
theorem dX12_drawn_174 : decode cX12_drawn 174 = .ok (.lrem, 1) := by decide +kernel
theorem dX12_drawn_175 : decode cX12_drawn 175 = .ok (.l2i, 1) := by decide +kernel
theorem dX12_drawn_176 : decode cX12_drawn 176 = .ok (.iastore, 1) := by decide +kernel
theorem dX12_drawn_177 : decode cX12_drawn 177 = .ok (.aload_n 0, 1) := by decide +kernel
theorem dX12_drawn_178 : decode cX12_drawn 178 = .ok (.aload_n 0, 1) := by decide +kernel
theorem dX12_drawn_179 : decode cX12_drawn 179 = .ok (.getfield 25, 3) := by decide +kernel
theorem dX12_drawn_182 : decode cX12_drawn 182 = .ok (.iconst 2, 1) := by decide +kernel
theorem dX12_drawn_183 : decode cX12_drawn 183 = .ok (.invokevirtual 230, 3) := by decide +kernel
theorem dX12_drawn_186 : decode cX12_drawn 186 = .ok (.istore 10, 2) := by decide +kernel
theorem dX12_drawn_188 : decode cX12_drawn 188 = .ok (.iload 6, 2) := by decide +kernel
theorem dX12_drawn_190 : decode cX12_drawn 190 = .ok (.iload 10, 2) := by decide +kernel
theorem dX12_drawn_192 : decode cX12_drawn 192 = .ok (.iadd, 1) := by decide +kernel
theorem dX12_drawn_193 : decode cX12_drawn 193 = .ok (.istore 6, 2) := by decide +kernel
theorem dX12_drawn_195 : decode cX12_drawn 195 = .ok (.iload 7, 2) := by decide +kernel
theorem dX12_drawn_197 : decode cX12_drawn 197 = .ok (.iload 10, 2) := by decide +kernel
theorem dX12_drawn_199 : decode cX12_drawn 199 = .ok (.ifCond .le 7, 3) := by decide +kernel
theorem dX12_drawn_202 : decode cX12_drawn 202 = .ok (.iconst 1, 1) := by decide +kernel
theorem dX12_drawn_203 : decode cX12_drawn 203 = .ok (.goto 4, 3) := by decide +kernel
theorem dX12_drawn_206 : decode cX12_drawn 206 = .ok (.iconst 0, 1) := by decide +kernel
theorem dX12_drawn_207 : decode cX12_drawn 207 = .ok (.iadd, 1) := by decide +kernel
theorem dX12_drawn_208 : decode cX12_drawn 208 = .ok (.istore 7, 2) := by decide +kernel
theorem dX12_drawn_210 : decode cX12_drawn 210 = .ok (.iinc 8 1, 3) := by decide +kernel
theorem dX12_drawn_213 : decode cX12_drawn 213 = .ok (.goto (-144), 3) := by decide +kernel
theorem dX12_drawn_216 : decode cX12_drawn 216 = .ok (.iload_n 3, 1) := by decide +kernel
theorem dX12_drawn_217 : decode cX12_drawn 217 = .ok (.ifCond .ne 8, 3) := by decide +kernel
theorem dX12_drawn_220 : decode cX12_drawn 220 = .ok (.iload 6, 2) := by decide +kernel
theorem dX12_drawn_222 : decode cX12_drawn 222 = .ok (.goto 5, 3) := by decide +kernel
theorem dX12_drawn_225 : decode cX12_drawn 225 = .ok (.iload 7, 2) := by decide +kernel
theorem dX12_drawn_227 : decode cX12_drawn 227 = .ok (.ireturn, 1) := by decide +kernel
theorem dX12_image_0 : decode cX12_image 0 = .ok (.aload_n 0, 1) := by decide +kernel
theorem dX12_image_1 : decode cX12_image 1 = .ok (.iconst 0, 1) := by decide +kernel
theorem dX12_image_2 : decode cX12_image 2 = .ok (.putfield 53, 3) := by decide +kernel
theorem dX12_image_5 : decode cX12_image 5 = .ok (.iload_n 1, 1) := by decide +kernel
theorem dX12_image_6 : decode cX12_image 6 = .ok (.i2l, 1) := by decide +kernel
theorem dX12_image_7 : decode cX12_image 7 = .ok (.lconst 0, 1) := by decide +kernel
theorem dX12_image_8 : decode cX12_image 8 = .ok (.lconst 1, 1) := by decide +kernel
theorem dX12_image_9 : decode cX12_image 9 = .ok (.invokestatic 63, 3) := by decide +kernel
theorem dX12_image_12 : decode cX12_image 12 = .ok (.ifCond .ne 6, 3) := by decide +kernel
theorem dX12_image_15 : decode cX12_image 15 = .ok (.ldc 73, 2) := by decide +kernel
theorem dX12_image_17 : decode cX12_image 17 = .ok (.ireturn, 1) := by decide +kernel
theorem dX12_image_18 : decode cX12_image 18 = .ok (.aload_n 0, 1) := by decide +kernel
theorem dX12_image_19 : decode cX12_image 19 = .ok (.invokevirtual 216, 3) := by decide +kernel
theorem dX12_image_22 : decode cX12_image 22 = .ok (.ifCond .ne 6, 3) := by decide +kernel
theorem dX12_image_25 : decode cX12_image 25 = .ok (.ldc 219, 2) := by decide +kernel
theorem dX12_image_27 : decode cX12_image 27 = .ok (.ireturn, 1) := by decide +kernel
theorem dX12_image_28 : decode cX12_image 28 = .ok (.iconst 0, 1) := by decide +kernel
theorem dX12_image_29 : decode cX12_image 29 = .ok (.istore_n 2, 1) := by decide +kernel
theorem dX12_image_30 : decode cX12_image 30 = .ok (.iload_n 2, 1) := by decide +kernel
theorem dX12_image_31 : decode cX12_image 31 = .ok (.bipush 54, 2) := by decide +kernel
theorem dX12_image_33 : decode cX12_image 33 = .ok (.if_icmp .ge 26, 3) := by decide +kernel
theorem dX12_image_36 : decode cX12_image 36 = .ok (.aload_n 0, 1) := by decide +kernel
theorem dX12_image_37 : decode cX12_image 37 = .ok (.getfield 47, 3) := by decide +kernel
theorem dX12_image_40 : decode cX12_image 40 = .ok (.bipush 54, 2) := by decide +kernel
theorem dX12_image_42 : decode cX12_image 42 = .ok (.iload_n 1, 1) := by decide +kernel
theorem dX12_image_43 : decode cX12_image 43 = .ok (.imul, 1) := by decide +kernel
theorem dX12_image_44 : decode cX12_image 44 = .ok (.iload_n 2, 1) := by decide +kernel
theorem dX12_image_45 : decode cX12_image 45 = .ok (.iadd, 1) := by decide +kernel
theorem dX12_image_46 : decode cX12_image 46 = .ok (.aload_n 0, 1) := by decide +kernel
theorem dX12_image_47 : decode cX12_image 47 = .ok (.getfield 19, 3) := by decide +kernel
theorem dX12_image_50 : decode cX12_image 50 = .ok (.iload_n 2, 1) := by decide +kernel
theorem dX12_image_51 : decode cX12_image 51 = .ok (.iaload, 1) := by decide +kernel
theorem dX12_image_52 : decode cX12_image 52 = .ok (.iastore, 1) := by decide +kernel
theorem dX12_image_53 : decode cX12_image 53 = .ok (.iinc 2 1, 3) := by decide +kernel
theorem dX12_image_56 : decode cX12_image 56 = .ok (.goto (-26), 3) := by decide +kernel
theorem dX12_image_59 : decode cX12_image 59 = .ok (.aload_n 0, 1) := by decide +kernel
theorem dX12_image_60 : decode cX12_image 60 = .ok (.getfield 43, 3) := by decide +kernel
theorem dX12_image_63 : decode cX12_image 63 = .ok (.iload_n 1, 1) := by decide +kernel
theorem dX12_image_64 : decode cX12_image 64 = .ok (.iconst 1, 1) := by decide +kernel
theorem dX12_image_65 : decode cX12_image 65 = .ok (.bastore, 1) := by decide +kernel
theorem dX12_image_66 : decode cX12_image 66 = .ok (.iconst 1, 1) := by decide +kernel
theorem dX12_image_67 : decode cX12_image 67 = .ok (.ireturn, 1) := by decide +kernel
theorem dX12_restore_0 : decode cX12_restore 0 = .ok (.aload_n 0, 1) := by decide +kernel
theorem dX12_restore_1 : decode cX12_restore 1 = .ok (.iconst 0, 1) := by decide +kernel
theorem dX12_restore_2 : decode cX12_restore 2 = .ok (.putfield 53, 3) := by decide +kernel
theorem dX12_restore_5 : decode cX12_restore 5 = .ok (.iload_n 1, 1) := by decide +kernel
theorem dX12_restore_6 : decode cX12_restore 6 = .ok (.i2l, 1) := by decide +kernel
theorem dX12_restore_7 : decode cX12_restore 7 = .ok (.lconst 0, 1) := by decide +kernel
theorem dX12_restore_8 : decode cX12_restore 8 = .ok (.lconst 1, 1) := by decide +kernel
theorem dX12_restore_9 : decode cX12_restore 9 = .ok (.invokestatic 63, 3) := by decide +kernel
theorem dX12_restore_12 : decode cX12_restore 12 = .ok (.ifCond .ne 6, 3) := by decide +kernel
theorem dX12_restore_15 : decode cX12_restore 15 = .ok (.ldc 73, 2) := by decide +kernel
theorem dX12_restore_17 : decode cX12_restore 17 = .ok (.ireturn, 1) := by decide +kernel
theorem dX12_restore_18 : decode cX12_restore 18 = .ok (.aload_n 0, 1) := by decide +kernel
theorem dX12_restore_19 : decode cX12_restore 19 = .ok (.getfield 43, 3) := by decide +kernel
theorem dX12_restore_22 : decode cX12_restore 22 = .ok (.iload_n 1, 1) := by decide +kernel
theorem dX12_restore_23 : decode cX12_restore 23 = .ok (.baload, 1) := by decide +kernel
theorem dX12_restore_24 : decode cX12_restore 24 = .ok (.ifCond .ne 6, 3) := by decide +kernel
theorem dX12_restore_27 : decode cX12_restore 27 = .ok (.ldc 219, 2) := by decide +kernel
theorem dX12_restore_29 : decode cX12_restore 29 = .ok (.ireturn, 1) := by decide +kernel
theorem dX12_restore_30 : decode cX12_restore 30 = .ok (.iconst 0, 1) := by decide +kernel
theorem dX12_restore_31 : decode cX12_restore 31 = .ok (.istore_n 2, 1) := by decide +kernel
theorem dX12_restore_32 : decode cX12_restore 32 = .ok (.iload_n 2, 1) := by decide +kernel
theorem dX12_restore_33 : decode cX12_restore 33 = .ok (.bipush 54, 2) := by decide +kernel
theorem dX12_restore_35 : decode cX12_restore 35 = .ok (.if_icmp .ge 26, 3) := by decide +kernel
theorem dX12_restore_38 : decode cX12_restore 38 = .ok (.aload_n 0, 1) := by decide +kernel
theorem dX12_restore_39 : decode cX12_restore 39 = .ok (.getfield 19, 3) := by decide +kernel
theorem dX12_restore_42 : decode cX12_restore 42 = .ok (.iload_n 2, 1) := by decide +kernel
theorem dX12_restore_43 : decode cX12_restore 43 = .ok (.aload_n 0, 1) := by decide +kernel
theorem dX12_restore_44 : decode cX12_restore 44 = .ok (.getfield 47, 3) := by decide +kernel
theorem dX12_restore_47 : decode cX12_restore 47 = .ok (.bipush 54, 2) := by decide +kernel
theorem dX12_restore_49 : decode cX12_restore 49 = .ok (.iload_n 1, 1) := by decide +kernel
theorem dX12_restore_50 : decode cX12_restore 50 = .ok (.imul, 1) := by decide +kernel
theorem dX12_restore_51 : decode cX12_restore 51 = .ok (.iload_n 2, 1) := by decide +kernel
theorem dX12_restore_52 : decode cX12_restore 52 = .ok (.iadd, 1) := by decide +kernel
theorem dX12_restore_53 : decode cX12_restore 53 = .ok (.iaload, 1) := by decide +kernel
theorem dX12_restore_54 : decode cX12_restore 54 = .ok (.iastore, 1) := by decide +kernel
theorem dX12_restore_55 : decode cX12_restore 55 = .ok (.iinc 2 1, 3) := by decide +kernel
theorem dX12_restore_58 : decode cX12_restore 58 = .ok (.goto (-26), 3) := by decide +kernel
theorem dX12_restore_61 : decode cX12_restore 61 = .ok (.aload_n 0, 1) := by decide +kernel
theorem dX12_restore_62 : decode cX12_restore 62 = .ok (.iconst 0, 1) := by decide +kernel
theorem dX12_restore_63 : decode cX12_restore 63 = .ok (.putfield 161, 3) := by decide +kernel
theorem dX12_restore_66 : decode cX12_restore 66 = .ok (.iconst 1, 1) := by decide +kernel
theorem dX12_restore_67 : decode cX12_restore 67 = .ok (.ireturn, 1) := by decide +kernel
theorem dX12_isOf_0 : decode cX12_isOf 0 = .ok (.iload_n 1, 1) := by decide +kernel
theorem dX12_isOf_1 : decode cX12_isOf 1 = .ok (.ifCond .eq 28, 3) := by decide +kernel
theorem dX12_isOf_4 : decode cX12_isOf 4 = .ok (.iload_n 0, 1) := by decide +kernel
theorem dX12_isOf_5 : decode cX12_isOf 5 = .ok (.iload_n 1, 1) := by decide +kernel
theorem dX12_isOf_6 : decode cX12_isOf 6 = .ok (.if_icmp .eq 23, 3) := by decide +kernel
theorem dX12_isOf_9 : decode cX12_isOf 9 = .ok (.iload_n 1, 1) := by decide +kernel
theorem dX12_isOf_10 : decode cX12_isOf 10 = .ok (.iconst 1, 1) := by decide +kernel
theorem dX12_isOf_11 : decode cX12_isOf 11 = .ok (.if_icmp .ne 8, 3) := by decide +kernel
theorem dX12_isOf_14 : decode cX12_isOf 14 = .ok (.iload_n 0, 1) := by decide +kernel
theorem dX12_isOf_15 : decode cX12_isOf 15 = .ok (.iconst 4, 1) := by decide +kernel
theorem dX12_isOf_16 : decode cX12_isOf 16 = .ok (.if_icmp .lt 13, 3) := by decide +kernel
theorem dX12_isOf_19 : decode cX12_isOf 19 = .ok (.iload_n 1, 1) := by decide +kernel
theorem dX12_isOf_20 : decode cX12_isOf 20 = .ok (.iconst 4, 1) := by decide +kernel
theorem dX12_isOf_21 : decode cX12_isOf 21 = .ok (.if_icmp .ne 12, 3) := by decide +kernel
theorem dX12_isOf_24 : decode cX12_isOf 24 = .ok (.iload_n 0, 1) := by decide +kernel
theorem dX12_isOf_25 : decode cX12_isOf 25 = .ok (.iconst 5, 1) := by decide +kernel
theorem dX12_isOf_26 : decode cX12_isOf 26 = .ok (.if_icmp .ne 7, 3) := by decide +kernel
theorem dX12_isOf_29 : decode cX12_isOf 29 = .ok (.iconst 1, 1) := by decide +kernel
theorem dX12_isOf_30 : decode cX12_isOf 30 = .ok (.goto 4, 3) := by decide +kernel
theorem dX12_isOf_33 : decode cX12_isOf 33 = .ok (.iconst 0, 1) := by decide +kernel
theorem dX12_isOf_34 : decode cX12_isOf 34 = .ok (.ireturn, 1) := by decide +kernel
theorem dX12_kind_0 : decode cX12_kind 0 = .ok (.aload_n 0, 1) := by decide +kernel
theorem dX12_kind_1 : decode cX12_kind 1 = .ok (.iconst 0, 1) := by decide +kernel
theorem dX12_kind_2 : decode cX12_kind 2 = .ok (.putfield 53, 3) := by decide +kernel
theorem dX12_kind_5 : decode cX12_kind 5 = .ok (.aload_n 0, 1) := by decide +kernel
theorem dX12_kind_6 : decode cX12_kind 6 = .ok (.iload_n 1, 1) := by decide +kernel
theorem dX12_kind_7 : decode cX12_kind 7 = .ok (.invokevirtual 236, 3) := by decide +kernel
theorem dX12_kind_10 : decode cX12_kind 10 = .ok (.ifCond .eq 15, 3) := by decide +kernel
theorem dX12_kind_13 : decode cX12_kind 13 = .ok (.aload_n 0, 1) := by decide +kernel
theorem dX12_kind_14 : decode cX12_kind 14 = .ok (.getfield 19, 3) := by decide +kernel
theorem dX12_kind_17 : decode cX12_kind 17 = .ok (.iload_n 1, 1) := by decide +kernel
theorem dX12_kind_18 : decode cX12_kind 18 = .ok (.iconst 0, 1) := by decide +kernel
theorem dX12_kind_19 : decode cX12_kind 19 = .ok (.invokestatic 167, 3) := by decide +kernel
theorem dX12_kind_22 : decode cX12_kind 22 = .ok (.goto 5, 3) := by decide +kernel
theorem dX12_kind_25 : decode cX12_kind 25 = .ok (.ldc 73, 2) := by decide +kernel
theorem dX12_kind_27 : decode cX12_kind 27 = .ok (.ireturn, 1) := by decide +kernel
theorem dX12_as_0 : decode cX12_as 0 = .ok (.aload_n 0, 1) := by decide +kernel
theorem dX12_as_1 : decode cX12_as 1 = .ok (.iconst 0, 1) := by decide +kernel
theorem dX12_as_2 : decode cX12_as 2 = .ok (.putfield 53, 3) := by decide +kernel
theorem dX12_as_5 : decode cX12_as 5 = .ok (.aload_n 0, 1) := by decide +kernel
theorem dX12_as_6 : decode cX12_as 6 = .ok (.iload_n 1, 1) := by decide +kernel
theorem dX12_as_7 : decode cX12_as 7 = .ok (.invokevirtual 236, 3) := by decide +kernel
theorem dX12_as_10 : decode cX12_as 10 = .ok (.ifCond .eq 15, 3) := by decide +kernel
theorem dX12_as_13 : decode cX12_as 13 = .ok (.iload_n 2, 1) := by decide +kernel
theorem dX12_as_14 : decode cX12_as 14 = .ok (.i2l, 1) := by decide +kernel
theorem dX12_as_15 : decode cX12_as 15 = .ok (.lconst 0, 1) := by decide +kernel
theorem dX12_as_16 : decode cX12_as 16 = .ok (.ldc2_w 300, 3) := by decide +kernel
theorem dX12_as_19 : decode cX12_as 19 = .ok (.invokestatic 63, 3) := by decide +kernel
theorem dX12_as_22 : decode cX12_as 22 = .ok (.ifCond .ne 6, 3) := by decide +kernel
theorem dX12_as_25 : decode cX12_as 25 = .ok (.ldc 73, 2) := by decide +kernel
theorem dX12_as_27 : decode cX12_as 27 = .ok (.ireturn, 1) := by decide +kernel
theorem dX12_as_28 : decode cX12_as 28 = .ok (.aload_n 0, 1) := by decide +kernel
theorem dX12_as_29 : decode cX12_as 29 = .ok (.iconst 0, 1) := by decide +kernel
theorem dX12_as_30 : decode cX12_as 30 = .ok (.putfield 57, 3) := by decide +kernel
theorem dX12_as_33 : decode cX12_as 33 = .ok (.aload_n 0, 1) := by decide +kernel
theorem dX12_as_34 : decode cX12_as 34 = .ok (.getfield 19, 3) := by decide +kernel
theorem dX12_as_37 : decode cX12_as 37 = .ok (.iload_n 1, 1) := by decide +kernel
theorem dX12_as_38 : decode cX12_as 38 = .ok (.iconst 0, 1) := by decide +kernel
theorem dX12_as_39 : decode cX12_as 39 = .ok (.invokestatic 167, 3) := by decide +kernel
theorem dX12_as_42 : decode cX12_as 42 = .ok (.iload_n 2, 1) := by decide +kernel
theorem dX12_as_43 : decode cX12_as 43 = .ok (.invokestatic 302, 3) := by decide +kernel
theorem dX12_as_46 : decode cX12_as 46 = .ok (.ifCond .eq 7, 3) := by decide +kernel
theorem dX12_as_49 : decode cX12_as 49 = .ok (.iload_n 1, 1) := by decide +kernel
theorem dX12_as_50 : decode cX12_as 50 = .ok (.goto 8, 3) := by decide +kernel
theorem dX12_as_53 : decode cX12_as 53 = .ok (.aload_n 0, 1) := by decide +kernel
theorem dX12_as_54 : decode cX12_as 54 = .ok (.iconst 3, 1) := by decide +kernel
theorem dX12_as_55 : decode cX12_as 55 = .ok (.invokevirtual 74, 3) := by decide +kernel
theorem dX12_as_58 : decode cX12_as 58 = .ok (.ireturn, 1) := by decide +kernel
theorem dX12_began_0 : decode cX12_began 0 = .ok (.aload_n 0, 1) := by decide +kernel
theorem dX12_began_1 : decode cX12_began 1 = .ok (.getfield 305, 3) := by decide +kernel
theorem dX12_began_4 : decode cX12_began 4 = .ok (.bipush 16, 2) := by decide +kernel
theorem dX12_began_6 : decode cX12_began 6 = .ok (.if_icmp .ge 23, 3) := by decide +kernel
theorem dX12_began_9 : decode cX12_began 9 = .ok (.aload_n 0, 1) := by decide +kernel
theorem dX12_began_10 : decode cX12_began 10 = .ok (.getfield 50, 3) := by decide +kernel
theorem dX12_began_13 : decode cX12_began 13 = .ok (.aload_n 0, 1) := by decide +kernel
theorem dX12_began_14 : decode cX12_began 14 = .ok (.getfield 305, 3) := by decide +kernel
theorem dX12_began_17 : decode cX12_began 17 = .ok (.iload_n 1, 1) := by decide +kernel
theorem dX12_began_18 : decode cX12_began 18 = .ok (.iastore, 1) := by decide +kernel
theorem dX12_began_19 : decode cX12_began 19 = .ok (.aload_n 0, 1) := by decide +kernel
theorem dX12_began_20 : decode cX12_began 20 = .ok (.dup, 1) := by decide +kernel
theorem dX12_began_21 : decode cX12_began 21 = .ok (.getfield 305, 3) := by decide +kernel
theorem dX12_began_24 : decode cX12_began 24 = .ok (.iconst 1, 1) := by decide +kernel
theorem dX12_began_25 : decode cX12_began 25 = .ok (.iadd, 1) := by decide +kernel
theorem dX12_began_26 : decode cX12_began 26 = .ok (.putfield 305, 3) := by decide +kernel
theorem dX12_began_29 : decode cX12_began 29 = .ok (.return_, 1) := by decide +kernel
theorem dX12_plainSize_0 : decode cX12_plainSize 0 = .ok (.aload_n 0, 1) := by decide +kernel
theorem dX12_plainSize_1 : decode cX12_plainSize 1 = .ok (.bipush 10, 2) := by decide +kernel
theorem dX12_plainSize_3 : decode cX12_plainSize 3 = .ok (.invokevirtual 308, 3) := by decide +kernel
theorem dX12_plainSize_6 : decode cX12_plainSize 6 = .ok (.aload_n 0, 1) := by decide +kernel
theorem dX12_plainSize_7 : decode cX12_plainSize 7 = .ok (.getfield 19, 3) := by decide +kernel
theorem dX12_plainSize_10 : decode cX12_plainSize 10 = .ok (.iload_n 1, 1) := by decide +kernel
theorem dX12_plainSize_11 : decode cX12_plainSize 11 = .ok (.iconst 3, 1) := by decide +kernel
theorem dX12_plainSize_12 : decode cX12_plainSize 12 = .ok (.invokestatic 167, 3) := by decide +kernel
theorem dX12_plainSize_15 : decode cX12_plainSize 15 = .ok (.ireturn, 1) := by decide +kernel
theorem dX12_lockSize_0 : decode cX12_lockSize 0 = .ok (.aload_n 0, 1) := by decide +kernel
theorem dX12_lockSize_1 : decode cX12_lockSize 1 = .ok (.getfield 19, 3) := by decide +kernel
theorem dX12_lockSize_4 : decode cX12_lockSize 4 = .ok (.iload_n 1, 1) := by decide +kernel
theorem dX12_lockSize_5 : decode cX12_lockSize 5 = .ok (.iconst 0, 1) := by decide +kernel
theorem dX12_lockSize_6 : decode cX12_lockSize 6 = .ok (.invokestatic 167, 3) := by decide +kernel
theorem dX12_lockSize_9 : decode cX12_lockSize 9 = .ok (.iconst 5, 1) := by decide +kernel
theorem dX12_lockSize_10 : decode cX12_lockSize 10 = .ok (.if_icmp .ne 7, 3) := by decide +kernel
theorem dX12_lockSize_13 : decode cX12_lockSize 13 = .ok (.iconst 1, 1) := by decide +kernel
theorem dX12_lockSize_14 : decode cX12_lockSize 14 = .ok (.goto 4, 3) := by decide +kernel
theorem dX12_lockSize_17 : decode cX12_lockSize 17 = .ok (.iconst 0, 1) := by decide +kernel
theorem dX12_lockSize_18 : decode cX12_lockSize 18 = .ok (.istore_n 2, 1) := by decide +kernel
theorem dX12_lockSize_19 : decode cX12_lockSize 19 = .ok (.iload_n 2, 1) := by decide +kernel
theorem dX12_lockSize_20 : decode cX12_lockSize 20 = .ok (.ifCond .eq 9, 3) := by decide +kernel
theorem dX12_lockSize_23 : decode cX12_lockSize 23 = .ok (.aload_n 0, 1) := by decide +kernel
theorem dX12_lockSize_24 : decode cX12_lockSize 24 = .ok (.bipush 14, 2) := by decide +kernel
theorem dX12_lockSize_26 : decode cX12_lockSize 26 = .ok (.invokevirtual 308, 3) := by decide +kernel
theorem dX12_lockSize_29 : decode cX12_lockSize 29 = .ok (.aload_n 0, 1) := by decide +kernel
theorem dX12_lockSize_30 : decode cX12_lockSize 30 = .ok (.bipush 13, 2) := by decide +kernel
theorem dX12_lockSize_32 : decode cX12_lockSize 32 = .ok (.invokevirtual 308, 3) := by decide +kernel
theorem dX12_lockSize_35 : decode cX12_lockSize 35 = .ok (.aload_n 0, 1) := by decide +kernel
theorem dX12_lockSize_36 : decode cX12_lockSize 36 = .ok (.iload_n 1, 1) := by decide +kernel
theorem dX12_lockSize_37 : decode cX12_lockSize 37 = .ok (.invokevirtual 311, 3) := by decide +kernel
theorem dX12_lockSize_40 : decode cX12_lockSize 40 = .ok (.bipush 100, 2) := by decide +kernel
theorem dX12_lockSize_42 : decode cX12_lockSize 42 = .ok (.isub, 1) := by decide +kernel
theorem dX12_lockSize_43 : decode cX12_lockSize 43 = .ok (.istore_n 3, 1) := by decide +kernel
theorem dX12_lockSize_44 : decode cX12_lockSize 44 = .ok (.iload_n 2, 1) := by decide +kernel
theorem dX12_lockSize_45 : decode cX12_lockSize 45 = .ok (.ifCond .eq 9, 3) := by decide +kernel
theorem dX12_lockSize_48 : decode cX12_lockSize 48 = .ok (.iconst 2, 1) := by decide +kernel
theorem dX12_lockSize_49 : decode cX12_lockSize 49 = .ok (.iload_n 3, 1) := by decide +kernel
theorem dX12_lockSize_50 : decode cX12_lockSize 50 = .ok (.imul, 1) := by decide +kernel
theorem dX12_lockSize_51 : decode cX12_lockSize 51 = .ok (.goto 4, 3) := by decide +kernel
theorem dX12_lockSize_54 : decode cX12_lockSize 54 = .ok (.iload_n 3, 1) := by decide +kernel
theorem dX12_lockSize_55 : decode cX12_lockSize 55 = .ok (.ireturn, 1) := by decide +kernel
theorem dX12_markOf_0 : decode cX12_markOf 0 = .ok (.aload_n 0, 1) := by decide +kernel
theorem dX12_markOf_1 : decode cX12_markOf 1 = .ok (.getfield 19, 3) := by decide +kernel
theorem dX12_markOf_4 : decode cX12_markOf 4 = .ok (.iload_n 1, 1) := by decide +kernel
theorem dX12_markOf_5 : decode cX12_markOf 5 = .ok (.iconst 0, 1) := by decide +kernel
theorem dX12_markOf_6 : decode cX12_markOf 6 = .ok (.invokestatic 167, 3) := by decide +kernel
theorem dX12_markOf_9 : decode cX12_markOf 9 = .ok (.istore_n 2, 1) := by decide +kernel
theorem dX12_markOf_10 : decode cX12_markOf 10 = .ok (.iload_n 2, 1) := by decide +kernel
theorem dX12_markOf_11 : decode cX12_markOf 11 = .ok (.iconst 4, 1) := by decide +kernel
theorem dX12_markOf_12 : decode cX12_markOf 12 = .ok (.if_icmp .lt 23, 3) := by decide +kernel
theorem dX12_markOf_15 : decode cX12_markOf 15 = .ok (.aload_n 0, 1) := by decide +kernel
theorem dX12_markOf_16 : decode cX12_markOf 16 = .ok (.bipush 23, 2) := by decide +kernel
theorem dX12_markOf_18 : decode cX12_markOf 18 = .ok (.invokevirtual 308, 3) := by decide +kernel
theorem dX12_markOf_21 : decode cX12_markOf 21 = .ok (.aload_n 0, 1) := by decide +kernel
theorem dX12_markOf_22 : decode cX12_markOf 22 = .ok (.bipush 20, 2) := by decide +kernel
theorem dX12_markOf_24 : decode cX12_markOf 24 = .ok (.invokevirtual 308, 3) := by decide +kernel
theorem dX12_markOf_27 : decode cX12_markOf 27 = .ok (.iload_n 1, 1) := by decide +kernel
theorem dX12_markOf_28 : decode cX12_markOf 28 = .ok (.aload_n 0, 1) := by decide +kernel
theorem dX12_markOf_29 : decode cX12_markOf 29 = .ok (.iload_n 1, 1) := by decide +kernel
theorem dX12_markOf_30 : decode cX12_markOf 30 = .ok (.invokevirtual 314, 3) := by decide +kernel
theorem dX12_markOf_33 : decode cX12_markOf 33 = .ok (.isub, 1) := by decide +kernel
theorem dX12_markOf_34 : decode cX12_markOf 34 = .ok (.ireturn, 1) := by decide +kernel
theorem dX12_markOf_35 : decode cX12_markOf 35 = .ok (.iload_n 2, 1) := by decide +kernel
theorem dX12_markOf_36 : decode cX12_markOf 36 = .ok (.iconst 1, 1) := by decide +kernel
theorem dX12_markOf_37 : decode cX12_markOf 37 = .ok (.if_icmp .eq 19, 3) := by decide +kernel
theorem dX12_markOf_40 : decode cX12_markOf 40 = .ok (.aload_n 0, 1) := by decide +kernel
theorem dX12_markOf_41 : decode cX12_markOf 41 = .ok (.iload_n 2, 1) := by decide +kernel
theorem dX12_markOf_42 : decode cX12_markOf 42 = .ok (.iconst 3, 1) := by decide +kernel
theorem dX12_markOf_43 : decode cX12_markOf 43 = .ok (.if_icmp .ne 8, 3) := by decide +kernel
theorem dX12_markOf_46 : decode cX12_markOf 46 = .ok (.bipush 22, 2) := by decide +kernel
theorem dX12_markOf_48 : decode cX12_markOf 48 = .ok (.goto 5, 3) := by decide +kernel
theorem dX12_markOf_51 : decode cX12_markOf 51 = .ok (.bipush 24, 2) := by decide +kernel
theorem dX12_markOf_53 : decode cX12_markOf 53 = .ok (.invokevirtual 308, 3) := by decide +kernel
theorem dX12_markOf_56 : decode cX12_markOf 56 = .ok (.aload_n 0, 1) := by decide +kernel
theorem dX12_markOf_57 : decode cX12_markOf 57 = .ok (.bipush 21, 2) := by decide +kernel
theorem dX12_markOf_59 : decode cX12_markOf 59 = .ok (.invokevirtual 308, 3) := by decide +kernel
theorem dX12_markOf_62 : decode cX12_markOf 62 = .ok (.aload_n 0, 1) := by decide +kernel
theorem dX12_markOf_63 : decode cX12_markOf 63 = .ok (.bipush 20, 2) := by decide +kernel
theorem dX12_markOf_65 : decode cX12_markOf 65 = .ok (.invokevirtual 308, 3) := by decide +kernel
theorem dX12_markOf_68 : decode cX12_markOf 68 = .ok (.iload_n 1, 1) := by decide +kernel
theorem dX12_markOf_69 : decode cX12_markOf 69 = .ok (.aload_n 0, 1) := by decide +kernel
theorem dX12_markOf_70 : decode cX12_markOf 70 = .ok (.getfield 19, 3) := by decide +kernel
theorem dX12_markOf_73 : decode cX12_markOf 73 = .ok (.iload_n 1, 1) := by decide +kernel
theorem dX12_markOf_74 : decode cX12_markOf 74 = .ok (.iconst 4, 1) := by decide +kernel
theorem dX12_markOf_75 : decode cX12_markOf 75 = .ok (.invokestatic 167, 3) := by decide +kernel
theorem dX12_markOf_78 : decode cX12_markOf 78 = .ok (.iadd, 1) := by decide +kernel
theorem dX12_markOf_79 : decode cX12_markOf 79 = .ok (.istore_n 3, 1) := by decide +kernel
theorem dX12_markOf_80 : decode cX12_markOf 80 = .ok (.iload_n 2, 1) := by decide +kernel
theorem dX12_markOf_81 : decode cX12_markOf 81 = .ok (.iconst 1, 1) := by decide +kernel
theorem dX12_markOf_82 : decode cX12_markOf 82 = .ok (.if_icmp .ne 7, 3) := by decide +kernel
theorem dX12_markOf_85 : decode cX12_markOf 85 = .ok (.iload_n 3, 1) := by decide +kernel
theorem dX12_markOf_86 : decode cX12_markOf 86 = .ok (.goto 19, 3) := by decide +kernel
theorem dX12_markOf_89 : decode cX12_markOf 89 = .ok (.iload_n 2, 1) := by decide +kernel
theorem dX12_markOf_90 : decode cX12_markOf 90 = .ok (.iconst 3, 1) := by decide +kernel
theorem dX12_markOf_91 : decode cX12_markOf 91 = .ok (.if_icmp .ne 11, 3) := by decide +kernel
theorem dX12_markOf_94 : decode cX12_markOf 94 = .ok (.iload_n 3, 1) := by decide +kernel
theorem dX12_markOf_95 : decode cX12_markOf 95 = .ok (.sipush 1000, 3) := by decide +kernel
theorem dX12_markOf_98 : decode cX12_markOf 98 = .ok (.isub, 1) := by decide +kernel
theorem dX12_markOf_99 : decode cX12_markOf 99 = .ok (.goto 6, 3) := by decide +kernel
theorem dX12_markOf_102 : decode cX12_markOf 102 = .ok (.iconst 2, 1) := by decide +kernel
theorem dX12_markOf_103 : decode cX12_markOf 103 = .ok (.iload_n 3, 1) := by decide +kernel
theorem dX12_markOf_104 : decode cX12_markOf 104 = .ok (.imul, 1) := by decide +kernel
theorem dX12_markOf_105 : decode cX12_markOf 105 = .ok (.ireturn, 1) := by decide +kernel
theorem dX12_sizeOf_0 : decode cX12_sizeOf 0 = .ok (.aload_n 0, 1) := by decide +kernel
theorem dX12_sizeOf_1 : decode cX12_sizeOf 1 = .ok (.getfield 19, 3) := by decide +kernel
theorem dX12_sizeOf_4 : decode cX12_sizeOf 4 = .ok (.iload_n 1, 1) := by decide +kernel
theorem dX12_sizeOf_5 : decode cX12_sizeOf 5 = .ok (.iconst 0, 1) := by decide +kernel
theorem dX12_sizeOf_6 : decode cX12_sizeOf 6 = .ok (.invokestatic 167, 3) := by decide +kernel
theorem dX12_sizeOf_9 : decode cX12_sizeOf 9 = .ok (.istore_n 2, 1) := by decide +kernel
theorem dX12_sizeOf_10 : decode cX12_sizeOf 10 = .ok (.iload_n 2, 1) := by decide +kernel
theorem dX12_sizeOf_11 : decode cX12_sizeOf 11 = .ok (.iconst 4, 1) := by decide +kernel
theorem dX12_sizeOf_12 : decode cX12_sizeOf 12 = .ok (.if_icmp .lt 9, 3) := by decide +kernel
theorem dX12_sizeOf_15 : decode cX12_sizeOf 15 = .ok (.aload_n 0, 1) := by decide +kernel
theorem dX12_sizeOf_16 : decode cX12_sizeOf 16 = .ok (.iload_n 1, 1) := by decide +kernel
theorem dX12_sizeOf_17 : decode cX12_sizeOf 17 = .ok (.invokevirtual 314, 3) := by decide +kernel
theorem dX12_sizeOf_20 : decode cX12_sizeOf 20 = .ok (.ireturn, 1) := by decide +kernel
theorem dX12_sizeOf_21 : decode cX12_sizeOf 21 = .ok (.iload_n 2, 1) := by decide +kernel
theorem dX12_sizeOf_22 : decode cX12_sizeOf 22 = .ok (.iconst 2, 1) := by decide +kernel
theorem dX12_sizeOf_23 : decode cX12_sizeOf 23 = .ok (.if_icmp .ne 9, 3) := by decide +kernel
theorem dX12_sizeOf_26 : decode cX12_sizeOf 26 = .ok (.aload_n 0, 1) := by decide +kernel
theorem dX12_sizeOf_27 : decode cX12_sizeOf 27 = .ok (.bipush 12, 2) := by decide +kernel
theorem dX12_sizeOf_29 : decode cX12_sizeOf 29 = .ok (.invokevirtual 308, 3) := by decide +kernel
theorem dX12_sizeOf_32 : decode cX12_sizeOf 32 = .ok (.aload_n 0, 1) := by decide +kernel
theorem dX12_sizeOf_33 : decode cX12_sizeOf 33 = .ok (.bipush 11, 2) := by decide +kernel
theorem dX12_sizeOf_35 : decode cX12_sizeOf 35 = .ok (.invokevirtual 308, 3) := by decide +kernel
theorem dX12_sizeOf_38 : decode cX12_sizeOf 38 = .ok (.aload_n 0, 1) := by decide +kernel
theorem dX12_sizeOf_39 : decode cX12_sizeOf 39 = .ok (.iload_n 1, 1) := by decide +kernel
theorem dX12_sizeOf_40 : decode cX12_sizeOf 40 = .ok (.invokevirtual 311, 3) := by decide +kernel
theorem dX12_sizeOf_43 : decode cX12_sizeOf 43 = .ok (.istore_n 3, 1) := by decide +kernel
theorem dX12_sizeOf_44 : decode cX12_sizeOf 44 = .ok (.iload_n 3, 1) := by decide +kernel
theorem dX12_sizeOf_45 : decode cX12_sizeOf 45 = .ok (.aload_n 0, 1) := by decide +kernel
theorem dX12_sizeOf_46 : decode cX12_sizeOf 46 = .ok (.iload_n 1, 1) := by decide +kernel
theorem dX12_sizeOf_47 : decode cX12_sizeOf 47 = .ok (.invokevirtual 317, 3) := by decide +kernel
theorem dX12_sizeOf_50 : decode cX12_sizeOf 50 = .ok (.iadd, 1) := by decide +kernel
theorem dX12_sizeOf_51 : decode cX12_sizeOf 51 = .ok (.istore_n 3, 1) := by decide +kernel
theorem dX12_sizeOf_52 : decode cX12_sizeOf 52 = .ok (.iload_n 2, 1) := by decide +kernel
theorem dX12_sizeOf_53 : decode cX12_sizeOf 53 = .ok (.iconst 2, 1) := by decide +kernel
theorem dX12_sizeOf_54 : decode cX12_sizeOf 54 = .ok (.if_icmp .ne 8, 3) := by decide +kernel
theorem dX12_sizeOf_57 : decode cX12_sizeOf 57 = .ok (.iload_n 3, 1) := by decide +kernel
theorem dX12_sizeOf_58 : decode cX12_sizeOf 58 = .ok (.ineg, 1) := by decide +kernel
theorem dX12_sizeOf_59 : decode cX12_sizeOf 59 = .ok (.goto 4, 3) := by decide +kernel
theorem dX12_sizeOf_62 : decode cX12_sizeOf 62 = .ok (.iload_n 3, 1) := by decide +kernel
theorem dX12_sizeOf_63 : decode cX12_sizeOf 63 = .ok (.ireturn, 1) := by decide +kernel
theorem dX12_ask_0 : decode cX12_ask 0 = .ok (.aload_n 0, 1) := by decide +kernel
theorem dX12_ask_1 : decode cX12_ask 1 = .ok (.iconst 0, 1) := by decide +kernel
theorem dX12_ask_2 : decode cX12_ask 2 = .ok (.putfield 53, 3) := by decide +kernel
theorem dX12_ask_5 : decode cX12_ask 5 = .ok (.aload_n 0, 1) := by decide +kernel
theorem dX12_ask_6 : decode cX12_ask 6 = .ok (.iload_n 1, 1) := by decide +kernel
theorem dX12_ask_7 : decode cX12_ask 7 = .ok (.invokevirtual 236, 3) := by decide +kernel
theorem dX12_ask_10 : decode cX12_ask 10 = .ok (.ifCond .eq 13, 3) := by decide +kernel
theorem dX12_ask_13 : decode cX12_ask 13 = .ok (.iload_n 2, 1) := by decide +kernel
theorem dX12_ask_14 : decode cX12_ask 14 = .ok (.i2l, 1) := by decide +kernel
theorem dX12_ask_15 : decode cX12_ask 15 = .ok (.lconst 0, 1) := by decide +kernel
theorem dX12_ask_16 : decode cX12_ask 16 = .ok (.lconst 1, 1) := by decide +kernel
theorem dX12_ask_17 : decode cX12_ask 17 = .ok (.invokestatic 63, 3) := by decide +kernel
theorem dX12_ask_20 : decode cX12_ask 20 = .ok (.ifCond .ne 6, 3) := by decide +kernel
theorem dX12_ask_23 : decode cX12_ask 23 = .ok (.ldc 73, 2) := by decide +kernel
theorem dX12_ask_25 : decode cX12_ask 25 = .ok (.ireturn, 1) := by decide +kernel
theorem dX12_ask_26 : decode cX12_ask 26 = .ok (.aload_n 0, 1) := by decide +kernel
theorem dX12_ask_27 : decode cX12_ask 27 = .ok (.iconst 0, 1) := by decide +kernel
theorem dX12_ask_28 : decode cX12_ask 28 = .ok (.putfield 305, 3) := by decide +kernel
theorem dX12_ask_31 : decode cX12_ask 31 = .ok (.iload_n 2, 1) := by decide +kernel
theorem dX12_ask_32 : decode cX12_ask 32 = .ok (.ifCond .ne 11, 3) := by decide +kernel
theorem dX12_ask_35 : decode cX12_ask 35 = .ok (.aload_n 0, 1) := by decide +kernel
theorem dX12_ask_36 : decode cX12_ask 36 = .ok (.iload_n 1, 1) := by decide +kernel
theorem dX12_ask_37 : decode cX12_ask 37 = .ok (.invokevirtual 320, 3) := by decide +kernel
theorem dX12_ask_40 : decode cX12_ask 40 = .ok (.goto 8, 3) := by decide +kernel
theorem dX12_ask_43 : decode cX12_ask 43 = .ok (.aload_n 0, 1) := by decide +kernel
theorem dX12_ask_44 : decode cX12_ask 44 = .ok (.iload_n 1, 1) := by decide +kernel
theorem dX12_ask_45 : decode cX12_ask 45 = .ok (.invokevirtual 317, 3) := by decide +kernel
theorem dX12_ask_48 : decode cX12_ask 48 = .ok (.ireturn, 1) := by decide +kernel
theorem dX12_trace_0 : decode cX12_trace 0 = .ok (.aload_n 0, 1) := by decide +kernel
theorem dX12_trace_1 : decode cX12_trace 1 = .ok (.iconst 0, 1) := by decide +kernel
theorem dX12_trace_2 : decode cX12_trace 2 = .ok (.putfield 53, 3) := by decide +kernel
theorem dX12_trace_5 : decode cX12_trace 5 = .ok (.iload_n 1, 1) := by decide +kernel
theorem dX12_trace_6 : decode cX12_trace 6 = .ok (.i2l, 1) := by decide +kernel
theorem dX12_trace_7 : decode cX12_trace 7 = .ok (.lconst 0, 1) := by decide +kernel
theorem dX12_trace_8 : decode cX12_trace 8 = .ok (.aload_n 0, 1) := by decide +kernel
theorem dX12_trace_9 : decode cX12_trace 9 = .ok (.getfield 305, 3) := by decide +kernel
theorem dX12_trace_12 : decode cX12_trace 12 = .ok (.iconst 1, 1) := by decide +kernel
theorem dX12_trace_13 : decode cX12_trace 13 = .ok (.isub, 1) := by decide +kernel
theorem dX12_trace_14 : decode cX12_trace 14 = .ok (.i2l, 1) := by decide +kernel
theorem dX12_trace_15 : decode cX12_trace 15 = .ok (.invokestatic 63, 3) := by decide +kernel
theorem dX12_trace_18 : decode cX12_trace 18 = .ok (.ifCond .eq 12, 3) := by decide +kernel
theorem dX12_trace_21 : decode cX12_trace 21 = .ok (.aload_n 0, 1) := by decide +kernel
theorem dX12_trace_22 : decode cX12_trace 22 = .ok (.getfield 50, 3) := by decide +kernel
theorem dX12_trace_25 : decode cX12_trace 25 = .ok (.iload_n 1, 1) := by decide +kernel
theorem dX12_trace_26 : decode cX12_trace 26 = .ok (.iaload, 1) := by decide +kernel
theorem dX12_trace_27 : decode cX12_trace 27 = .ok (.goto 5, 3) := by decide +kernel
theorem dX12_trace_30 : decode cX12_trace 30 = .ok (.ldc 96, 2) := by decide +kernel
theorem dX12_trace_32 : decode cX12_trace 32 = .ok (.ireturn, 1) := by decide +kernel
theorem dX12_count_0 : decode cX12_count 0 = .ok (.aload_n 0, 1) := by decide +kernel
theorem dX12_count_1 : decode cX12_count 1 = .ok (.iconst 0, 1) := by decide +kernel
theorem dX12_count_2 : decode cX12_count 2 = .ok (.putfield 53, 3) := by decide +kernel
theorem dX12_count_5 : decode cX12_count 5 = .ok (.iconst 0, 1) := by decide +kernel
theorem dX12_count_6 : decode cX12_count 6 = .ok (.istore_n 2, 1) := by decide +kernel
theorem dX12_count_7 : decode cX12_count 7 = .ok (.iload_n 1, 1) := by decide +kernel
theorem dX12_count_8 : decode cX12_count 8 = .ok (.tableswitch 161 0 8 #[52, 85, 92, 99, 107, 114, 146, 151, 156], 52) := by decide +kernel
theorem dX12_count_60 : decode cX12_count 60 = .ok (.iconst 0, 1) := by decide +kernel
theorem dX12_count_61 : decode cX12_count 61 = .ok (.istore_n 3, 1) := by decide +kernel
theorem dX12_count_62 : decode cX12_count 62 = .ok (.iload_n 3, 1) := by decide +kernel
theorem dX12_count_63 : decode cX12_count 63 = .ok (.bipush 8, 2) := by decide +kernel
theorem dX12_count_65 : decode cX12_count 65 = .ok (.if_icmp .ge 26, 3) := by decide +kernel
theorem dX12_count_68 : decode cX12_count 68 = .ok (.iload_n 2, 1) := by decide +kernel
theorem dX12_count_69 : decode cX12_count 69 = .ok (.aload_n 0, 1) := by decide +kernel
theorem dX12_count_70 : decode cX12_count 70 = .ok (.getfield 7, 3) := by decide +kernel
theorem dX12_count_73 : decode cX12_count 73 = .ok (.iload_n 3, 1) := by decide +kernel
theorem dX12_count_74 : decode cX12_count 74 = .ok (.iaload, 1) := by decide +kernel
theorem dX12_count_75 : decode cX12_count 75 = .ok (.ifCond .lt 7, 3) := by decide +kernel
theorem dX12_count_78 : decode cX12_count 78 = .ok (.iconst 1, 1) := by decide +kernel
theorem dX12_count_79 : decode cX12_count 79 = .ok (.goto 4, 3) := by decide +kernel
theorem dX12_count_82 : decode cX12_count 82 = .ok (.iconst 0, 1) := by decide +kernel
theorem dX12_count_83 : decode cX12_count 83 = .ok (.iadd, 1) := by decide +kernel
theorem dX12_count_84 : decode cX12_count 84 = .ok (.istore_n 2, 1) := by decide +kernel
theorem dX12_count_85 : decode cX12_count 85 = .ok (.iinc 3 1, 3) := by decide +kernel
theorem dX12_count_88 : decode cX12_count 88 = .ok (.goto (-26), 3) := by decide +kernel
theorem dX12_count_91 : decode cX12_count 91 = .ok (.iload_n 2, 1) := by decide +kernel
theorem dX12_count_92 : decode cX12_count 92 = .ok (.ireturn, 1) := by decide +kernel
theorem dX12_count_93 : decode cX12_count 93 = .ok (.aload_n 0, 1) := by decide +kernel
theorem dX12_count_94 : decode cX12_count 94 = .ok (.getfield 19, 3) := by decide +kernel
theorem dX12_count_97 : decode cX12_count 97 = .ok (.iconst 0, 1) := by decide +kernel
theorem dX12_count_98 : decode cX12_count 98 = .ok (.iaload, 1) := by decide +kernel
theorem dX12_count_99 : decode cX12_count 99 = .ok (.ireturn, 1) := by decide +kernel
theorem dX12_count_100 : decode cX12_count 100 = .ok (.aload_n 0, 1) := by decide +kernel
theorem dX12_count_101 : decode cX12_count 101 = .ok (.getfield 19, 3) := by decide +kernel
theorem dX12_count_104 : decode cX12_count 104 = .ok (.iconst 1, 1) := by decide +kernel
theorem dX12_count_105 : decode cX12_count 105 = .ok (.iaload, 1) := by decide +kernel
theorem dX12_count_106 : decode cX12_count 106 = .ok (.ireturn, 1) := by decide +kernel
theorem dX12_count_107 : decode cX12_count 107 = .ok (.aload_n 0, 1) := by decide +kernel
theorem dX12_count_108 : decode cX12_count 108 = .ok (.getfield 19, 3) := by decide +kernel
theorem dX12_count_111 : decode cX12_count 111 = .ok (.invokestatic 244, 3) := by decide +kernel
theorem dX12_count_114 : decode cX12_count 114 = .ok (.ireturn, 1) := by decide +kernel
theorem dX12_count_115 : decode cX12_count 115 = .ok (.aload_n 0, 1) := by decide +kernel
theorem dX12_count_116 : decode cX12_count 116 = .ok (.getfield 19, 3) := by decide +kernel
theorem dX12_count_119 : decode cX12_count 119 = .ok (.iconst 5, 1) := by decide +kernel
theorem dX12_count_120 : decode cX12_count 120 = .ok (.iaload, 1) := by decide +kernel
theorem dX12_count_121 : decode cX12_count 121 = .ok (.ireturn, 1) := by decide +kernel
theorem dX12_count_122 : decode cX12_count 122 = .ok (.iconst 0, 1) := by decide +kernel
theorem dX12_count_123 : decode cX12_count 123 = .ok (.istore_n 3, 1) := by decide +kernel
theorem dX12_count_124 : decode cX12_count 124 = .ok (.iload_n 3, 1) := by decide +kernel
theorem dX12_count_125 : decode cX12_count 125 = .ok (.aload_n 0, 1) := by decide +kernel
theorem dX12_count_126 : decode cX12_count 126 = .ok (.getfield 19, 3) := by decide +kernel
theorem dX12_count_129 : decode cX12_count 129 = .ok (.iconst 0, 1) := by decide +kernel
theorem dX12_count_130 : decode cX12_count 130 = .ok (.iaload, 1) := by decide +kernel
theorem dX12_count_131 : decode cX12_count 131 = .ok (.if_icmp .ge 21, 3) := by decide +kernel
theorem dX12_count_134 : decode cX12_count 134 = .ok (.iload_n 2, 1) := by decide +kernel
theorem dX12_count_135 : decode cX12_count 135 = .ok (.aload_n 0, 1) := by decide +kernel
theorem dX12_count_136 : decode cX12_count 136 = .ok (.getfield 19, 3) := by decide +kernel
theorem dX12_count_139 : decode cX12_count 139 = .ok (.iload_n 3, 1) := by decide +kernel
theorem dX12_count_140 : decode cX12_count 140 = .ok (.iconst 4, 1) := by decide +kernel
theorem dX12_count_141 : decode cX12_count 141 = .ok (.invokestatic 167, 3) := by decide +kernel
theorem dX12_count_144 : decode cX12_count 144 = .ok (.iadd, 1) := by decide +kernel
theorem dX12_count_145 : decode cX12_count 145 = .ok (.istore_n 2, 1) := by decide +kernel
theorem dX12_count_146 : decode cX12_count 146 = .ok (.iinc 3 1, 3) := by decide +kernel
theorem dX12_count_149 : decode cX12_count 149 = .ok (.goto (-25), 3) := by decide +kernel
theorem dX12_count_152 : decode cX12_count 152 = .ok (.iload_n 2, 1) := by decide +kernel
theorem dX12_count_153 : decode cX12_count 153 = .ok (.ireturn, 1) := by decide +kernel
theorem dX12_count_154 : decode cX12_count 154 = .ok (.aload_n 0, 1) := by decide +kernel
theorem dX12_count_155 : decode cX12_count 155 = .ok (.getfield 164, 3) := by decide +kernel
theorem dX12_count_158 : decode cX12_count 158 = .ok (.ireturn, 1) := by decide +kernel
theorem dX12_count_159 : decode cX12_count 159 = .ok (.aload_n 0, 1) := by decide +kernel
theorem dX12_count_160 : decode cX12_count 160 = .ok (.getfield 161, 3) := by decide +kernel
theorem dX12_count_163 : decode cX12_count 163 = .ok (.ireturn, 1) := by decide +kernel
theorem dX12_count_164 : decode cX12_count 164 = .ok (.aload_n 0, 1) := by decide +kernel
theorem dX12_count_165 : decode cX12_count 165 = .ok (.getfield 80, 3) := by decide +kernel
theorem dX12_count_168 : decode cX12_count 168 = .ok (.ireturn, 1) := by decide +kernel
theorem dX12_count_169 : decode cX12_count 169 = .ok (.ldc 73, 2) := by decide +kernel
theorem dX12_count_171 : decode cX12_count 171 = .ok (.ireturn, 1) := by decide +kernel
theorem dX12_status_0 : decode cX12_status 0 = .ok (.aload_n 0, 1) := by decide +kernel
theorem dX12_status_1 : decode cX12_status 1 = .ok (.iconst 0, 1) := by decide +kernel
theorem dX12_status_2 : decode cX12_status 2 = .ok (.putfield 53, 3) := by decide +kernel
theorem dX12_status_5 : decode cX12_status 5 = .ok (.aload_n 0, 1) := by decide +kernel
theorem dX12_status_6 : decode cX12_status 6 = .ok (.getfield 57, 3) := by decide +kernel
theorem dX12_status_9 : decode cX12_status 9 = .ok (.ireturn, 1) := by decide +kernel
