theorem dX0_init_0 : decode cX0_init 0 = .ok (.aload_n 0, 1) := by decide +kernel
theorem dX0_init_1 : decode cX0_init 1 = .ok (.iload_n 1, 1) := by decide +kernel
theorem dX0_init_2 : decode cX0_init 2 = .ok (.iload_n 2, 1) := by decide +kernel
theorem dX0_init_3 : decode cX0_init 3 = .ok (.iload_n 3, 1) := by decide +kernel
theorem dX0_init_4 : decode cX0_init 4 = .ok (.iload 4, 2) := by decide +kernel
theorem dX0_init_6 : decode cX0_init 6 = .ok (.invokespecial 1, 3) := by decide +kernel
theorem dX0_init_9 : decode cX0_init 9 = .ok (.return_, 1) := by decide +kernel
theorem dX0_sort_0 : decode cX0_sort 0 = .ok (.iconst 2, 1) := by decide +kernel
theorem dX0_sort_1 : decode cX0_sort 1 = .ok (.ireturn, 1) := by decide +kernel
theorem dX0_is_0 : decode cX0_is 0 = .ok (.iload_n 1, 1) := by decide +kernel
theorem dX0_is_1 : decode cX0_is 1 = .ok (.iconst 2, 1) := by decide +kernel
theorem dX0_is_2 : decode cX0_is 2 = .ok (.if_icmp .eq 11, 3) := by decide +kernel
theorem dX0_is_5 : decode cX0_is 5 = .ok (.aload_n 0, 1) := by decide +kernel
theorem dX0_is_6 : decode cX0_is 6 = .ok (.iload_n 1, 1) := by decide +kernel
theorem dX0_is_7 : decode cX0_is 7 = .ok (.invokespecial 7, 3) := by decide +kernel
theorem dX0_is_10 : decode cX0_is 10 = .ok (.ifCond .eq 7, 3) := by decide +kernel
theorem dX0_is_13 : decode cX0_is 13 = .ok (.iconst 1, 1) := by decide +kernel
theorem dX0_is_14 : decode cX0_is 14 = .ok (.goto 4, 3) := by decide +kernel
theorem dX0_is_17 : decode cX0_is 17 = .ok (.iconst 0, 1) := by decide +kernel
theorem dX0_is_18 : decode cX0_is 18 = .ok (.ireturn, 1) := by decide +kernel
theorem dX0_loud_0 : decode cX0_loud 0 = .ok (.aload_n 0, 1) := by decide +kernel
theorem dX0_loud_1 : decode cX0_loud 1 = .ok (.getfield 11, 3) := by decide +kernel
theorem dX0_loud_4 : decode cX0_loud 4 = .ok (.iconst 2, 1) := by decide +kernel
theorem dX0_loud_5 : decode cX0_loud 5 = .ok (.idiv, 1) := by decide +kernel
theorem dX0_loud_6 : decode cX0_loud 6 = .ok (.ireturn, 1) := by decide +kernel
theorem dX0_gap_0 : decode cX0_gap 0 = .ok (.iconst 2, 1) := by decide +kernel
theorem dX0_gap_1 : decode cX0_gap 1 = .ok (.ireturn, 1) := by decide +kernel
theorem dX0_size_0 : decode cX0_size 0 = .ok (.aload_n 2, 1) := by decide +kernel
theorem dX0_size_1 : decode cX0_size 1 = .ok (.bipush 12, 2) := by decide +kernel
theorem dX0_size_3 : decode cX0_size 3 = .ok (.invokevirtual 17, 3) := by decide +kernel
theorem dX0_size_6 : decode cX0_size 6 = .ok (.aload_n 0, 1) := by decide +kernel
theorem dX0_size_7 : decode cX0_size 7 = .ok (.iload_n 1, 1) := by decide +kernel
theorem dX0_size_8 : decode cX0_size 8 = .ok (.aload_n 2, 1) := by decide +kernel
theorem dX0_size_9 : decode cX0_size 9 = .ok (.invokespecial 23, 3) := by decide +kernel
theorem dX0_size_12 : decode cX0_size 12 = .ok (.ineg, 1) := by decide +kernel
theorem dX0_size_13 : decode cX0_size 13 = .ok (.ireturn, 1) := by decide +kernel
theorem dX0_mark_0 : decode cX0_mark 0 = .ok (.aload_n 2, 1) := by decide +kernel
theorem dX0_mark_1 : decode cX0_mark 1 = .ok (.bipush 24, 2) := by decide +kernel
theorem dX0_mark_3 : decode cX0_mark 3 = .ok (.invokevirtual 17, 3) := by decide +kernel
theorem dX0_mark_6 : decode cX0_mark 6 = .ok (.iconst 2, 1) := by decide +kernel
theorem dX0_mark_7 : decode cX0_mark 7 = .ok (.aload_n 0, 1) := by decide +kernel
theorem dX0_mark_8 : decode cX0_mark 8 = .ok (.iload_n 1, 1) := by decide +kernel
theorem dX0_mark_9 : decode cX0_mark 9 = .ok (.aload_n 2, 1) := by decide +kernel
theorem dX0_mark_10 : decode cX0_mark 10 = .ok (.invokespecial 27, 3) := by decide +kernel
theorem dX0_mark_13 : decode cX0_mark 13 = .ok (.imul, 1) := by decide +kernel
theorem dX0_mark_14 : decode cX0_mark 14 = .ok (.ireturn, 1) := by decide +kernel
theorem dX1_init_0 : decode cX1_init 0 = .ok (.aload_n 0, 1) := by decide +kernel
theorem dX1_init_1 : decode cX1_init 1 = .ok (.iload_n 1, 1) := by decide +kernel
theorem dX1_init_2 : decode cX1_init 2 = .ok (.iload_n 2, 1) := by decide +kernel
theorem dX1_init_3 : decode cX1_init 3 = .ok (.iload_n 3, 1) := by decide +kernel
theorem dX1_init_4 : decode cX1_init 4 = .ok (.iload 4, 2) := by decide +kernel
theorem dX1_init_6 : decode cX1_init 6 = .ok (.invokespecial 1, 3) := by decide +kernel
theorem dX1_init_9 : decode cX1_init 9 = .ok (.return_, 1) := by decide +kernel
theorem dX1_sort_0 : decode cX1_sort 0 = .ok (.iconst 3, 1) := by decide +kernel
theorem dX1_sort_1 : decode cX1_sort 1 = .ok (.ireturn, 1) := by decide +kernel
theorem dX1_is_0 : decode cX1_is 0 = .ok (.iload_n 1, 1) := by decide +kernel
theorem dX1_is_1 : decode cX1_is 1 = .ok (.iconst 3, 1) := by decide +kernel
theorem dX1_is_2 : decode cX1_is 2 = .ok (.if_icmp .eq 11, 3) := by decide +kernel
theorem dX1_is_5 : decode cX1_is 5 = .ok (.aload_n 0, 1) := by decide +kernel
theorem dX1_is_6 : decode cX1_is 6 = .ok (.iload_n 1, 1) := by decide +kernel
theorem dX1_is_7 : decode cX1_is 7 = .ok (.invokespecial 7, 3) := by decide +kernel
theorem dX1_is_10 : decode cX1_is 10 = .ok (.ifCond .eq 7, 3) := by decide +kernel
theorem dX1_is_13 : decode cX1_is 13 = .ok (.iconst 1, 1) := by decide +kernel
theorem dX1_is_14 : decode cX1_is 14 = .ok (.goto 4, 3) := by decide +kernel
theorem dX1_is_17 : decode cX1_is 17 = .ok (.iconst 0, 1) := by decide +kernel
theorem dX1_is_18 : decode cX1_is 18 = .ok (.ireturn, 1) := by decide +kernel
theorem dX1_loud_0 : decode cX1_loud 0 = .ok (.aload_n 0, 1) := by decide +kernel
theorem dX1_loud_1 : decode cX1_loud 1 = .ok (.getfield 11, 3) := by decide +kernel
theorem dX1_loud_4 : decode cX1_loud 4 = .ok (.iconst 2, 1) := by decide +kernel
theorem dX1_loud_5 : decode cX1_loud 5 = .ok (.iload_n 1, 1) := by decide +kernel
theorem dX1_loud_6 : decode cX1_loud 6 = .ok (.imul, 1) := by decide +kernel
theorem dX1_loud_7 : decode cX1_loud 7 = .ok (.iadd, 1) := by decide +kernel
theorem dX1_loud_8 : decode cX1_loud 8 = .ok (.ireturn, 1) := by decide +kernel
theorem dX1_mark_0 : decode cX1_mark 0 = .ok (.aload_n 2, 1) := by decide +kernel
theorem dX1_mark_1 : decode cX1_mark 1 = .ok (.bipush 22, 2) := by decide +kernel
theorem dX1_mark_3 : decode cX1_mark 3 = .ok (.invokevirtual 17, 3) := by decide +kernel
theorem dX1_mark_6 : decode cX1_mark 6 = .ok (.aload_n 0, 1) := by decide +kernel
theorem dX1_mark_7 : decode cX1_mark 7 = .ok (.iload_n 1, 1) := by decide +kernel
theorem dX1_mark_8 : decode cX1_mark 8 = .ok (.aload_n 2, 1) := by decide +kernel
theorem dX1_mark_9 : decode cX1_mark 9 = .ok (.invokespecial 23, 3) := by decide +kernel
theorem dX1_mark_12 : decode cX1_mark 12 = .ok (.sipush 1000, 3) := by decide +kernel
theorem dX1_mark_15 : decode cX1_mark 15 = .ok (.isub, 1) := by decide +kernel
theorem dX1_mark_16 : decode cX1_mark 16 = .ok (.ireturn, 1) := by decide +kernel
theorem dX2_init_0 : decode cX2_init 0 = .ok (.aload_n 0, 1) := by decide +kernel
theorem dX2_init_1 : decode cX2_init 1 = .ok (.invokespecial 1, 3) := by decide +kernel
theorem dX2_init_4 : decode cX2_init 4 = .ok (.aload_n 0, 1) := by decide +kernel
theorem dX2_init_5 : decode cX2_init 5 = .ok (.iload_n 1, 1) := by decide +kernel
theorem dX2_init_6 : decode cX2_init 6 = .ok (.putfield 7, 3) := by decide +kernel
theorem dX2_init_9 : decode cX2_init 9 = .ok (.aload_n 0, 1) := by decide +kernel
theorem dX2_init_10 : decode cX2_init 10 = .ok (.iload_n 2, 1) := by decide +kernel
theorem dX2_init_11 : decode cX2_init 11 = .ok (.putfield 13, 3) := by decide +kernel
theorem dX2_init_14 : decode cX2_init 14 = .ok (.aload_n 0, 1) := by decide +kernel
theorem dX2_init_15 : decode cX2_init 15 = .ok (.iload_n 3, 1) := by decide +kernel
theorem dX2_init_16 : decode cX2_init 16 = .ok (.putfield 16, 3) := by decide +kernel
theorem dX2_init_19 : decode cX2_init 19 = .ok (.aload_n 0, 1) := by decide +kernel
theorem dX2_init_20 : decode cX2_init 20 = .ok (.iload 4, 2) := by decide +kernel
theorem dX2_init_22 : decode cX2_init 22 = .ok (.putfield 19, 3) := by decide +kernel
theorem dX2_init_25 : decode cX2_init 25 = .ok (.return_, 1) := by decide +kernel
theorem dX2_of_0 : decode cX2_of 0 = .ok (.iload_n 0, 1) := by decide +kernel
theorem dX2_of_1 : decode cX2_of 1 = .ok (.tableswitch 83 2 5 #[31, 44, 57, 70], 31) := by decide +kernel
theorem dX2_of_32 : decode cX2_of 32 = .ok (.new 22, 3) := by decide +kernel
theorem dX2_of_35 : decode cX2_of 35 = .ok (.dup, 1) := by decide +kernel
theorem dX2_of_36 : decode cX2_of 36 = .ok (.iload_n 1, 1) := by decide +kernel
theorem dX2_of_37 : decode cX2_of 37 = .ok (.iload_n 2, 1) := by decide +kernel
theorem dX2_of_38 : decode cX2_of 38 = .ok (.iload_n 3, 1) := by decide +kernel
theorem dX2_of_39 : decode cX2_of 39 = .ok (.iload 4, 2) := by decide +kernel
theorem dX2_of_41 : decode cX2_of 41 = .ok (.invokespecial 24, 3) := by decide +kernel
theorem dX2_of_44 : decode cX2_of 44 = .ok (.areturn, 1) := by decide +kernel
theorem dX2_of_45 : decode cX2_of 45 = .ok (.new 27, 3) := by decide +kernel
theorem dX2_of_48 : decode cX2_of 48 = .ok (.dup, 1) := by decide +kernel
theorem dX2_of_49 : decode cX2_of 49 = .ok (.iload_n 1, 1) := by decide +kernel
theorem dX2_of_50 : decode cX2_of 50 = .ok (.iload_n 2, 1) := by decide +kernel
theorem dX2_of_51 : decode cX2_of 51 = .ok (.iload_n 3, 1) := by decide +kernel
theorem dX2_of_52 : decode cX2_of 52 = .ok (.iload 4, 2) := by decide +kernel
theorem dX2_of_54 : decode cX2_of 54 = .ok (.invokespecial 29, 3) := by decide +kernel
theorem dX2_of_57 : decode cX2_of 57 = .ok (.areturn, 1) := by decide +kernel
theorem dX2_of_58 : decode cX2_of 58 = .ok (.new 30, 3) := by decide +kernel
theorem dX2_of_61 : decode cX2_of 61 = .ok (.dup, 1) := by decide +kernel
theorem dX2_of_62 : decode cX2_of 62 = .ok (.iload_n 1, 1) := by decide +kernel
theorem dX2_of_63 : decode cX2_of 63 = .ok (.iload_n 2, 1) := by decide +kernel
theorem dX2_of_64 : decode cX2_of 64 = .ok (.iload_n 3, 1) := by decide +kernel
theorem dX2_of_65 : decode cX2_of 65 = .ok (.iload 4, 2) := by decide +kernel
theorem dX2_of_67 : decode cX2_of 67 = .ok (.invokespecial 32, 3) := by decide +kernel
theorem dX2_of_70 : decode cX2_of 70 = .ok (.areturn, 1) := by decide +kernel
theorem dX2_of_71 : decode cX2_of 71 = .ok (.new 33, 3) := by decide +kernel
theorem dX2_of_74 : decode cX2_of 74 = .ok (.dup, 1) := by decide +kernel
theorem dX2_of_75 : decode cX2_of 75 = .ok (.iload_n 1, 1) := by decide +kernel
theorem dX2_of_76 : decode cX2_of 76 = .ok (.iload_n 2, 1) := by decide +kernel
theorem dX2_of_77 : decode cX2_of 77 = .ok (.iload_n 3, 1) := by decide +kernel
theorem dX2_of_78 : decode cX2_of 78 = .ok (.iload 4, 2) := by decide +kernel
theorem dX2_of_80 : decode cX2_of 80 = .ok (.invokespecial 35, 3) := by decide +kernel
theorem dX2_of_83 : decode cX2_of 83 = .ok (.areturn, 1) := by decide +kernel
theorem dX2_of_84 : decode cX2_of 84 = .ok (.new 36, 3) := by decide +kernel
theorem dX2_of_87 : decode cX2_of 87 = .ok (.dup, 1) := by decide +kernel
theorem dX2_of_88 : decode cX2_of 88 = .ok (.iload_n 1, 1) := by decide +kernel
theorem dX2_of_89 : decode cX2_of 89 = .ok (.iload_n 2, 1) := by decide +kernel
theorem dX2_of_90 : decode cX2_of 90 = .ok (.iload_n 3, 1) := by decide +kernel
theorem dX2_of_91 : decode cX2_of 91 = .ok (.iload 4, 2) := by decide +kernel
theorem dX2_of_93 : decode cX2_of 93 = .ok (.invokespecial 38, 3) := by decide +kernel
theorem dX2_of_96 : decode cX2_of 96 = .ok (.areturn, 1) := by decide +kernel
theorem dX2_is_0 : decode cX2_is 0 = .ok (.iload_n 1, 1) := by decide +kernel
theorem dX2_is_1 : decode cX2_is 1 = .ok (.ifCond .ne 7, 3) := by decide +kernel
theorem dX2_is_4 : decode cX2_is 4 = .ok (.iconst 1, 1) := by decide +kernel
theorem dX2_is_5 : decode cX2_is 5 = .ok (.goto 4, 3) := by decide +kernel
theorem dX2_is_8 : decode cX2_is 8 = .ok (.iconst 0, 1) := by decide +kernel
theorem dX2_is_9 : decode cX2_is 9 = .ok (.ireturn, 1) := by decide +kernel
theorem dX2_gap_0 : decode cX2_gap 0 = .ok (.iconst 1, 1) := by decide +kernel
theorem dX2_gap_1 : decode cX2_gap 1 = .ok (.ireturn, 1) := by decide +kernel
theorem dX2_keyBit_0 : decode cX2_keyBit 0 = .ok (.iconst 0, 1) := by decide +kernel
theorem dX2_keyBit_1 : decode cX2_keyBit 1 = .ok (.ireturn, 1) := by decide +kernel
theorem dX2_isBroken_0 : decode cX2_isBroken 0 = .ok (.iconst 0, 1) := by decide +kernel
theorem dX2_isBroken_1 : decode cX2_isBroken 1 = .ok (.ireturn, 1) := by decide +kernel
theorem dX2_leadsFrom_0 : decode cX2_leadsFrom 0 = .ok (.iload_n 1, 1) := by decide +kernel
theorem dX2_leadsFrom_1 : decode cX2_leadsFrom 1 = .ok (.aload_n 0, 1) := by decide +kernel
theorem dX2_leadsFrom_2 : decode cX2_leadsFrom 2 = .ok (.getfield 13, 3) := by decide +kernel
theorem dX2_leadsFrom_5 : decode cX2_leadsFrom 5 = .ok (.if_icmp .eq 11, 3) := by decide +kernel
theorem dX2_leadsFrom_8 : decode cX2_leadsFrom 8 = .ok (.iload_n 1, 1) := by decide +kernel
theorem dX2_leadsFrom_9 : decode cX2_leadsFrom 9 = .ok (.aload_n 0, 1) := by decide +kernel
theorem dX2_leadsFrom_10 : decode cX2_leadsFrom 10 = .ok (.getfield 16, 3) := by decide +kernel
theorem dX2_leadsFrom_13 : decode cX2_leadsFrom 13 = .ok (.if_icmp .ne 7, 3) := by decide +kernel
theorem dX2_leadsFrom_16 : decode cX2_leadsFrom 16 = .ok (.iconst 1, 1) := by decide +kernel
theorem dX2_leadsFrom_17 : decode cX2_leadsFrom 17 = .ok (.goto 4, 3) := by decide +kernel
theorem dX2_leadsFrom_20 : decode cX2_leadsFrom 20 = .ok (.iconst 0, 1) := by decide +kernel
theorem dX2_leadsFrom_21 : decode cX2_leadsFrom 21 = .ok (.ireturn, 1) := by decide +kernel
theorem dX2_beyond_0 : decode cX2_beyond 0 = .ok (.iload_n 1, 1) := by decide +kernel
theorem dX2_beyond_1 : decode cX2_beyond 1 = .ok (.aload_n 0, 1) := by decide +kernel
theorem dX2_beyond_2 : decode cX2_beyond 2 = .ok (.getfield 13, 3) := by decide +kernel
theorem dX2_beyond_5 : decode cX2_beyond 5 = .ok (.if_icmp .ne 10, 3) := by decide +kernel
theorem dX2_beyond_8 : decode cX2_beyond 8 = .ok (.aload_n 0, 1) := by decide +kernel
theorem dX2_beyond_9 : decode cX2_beyond 9 = .ok (.getfield 16, 3) := by decide +kernel
theorem dX2_beyond_12 : decode cX2_beyond 12 = .ok (.goto 7, 3) := by decide +kernel
theorem dX2_beyond_15 : decode cX2_beyond 15 = .ok (.aload_n 0, 1) := by decide +kernel
theorem dX2_beyond_16 : decode cX2_beyond 16 = .ok (.getfield 13, 3) := by decide +kernel
theorem dX2_beyond_19 : decode cX2_beyond 19 = .ok (.ireturn, 1) := by decide +kernel
theorem dX2_size_0 : decode cX2_size 0 = .ok (.aload_n 2, 1) := by decide +kernel
theorem dX2_size_1 : decode cX2_size 1 = .ok (.bipush 10, 2) := by decide +kernel
theorem dX2_size_3 : decode cX2_size 3 = .ok (.invokevirtual 39, 3) := by decide +kernel
theorem dX2_size_6 : decode cX2_size 6 = .ok (.aload_n 0, 1) := by decide +kernel
theorem dX2_size_7 : decode cX2_size 7 = .ok (.getfield 19, 3) := by decide +kernel
theorem dX2_size_10 : decode cX2_size 10 = .ok (.ireturn, 1) := by decide +kernel
theorem dX2_mark_0 : decode cX2_mark 0 = .ok (.aload_n 2, 1) := by decide +kernel
theorem dX2_mark_1 : decode cX2_mark 1 = .ok (.bipush 20, 2) := by decide +kernel
theorem dX2_mark_3 : decode cX2_mark 3 = .ok (.invokevirtual 39, 3) := by decide +kernel
theorem dX2_mark_6 : decode cX2_mark 6 = .ok (.aload_n 0, 1) := by decide +kernel
theorem dX2_mark_7 : decode cX2_mark 7 = .ok (.getfield 7, 3) := by decide +kernel
theorem dX2_mark_10 : decode cX2_mark 10 = .ok (.ireturn, 1) := by decide +kernel
theorem dX3_init_0 : decode cX3_init 0 = .ok (.aload_n 0, 1) := by decide +kernel
theorem dX3_init_1 : decode cX3_init 1 = .ok (.invokespecial 3, 3) := by decide +kernel
theorem dX3_init_4 : decode cX3_init 4 = .ok (.aload_n 0, 1) := by decide +kernel
theorem dX3_init_5 : decode cX3_init 5 = .ok (.bipush 8, 2) := by decide +kernel
theorem dX3_init_7 : decode cX3_init 7 = .ok (.newarray .int, 2) := by decide +kernel
theorem dX3_init_9 : decode cX3_init 9 = .ok (.putfield 9, 3) := by decide +kernel
theorem dX3_init_12 : decode cX3_init 12 = .ok (.aload_n 0, 1) := by decide +kernel
theorem dX3_init_13 : decode cX3_init 13 = .ok (.bipush 8, 2) := by decide +kernel
theorem dX3_init_15 : decode cX3_init 15 = .ok (.newarray .int, 2) := by decide +kernel
theorem dX3_init_17 : decode cX3_init 17 = .ok (.putfield 15, 3) := by decide +kernel
theorem dX3_init_20 : decode cX3_init 20 = .ok (.aload_n 0, 1) := by decide +kernel
theorem dX3_init_21 : decode cX3_init 21 = .ok (.bipush 8, 2) := by decide +kernel
theorem dX3_init_23 : decode cX3_init 23 = .ok (.anewarray 18, 3) := by decide +kernel
theorem dX3_init_26 : decode cX3_init 26 = .ok (.putfield 20, 3) := by decide +kernel
theorem dX3_init_29 : decode cX3_init 29 = .ok (.return_, 1) := by decide +kernel
theorem dX3_stands_0 : decode cX3_stands 0 = .ok (.aload_n 0, 1) := by decide +kernel
theorem dX3_stands_1 : decode cX3_stands 1 = .ok (.getfield 24, 3) := by decide +kernel
theorem dX3_stands_4 : decode cX3_stands 4 = .ok (.ifCond .le 7, 3) := by decide +kernel
theorem dX3_stands_7 : decode cX3_stands 7 = .ok (.iconst 1, 1) := by decide +kernel
theorem dX3_stands_8 : decode cX3_stands 8 = .ok (.goto 4, 3) := by decide +kernel
theorem dX3_stands_11 : decode cX3_stands 11 = .ok (.iconst 0, 1) := by decide +kernel
theorem dX3_stands_12 : decode cX3_stands 12 = .ok (.ireturn, 1) := by decide +kernel
theorem dX3_clear_0 : decode cX3_clear 0 = .ok (.aload_n 0, 1) := by decide +kernel
theorem dX3_clear_1 : decode cX3_clear 1 = .ok (.iconst 0, 1) := by decide +kernel
theorem dX3_clear_2 : decode cX3_clear 2 = .ok (.putfield 24, 3) := by decide +kernel
theorem dX3_clear_5 : decode cX3_clear 5 = .ok (.aload_n 0, 1) := by decide +kernel
theorem dX3_clear_6 : decode cX3_clear 6 = .ok (.iconst 0, 1) := by decide +kernel
theorem dX3_clear_7 : decode cX3_clear 7 = .ok (.putfield 28, 3) := by decide +kernel
theorem dX3_clear_10 : decode cX3_clear 10 = .ok (.aload_n 0, 1) := by decide +kernel
theorem dX3_clear_11 : decode cX3_clear 11 = .ok (.iconst 0, 1) := by decide +kernel
theorem dX3_clear_12 : decode cX3_clear 12 = .ok (.putfield 31, 3) := by decide +kernel
theorem dX3_clear_15 : decode cX3_clear 15 = .ok (.return_, 1) := by decide +kernel
theorem dX3_become_0 : decode cX3_become 0 = .ok (.aload_n 1, 1) := by decide +kernel
theorem dX3_become_1 : decode cX3_become 1 = .ok (.getfield 9, 3) := by decide +kernel
theorem dX3_become_4 : decode cX3_become 4 = .ok (.iconst 0, 1) := by decide +kernel
theorem dX3_become_5 : decode cX3_become 5 = .ok (.aload_n 0, 1) := by decide +kernel
theorem dX3_become_6 : decode cX3_become 6 = .ok (.getfield 9, 3) := by decide +kernel
theorem dX3_become_9 : decode cX3_become 9 = .ok (.iconst 0, 1) := by decide +kernel
theorem dX3_become_10 : decode cX3_become 10 = .ok (.bipush 8, 2) := by decide +kernel
theorem dX3_become_12 : decode cX3_become 12 = .ok (.invokestatic 34, 3) := by decide +kernel
theorem dX3_become_15 : decode cX3_become 15 = .ok (.aload_n 1, 1) := by decide +kernel
theorem dX3_become_16 : decode cX3_become 16 = .ok (.getfield 15, 3) := by decide +kernel
theorem dX3_become_19 : decode cX3_become 19 = .ok (.iconst 0, 1) := by decide +kernel
theorem dX3_become_20 : decode cX3_become 20 = .ok (.aload_n 0, 1) := by decide +kernel
theorem dX3_become_21 : decode cX3_become 21 = .ok (.getfield 15, 3) := by decide +kernel
theorem dX3_become_24 : decode cX3_become 24 = .ok (.iconst 0, 1) := by decide +kernel
theorem dX3_become_25 : decode cX3_become 25 = .ok (.bipush 8, 2) := by decide +kernel
theorem dX3_become_27 : decode cX3_become 27 = .ok (.invokestatic 34, 3) := by decide +kernel
theorem dX3_become_30 : decode cX3_become 30 = .ok (.iconst 0, 1) := by decide +kernel
theorem dX3_become_31 : decode cX3_become 31 = .ok (.istore_n 2, 1) := by decide +kernel
theorem dX3_become_32 : decode cX3_become 32 = .ok (.iload_n 2, 1) := by decide +kernel
theorem dX3_become_33 : decode cX3_become 33 = .ok (.bipush 8, 2) := by decide +kernel
theorem dX3_become_35 : decode cX3_become 35 = .ok (.if_icmp .ge 21, 3) := by decide +kernel
theorem dX3_become_38 : decode cX3_become 38 = .ok (.aload_n 0, 1) := by decide +kernel
theorem dX3_become_39 : decode cX3_become 39 = .ok (.getfield 20, 3) := by decide +kernel
theorem dX3_become_42 : decode cX3_become 42 = .ok (.iload_n 2, 1) := by decide +kernel
theorem dX3_become_43 : decode cX3_become 43 = .ok (.aload_n 1, 1) := by decide +kernel
theorem dX3_become_44 : decode cX3_become 44 = .ok (.getfield 20, 3) := by decide +kernel
theorem dX3_become_47 : decode cX3_become 47 = .ok (.iload_n 2, 1) := by decide +kernel
theorem dX3_become_48 : decode cX3_become 48 = .ok (.aaload, 1) := by decide +kernel
theorem dX3_become_49 : decode cX3_become 49 = .ok (.aastore, 1) := by decide +kernel
theorem dX3_become_50 : decode cX3_become 50 = .ok (.iinc 2 1, 3) := by decide +kernel
theorem dX3_become_53 : decode cX3_become 53 = .ok (.goto (-21), 3) := by decide +kernel
theorem dX3_become_56 : decode cX3_become 56 = .ok (.aload_n 0, 1) := by decide +kernel
theorem dX3_become_57 : decode cX3_become 57 = .ok (.aload_n 1, 1) := by decide +kernel
theorem dX3_become_58 : decode cX3_become 58 = .ok (.getfield 24, 3) := by decide +kernel
theorem dX3_become_61 : decode cX3_become 61 = .ok (.putfield 24, 3) := by decide +kernel
theorem dX3_become_64 : decode cX3_become 64 = .ok (.aload_n 0, 1) := by decide +kernel
theorem dX3_become_65 : decode cX3_become 65 = .ok (.aload_n 1, 1) := by decide +kernel
theorem dX3_become_66 : decode cX3_become 66 = .ok (.getfield 28, 3) := by decide +kernel
theorem dX3_become_69 : decode cX3_become 69 = .ok (.putfield 28, 3) := by decide +kernel
theorem dX3_become_72 : decode cX3_become 72 = .ok (.aload_n 0, 1) := by decide +kernel
theorem dX3_become_73 : decode cX3_become 73 = .ok (.aload_n 1, 1) := by decide +kernel
theorem dX3_become_74 : decode cX3_become 74 = .ok (.getfield 40, 3) := by decide +kernel
theorem dX3_become_77 : decode cX3_become 77 = .ok (.putfield 40, 3) := by decide +kernel
theorem dX3_become_80 : decode cX3_become 80 = .ok (.aload_n 0, 1) := by decide +kernel
theorem dX3_become_81 : decode cX3_become 81 = .ok (.aload_n 1, 1) := by decide +kernel
theorem dX3_become_82 : decode cX3_become 82 = .ok (.getfield 43, 3) := by decide +kernel
theorem dX3_become_85 : decode cX3_become 85 = .ok (.putfield 43, 3) := by decide +kernel
theorem dX3_become_88 : decode cX3_become 88 = .ok (.aload_n 0, 1) := by decide +kernel
theorem dX3_become_89 : decode cX3_become 89 = .ok (.aload_n 1, 1) := by decide +kernel
theorem dX3_become_90 : decode cX3_become 90 = .ok (.getfield 46, 3) := by decide +kernel
theorem dX3_become_93 : decode cX3_become 93 = .ok (.putfield 46, 3) := by decide +kernel
theorem dX3_become_96 : decode cX3_become 96 = .ok (.aload_n 0, 1) := by decide +kernel
theorem dX3_become_97 : decode cX3_become 97 = .ok (.aload_n 1, 1) := by decide +kernel
theorem dX3_become_98 : decode cX3_become 98 = .ok (.getfield 31, 3) := by decide +kernel
theorem dX3_become_101 : decode cX3_become 101 = .ok (.putfield 31, 3) := by decide +kernel
theorem dX3_become_104 : decode cX3_become 104 = .ok (.return_, 1) := by decide +kernel
theorem dX3_lacksRoom_0 : decode cX3_lacksRoom 0 = .ok (.iload_n 1, 1) := by decide +kernel
theorem dX3_lacksRoom_1 : decode cX3_lacksRoom 1 = .ok (.ifCond .lt 17, 3) := by decide +kernel
theorem dX3_lacksRoom_4 : decode cX3_lacksRoom 4 = .ok (.iload_n 1, 1) := by decide +kernel
theorem dX3_lacksRoom_5 : decode cX3_lacksRoom 5 = .ok (.aload_n 0, 1) := by decide +kernel
theorem dX3_lacksRoom_6 : decode cX3_lacksRoom 6 = .ok (.getfield 24, 3) := by decide +kernel
theorem dX3_lacksRoom_9 : decode cX3_lacksRoom 9 = .ok (.if_icmp .ge 9, 3) := by decide +kernel
theorem dX3_lacksRoom_12 : decode cX3_lacksRoom 12 = .ok (.iload_n 1, 1) := by decide +kernel
theorem dX3_lacksRoom_13 : decode cX3_lacksRoom 13 = .ok (.bipush 8, 2) := by decide +kernel
theorem dX3_lacksRoom_15 : decode cX3_lacksRoom 15 = .ok (.if_icmp .lt 7, 3) := by decide +kernel
theorem dX3_lacksRoom_18 : decode cX3_lacksRoom 18 = .ok (.iconst 1, 1) := by decide +kernel
theorem dX3_lacksRoom_19 : decode cX3_lacksRoom 19 = .ok (.goto 4, 3) := by decide +kernel
theorem dX3_lacksRoom_22 : decode cX3_lacksRoom 22 = .ok (.iconst 0, 1) := by decide +kernel
theorem dX3_lacksRoom_23 : decode cX3_lacksRoom 23 = .ok (.ireturn, 1) := by decide +kernel
theorem dX3_lacksDoor_0 : decode cX3_lacksDoor 0 = .ok (.iload_n 1, 1) := by decide +kernel
theorem dX3_lacksDoor_1 : decode cX3_lacksDoor 1 = .ok (.ifCond .lt 17, 3) := by decide +kernel
theorem dX3_lacksDoor_4 : decode cX3_lacksDoor 4 = .ok (.iload_n 1, 1) := by decide +kernel
theorem dX3_lacksDoor_5 : decode cX3_lacksDoor 5 = .ok (.aload_n 0, 1) := by decide +kernel
theorem dX3_lacksDoor_6 : decode cX3_lacksDoor 6 = .ok (.getfield 28, 3) := by decide +kernel
theorem dX3_lacksDoor_9 : decode cX3_lacksDoor 9 = .ok (.if_icmp .ge 9, 3) := by decide +kernel
theorem dX3_lacksDoor_12 : decode cX3_lacksDoor 12 = .ok (.iload_n 1, 1) := by decide +kernel
theorem dX3_lacksDoor_13 : decode cX3_lacksDoor 13 = .ok (.bipush 8, 2) := by decide +kernel
theorem dX3_lacksDoor_15 : decode cX3_lacksDoor 15 = .ok (.if_icmp .lt 7, 3) := by decide +kernel
theorem dX3_lacksDoor_18 : decode cX3_lacksDoor 18 = .ok (.iconst 1, 1) := by decide +kernel
theorem dX3_lacksDoor_19 : decode cX3_lacksDoor 19 = .ok (.goto 4, 3) := by decide +kernel
theorem dX3_lacksDoor_22 : decode cX3_lacksDoor 22 = .ok (.iconst 0, 1) := by decide +kernel
theorem dX3_lacksDoor_23 : decode cX3_lacksDoor 23 = .ok (.ireturn, 1) := by decide +kernel
theorem dX3_doorAt_0 : decode cX3_doorAt 0 = .ok (.aload_n 0, 1) := by decide +kernel
theorem dX3_doorAt_1 : decode cX3_doorAt 1 = .ok (.iload_n 1, 1) := by decide +kernel
theorem dX3_doorAt_2 : decode cX3_doorAt 2 = .ok (.invokevirtual 49, 3) := by decide +kernel
theorem dX3_doorAt_5 : decode cX3_doorAt 5 = .ok (.ifCond .eq 7, 3) := by decide +kernel
theorem dX3_doorAt_8 : decode cX3_doorAt 8 = .ok (.aconst_null, 1) := by decide +kernel
theorem dX3_doorAt_9 : decode cX3_doorAt 9 = .ok (.goto 9, 3) := by decide +kernel
theorem dX3_doorAt_12 : decode cX3_doorAt 12 = .ok (.aload_n 0, 1) := by decide +kernel
theorem dX3_doorAt_13 : decode cX3_doorAt 13 = .ok (.getfield 20, 3) := by decide +kernel
theorem dX3_doorAt_16 : decode cX3_doorAt 16 = .ok (.iload_n 1, 1) := by decide +kernel
theorem dX3_doorAt_17 : decode cX3_doorAt 17 = .ok (.aaload, 1) := by decide +kernel
theorem dX3_doorAt_18 : decode cX3_doorAt 18 = .ok (.areturn, 1) := by decide +kernel
theorem dX3_addRoom_0 : decode cX3_addRoom 0 = .ok (.aload_n 0, 1) := by decide +kernel
theorem dX3_addRoom_1 : decode cX3_addRoom 1 = .ok (.getfield 24, 3) := by decide +kernel
theorem dX3_addRoom_4 : decode cX3_addRoom 4 = .ok (.bipush 8, 2) := by decide +kernel
theorem dX3_addRoom_6 : decode cX3_addRoom 6 = .ok (.if_icmp .ge 23, 3) := by decide +kernel
theorem dX3_addRoom_9 : decode cX3_addRoom 9 = .ok (.aload_n 0, 1) := by decide +kernel
theorem dX3_addRoom_10 : decode cX3_addRoom 10 = .ok (.getfield 9, 3) := by decide +kernel
theorem dX3_addRoom_13 : decode cX3_addRoom 13 = .ok (.aload_n 0, 1) := by decide +kernel
theorem dX3_addRoom_14 : decode cX3_addRoom 14 = .ok (.getfield 24, 3) := by decide +kernel
theorem dX3_addRoom_17 : decode cX3_addRoom 17 = .ok (.iload_n 1, 1) := by decide +kernel
theorem dX3_addRoom_18 : decode cX3_addRoom 18 = .ok (.iastore, 1) := by decide +kernel
theorem dX3_addRoom_19 : decode cX3_addRoom 19 = .ok (.aload_n 0, 1) := by decide +kernel
theorem dX3_addRoom_20 : decode cX3_addRoom 20 = .ok (.dup, 1) := by decide +kernel
theorem dX3_addRoom_21 : decode cX3_addRoom 21 = .ok (.getfield 24, 3) := by decide +kernel
theorem dX3_addRoom_24 : decode cX3_addRoom 24 = .ok (.iconst 1, 1) := by decide +kernel
theorem dX3_addRoom_25 : decode cX3_addRoom 25 = .ok (.iadd, 1) := by decide +kernel
theorem dX3_addRoom_26 : decode cX3_addRoom 26 = .ok (.putfield 24, 3) := by decide +kernel
theorem dX3_addRoom_29 : decode cX3_addRoom 29 = .ok (.return_, 1) := by decide +kernel
theorem dX3_addDoor_0 : decode cX3_addDoor 0 = .ok (.aload_n 0, 1) := by decide +kernel
theorem dX3_addDoor_1 : decode cX3_addDoor 1 = .ok (.getfield 28, 3) := by decide +kernel
theorem dX3_addDoor_4 : decode cX3_addDoor 4 = .ok (.bipush 8, 2) := by decide +kernel
theorem dX3_addDoor_6 : decode cX3_addDoor 6 = .ok (.if_icmp .ge 44, 3) := by decide +kernel
theorem dX3_addDoor_9 : decode cX3_addDoor 9 = .ok (.aload_n 0, 1) := by decide +kernel
theorem dX3_addDoor_10 : decode cX3_addDoor 10 = .ok (.getfield 20, 3) := by decide +kernel
theorem dX3_addDoor_13 : decode cX3_addDoor 13 = .ok (.aload_n 0, 1) := by decide +kernel
theorem dX3_addDoor_14 : decode cX3_addDoor 14 = .ok (.getfield 28, 3) := by decide +kernel
theorem dX3_addDoor_17 : decode cX3_addDoor 17 = .ok (.iload_n 1, 1) := by decide +kernel
theorem dX3_addDoor_18 : decode cX3_addDoor 18 = .ok (.aload_n 0, 1) := by decide +kernel
theorem dX3_addDoor_19 : decode cX3_addDoor 19 = .ok (.getfield 28, 3) := by decide +kernel
theorem dX3_addDoor_22 : decode cX3_addDoor 22 = .ok (.iload_n 2, 1) := by decide +kernel
theorem dX3_addDoor_23 : decode cX3_addDoor 23 = .ok (.iload_n 3, 1) := by decide +kernel
theorem dX3_addDoor_24 : decode cX3_addDoor 24 = .ok (.iload 4, 2) := by decide +kernel
theorem dX3_addDoor_26 : decode cX3_addDoor 26 = .ok (.invokestatic 53, 3) := by decide +kernel
theorem dX3_addDoor_29 : decode cX3_addDoor 29 = .ok (.aastore, 1) := by decide +kernel
theorem dX3_addDoor_30 : decode cX3_addDoor 30 = .ok (.aload_n 0, 1) := by decide +kernel
theorem dX3_addDoor_31 : decode cX3_addDoor 31 = .ok (.getfield 15, 3) := by decide +kernel
theorem dX3_addDoor_34 : decode cX3_addDoor 34 = .ok (.aload_n 0, 1) := by decide +kernel
theorem dX3_addDoor_35 : decode cX3_addDoor 35 = .ok (.getfield 28, 3) := by decide +kernel
theorem dX3_addDoor_38 : decode cX3_addDoor 38 = .ok (.iconst 0, 1) := by decide +kernel
theorem dX3_addDoor_39 : decode cX3_addDoor 39 = .ok (.iastore, 1) := by decide +kernel
theorem dX3_addDoor_40 : decode cX3_addDoor 40 = .ok (.aload_n 0, 1) := by decide +kernel
theorem dX3_addDoor_41 : decode cX3_addDoor 41 = .ok (.dup, 1) := by decide +kernel
theorem dX3_addDoor_42 : decode cX3_addDoor 42 = .ok (.getfield 28, 3) := by decide +kernel
theorem dX3_addDoor_45 : decode cX3_addDoor 45 = .ok (.iconst 1, 1) := by decide +kernel
theorem dX3_addDoor_46 : decode cX3_addDoor 46 = .ok (.iadd, 1) := by decide +kernel
theorem dX3_addDoor_47 : decode cX3_addDoor 47 = .ok (.putfield 28, 3) := by decide +kernel
theorem dX3_addDoor_50 : decode cX3_addDoor 50 = .ok (.return_, 1) := by decide +kernel
theorem dX3_sortOf_0 : decode cX3_sortOf 0 = .ok (.aload_n 0, 1) := by decide +kernel
theorem dX3_sortOf_1 : decode cX3_sortOf 1 = .ok (.iload_n 1, 1) := by decide +kernel
theorem dX3_sortOf_2 : decode cX3_sortOf 2 = .ok (.invokevirtual 57, 3) := by decide +kernel
theorem dX3_sortOf_5 : decode cX3_sortOf 5 = .ok (.astore_n 2, 1) := by decide +kernel
theorem dX3_sortOf_6 : decode cX3_sortOf 6 = .ok (.aload_n 2, 1) := by decide +kernel
theorem dX3_sortOf_7 : decode cX3_sortOf 7 = .ok (.ifnonnull 7, 3) := by decide +kernel
theorem dX3_sortOf_10 : decode cX3_sortOf 10 = .ok (.iconst 0, 1) := by decide +kernel
theorem dX3_sortOf_11 : decode cX3_sortOf 11 = .ok (.goto 7, 3) := by decide +kernel
theorem dX3_sortOf_14 : decode cX3_sortOf 14 = .ok (.aload_n 2, 1) := by decide +kernel
theorem dX3_sortOf_15 : decode cX3_sortOf 15 = .ok (.invokevirtual 61, 3) := by decide +kernel
theorem dX3_sortOf_18 : decode cX3_sortOf 18 = .ok (.ireturn, 1) := by decide +kernel
theorem dX3_numberOf_0 : decode cX3_numberOf 0 = .ok (.aload_n 0, 1) := by decide +kernel
theorem dX3_numberOf_1 : decode cX3_numberOf 1 = .ok (.iload_n 1, 1) := by decide +kernel
theorem dX3_numberOf_2 : decode cX3_numberOf 2 = .ok (.invokevirtual 57, 3) := by decide +kernel
theorem dX3_numberOf_5 : decode cX3_numberOf 5 = .ok (.astore_n 2, 1) := by decide +kernel
theorem dX3_numberOf_6 : decode cX3_numberOf 6 = .ok (.aload_n 2, 1) := by decide +kernel
theorem dX3_numberOf_7 : decode cX3_numberOf 7 = .ok (.ifnonnull 7, 3) := by decide +kernel
theorem dX3_numberOf_10 : decode cX3_numberOf 10 = .ok (.iconst 0, 1) := by decide +kernel
theorem dX3_numberOf_11 : decode cX3_numberOf 11 = .ok (.goto 7, 3) := by decide +kernel
theorem dX3_numberOf_14 : decode cX3_numberOf 14 = .ok (.aload_n 2, 1) := by decide +kernel
theorem dX3_numberOf_15 : decode cX3_numberOf 15 = .ok (.getfield 65, 3) := by decide +kernel
theorem dX3_numberOf_18 : decode cX3_numberOf 18 = .ok (.ireturn, 1) := by decide +kernel
theorem dX3_changeDoor_0 : decode cX3_changeDoor 0 = .ok (.aload_n 0, 1) := by decide +kernel
theorem dX3_changeDoor_1 : decode cX3_changeDoor 1 = .ok (.iload_n 1, 1) := by decide +kernel
theorem dX3_changeDoor_2 : decode cX3_changeDoor 2 = .ok (.invokevirtual 57, 3) := by decide +kernel
theorem dX3_changeDoor_5 : decode cX3_changeDoor 5 = .ok (.astore 4, 2) := by decide +kernel
theorem dX3_changeDoor_7 : decode cX3_changeDoor 7 = .ok (.aload 4, 2) := by decide +kernel
theorem dX3_changeDoor_9 : decode cX3_changeDoor 9 = .ok (.ifnull 29, 3) := by decide +kernel
theorem dX3_changeDoor_12 : decode cX3_changeDoor 12 = .ok (.aload_n 0, 1) := by decide +kernel
theorem dX3_changeDoor_13 : decode cX3_changeDoor 13 = .ok (.getfield 20, 3) := by decide +kernel
theorem dX3_changeDoor_16 : decode cX3_changeDoor 16 = .ok (.iload_n 1, 1) := by decide +kernel
theorem dX3_changeDoor_17 : decode cX3_changeDoor 17 = .ok (.iload_n 2, 1) := by decide +kernel
theorem dX3_changeDoor_18 : decode cX3_changeDoor 18 = .ok (.aload 4, 2) := by decide +kernel
theorem dX3_changeDoor_20 : decode cX3_changeDoor 20 = .ok (.getfield 68, 3) := by decide +kernel
theorem dX3_changeDoor_23 : decode cX3_changeDoor 23 = .ok (.aload 4, 2) := by decide +kernel
theorem dX3_changeDoor_25 : decode cX3_changeDoor 25 = .ok (.getfield 71, 3) := by decide +kernel
theorem dX3_changeDoor_28 : decode cX3_changeDoor 28 = .ok (.aload 4, 2) := by decide +kernel
theorem dX3_changeDoor_30 : decode cX3_changeDoor 30 = .ok (.getfield 74, 3) := by decide +kernel
theorem dX3_changeDoor_33 : decode cX3_changeDoor 33 = .ok (.iload_n 3, 1) := by decide +kernel
theorem dX3_changeDoor_34 : decode cX3_changeDoor 34 = .ok (.invokestatic 53, 3) := by decide +kernel
theorem dX3_changeDoor_37 : decode cX3_changeDoor 37 = .ok (.aastore, 1) := by decide +kernel
theorem dX3_changeDoor_38 : decode cX3_changeDoor 38 = .ok (.return_, 1) := by decide +kernel
theorem dX3_doorsOf_0 : decode cX3_doorsOf 0 = .ok (.iconst 0, 1) := by decide +kernel
theorem dX3_doorsOf_1 : decode cX3_doorsOf 1 = .ok (.istore_n 2, 1) := by decide +kernel
theorem dX3_doorsOf_2 : decode cX3_doorsOf 2 = .ok (.iconst 0, 1) := by decide +kernel
theorem dX3_doorsOf_3 : decode cX3_doorsOf 3 = .ok (.istore_n 3, 1) := by decide +kernel
theorem dX3_doorsOf_4 : decode cX3_doorsOf 4 = .ok (.iload_n 3, 1) := by decide +kernel
theorem dX3_doorsOf_5 : decode cX3_doorsOf 5 = .ok (.aload_n 0, 1) := by decide +kernel
theorem dX3_doorsOf_6 : decode cX3_doorsOf 6 = .ok (.getfield 28, 3) := by decide +kernel
theorem dX3_doorsOf_9 : decode cX3_doorsOf 9 = .ok (.if_icmp .ge 36, 3) := by decide +kernel
theorem dX3_doorsOf_12 : decode cX3_doorsOf 12 = .ok (.aload_n 0, 1) := by decide +kernel
theorem dX3_doorsOf_13 : decode cX3_doorsOf 13 = .ok (.iload_n 3, 1) := by decide +kernel
theorem dX3_doorsOf_14 : decode cX3_doorsOf 14 = .ok (.invokevirtual 57, 3) := by decide +kernel
theorem dX3_doorsOf_17 : decode cX3_doorsOf 17 = .ok (.astore 4, 2) := by decide +kernel
theorem dX3_doorsOf_19 : decode cX3_doorsOf 19 = .ok (.aload 4, 2) := by decide +kernel
theorem dX3_doorsOf_21 : decode cX3_doorsOf 21 = .ok (.ifnull 18, 3) := by decide +kernel
theorem dX3_doorsOf_24 : decode cX3_doorsOf 24 = .ok (.aload 4, 2) := by decide +kernel
theorem dX3_doorsOf_26 : decode cX3_doorsOf 26 = .ok (.iload_n 1, 1) := by decide +kernel
theorem dX3_doorsOf_27 : decode cX3_doorsOf 27 = .ok (.invokevirtual 77, 3) := by decide +kernel
theorem dX3_doorsOf_30 : decode cX3_doorsOf 30 = .ok (.ifCond .eq 9, 3) := by decide +kernel
theorem dX3_doorsOf_33 : decode cX3_doorsOf 33 = .ok (.iload_n 2, 1) := by decide +kernel
theorem dX3_doorsOf_34 : decode cX3_doorsOf 34 = .ok (.iconst 1, 1) := by decide +kernel
theorem dX3_doorsOf_35 : decode cX3_doorsOf 35 = .ok (.iload_n 3, 1) := by decide +kernel
theorem dX3_doorsOf_36 : decode cX3_doorsOf 36 = .ok (.ishl, 1) := by decide +kernel
theorem dX3_doorsOf_37 : decode cX3_doorsOf 37 = .ok (.ior, 1) := by decide +kernel
theorem dX3_doorsOf_38 : decode cX3_doorsOf 38 = .ok (.istore_n 2, 1) := by decide +kernel
theorem dX3_doorsOf_39 : decode cX3_doorsOf 39 = .ok (.iinc 3 1, 3) := by decide +kernel
theorem dX3_doorsOf_42 : decode cX3_doorsOf 42 = .ok (.goto (-38), 3) := by decide +kernel
theorem dX3_doorsOf_45 : decode cX3_doorsOf 45 = .ok (.iload_n 2, 1) := by decide +kernel
theorem dX3_doorsOf_46 : decode cX3_doorsOf 46 = .ok (.ireturn, 1) := by decide +kernel
theorem dX3_filledRooms_0 : decode cX3_filledRooms 0 = .ok (.iconst 0, 1) := by decide +kernel
theorem dX3_filledRooms_1 : decode cX3_filledRooms 1 = .ok (.istore_n 1, 1) := by decide +kernel
theorem dX3_filledRooms_2 : decode cX3_filledRooms 2 = .ok (.iconst 0, 1) := by decide +kernel
theorem dX3_filledRooms_3 : decode cX3_filledRooms 3 = .ok (.istore_n 2, 1) := by decide +kernel
theorem dX3_filledRooms_4 : decode cX3_filledRooms 4 = .ok (.iload_n 2, 1) := by decide +kernel
theorem dX3_filledRooms_5 : decode cX3_filledRooms 5 = .ok (.aload_n 0, 1) := by decide +kernel
theorem dX3_filledRooms_6 : decode cX3_filledRooms 6 = .ok (.getfield 24, 3) := by decide +kernel
theorem dX3_filledRooms_9 : decode cX3_filledRooms 9 = .ok (.if_icmp .ge 24, 3) := by decide +kernel
theorem dX3_filledRooms_12 : decode cX3_filledRooms 12 = .ok (.aload_n 0, 1) := by decide +kernel
theorem dX3_filledRooms_13 : decode cX3_filledRooms 13 = .ok (.getfield 9, 3) := by decide +kernel
theorem dX3_filledRooms_16 : decode cX3_filledRooms 16 = .ok (.iload_n 2, 1) := by decide +kernel
theorem dX3_filledRooms_17 : decode cX3_filledRooms 17 = .ok (.iaload, 1) := by decide +kernel
theorem dX3_filledRooms_18 : decode cX3_filledRooms 18 = .ok (.ifCond .eq 9, 3) := by decide +kernel
theorem dX3_filledRooms_21 : decode cX3_filledRooms 21 = .ok (.iload_n 1, 1) := by decide +kernel
theorem dX3_filledRooms_22 : decode cX3_filledRooms 22 = .ok (.iconst 1, 1) := by decide +kernel
theorem dX3_filledRooms_23 : decode cX3_filledRooms 23 = .ok (.iload_n 2, 1) := by decide +kernel
theorem dX3_filledRooms_24 : decode cX3_filledRooms 24 = .ok (.ishl, 1) := by decide +kernel
theorem dX3_filledRooms_25 : decode cX3_filledRooms 25 = .ok (.ior, 1) := by decide +kernel
theorem dX3_filledRooms_26 : decode cX3_filledRooms 26 = .ok (.istore_n 1, 1) := by decide +kernel
theorem dX3_filledRooms_27 : decode cX3_filledRooms 27 = .ok (.iinc 2 1, 3) := by decide +kernel
theorem dX3_filledRooms_30 : decode cX3_filledRooms 30 = .ok (.goto (-26), 3) := by decide +kernel
theorem dX3_filledRooms_33 : decode cX3_filledRooms 33 = .ok (.iload_n 1, 1) := by decide +kernel
theorem dX3_filledRooms_34 : decode cX3_filledRooms 34 = .ok (.ireturn, 1) := by decide +kernel
theorem dX3_weightOf_0 : decode cX3_weightOf 0 = .ok (.iconst 0, 1) := by decide +kernel
theorem dX3_weightOf_1 : decode cX3_weightOf 1 = .ok (.istore_n 2, 1) := by decide +kernel
theorem dX3_weightOf_2 : decode cX3_weightOf 2 = .ok (.iconst 0, 1) := by decide +kernel
theorem dX3_weightOf_3 : decode cX3_weightOf 3 = .ok (.istore_n 3, 1) := by decide +kernel
theorem dX3_weightOf_4 : decode cX3_weightOf 4 = .ok (.iload_n 3, 1) := by decide +kernel
theorem dX3_weightOf_5 : decode cX3_weightOf 5 = .ok (.aload_n 0, 1) := by decide +kernel
theorem dX3_weightOf_6 : decode cX3_weightOf 6 = .ok (.getfield 24, 3) := by decide +kernel
theorem dX3_weightOf_9 : decode cX3_weightOf 9 = .ok (.if_icmp .ge 26, 3) := by decide +kernel
theorem dX3_weightOf_12 : decode cX3_weightOf 12 = .ok (.iload_n 1, 1) := by decide +kernel
theorem dX3_weightOf_13 : decode cX3_weightOf 13 = .ok (.iload_n 3, 1) := by decide +kernel
theorem dX3_weightOf_14 : decode cX3_weightOf 14 = .ok (.ishr, 1) := by decide +kernel
theorem dX3_weightOf_15 : decode cX3_weightOf 15 = .ok (.iconst 1, 1) := by decide +kernel
theorem dX3_weightOf_16 : decode cX3_weightOf 16 = .ok (.iand, 1) := by decide +kernel
theorem dX3_weightOf_17 : decode cX3_weightOf 17 = .ok (.ifCond .eq 12, 3) := by decide +kernel
theorem dX3_weightOf_20 : decode cX3_weightOf 20 = .ok (.iload_n 2, 1) := by decide +kernel
theorem dX3_weightOf_21 : decode cX3_weightOf 21 = .ok (.aload_n 0, 1) := by decide +kernel
theorem dX3_weightOf_22 : decode cX3_weightOf 22 = .ok (.getfield 9, 3) := by decide +kernel
theorem dX3_weightOf_25 : decode cX3_weightOf 25 = .ok (.iload_n 3, 1) := by decide +kernel
theorem dX3_weightOf_26 : decode cX3_weightOf 26 = .ok (.iaload, 1) := by decide +kernel
theorem dX3_weightOf_27 : decode cX3_weightOf 27 = .ok (.iadd, 1) := by decide +kernel
theorem dX3_weightOf_28 : decode cX3_weightOf 28 = .ok (.istore_n 2, 1) := by decide +kernel
theorem dX3_weightOf_29 : decode cX3_weightOf 29 = .ok (.iinc 3 1, 3) := by decide +kernel
theorem dX3_weightOf_32 : decode cX3_weightOf 32 = .ok (.goto (-28), 3) := by decide +kernel
theorem dX3_weightOf_35 : decode cX3_weightOf 35 = .ok (.iload_n 2, 1) := by decide +kernel
theorem dX3_weightOf_36 : decode cX3_weightOf 36 = .ok (.ireturn, 1) := by decide +kernel
theorem dX3_weightOfAll_0 : decode cX3_weightOfAll 0 = .ok (.aload_n 0, 1) := by decide +kernel
theorem dX3_weightOfAll_1 : decode cX3_weightOfAll 1 = .ok (.sipush 255, 3) := by decide +kernel
theorem dX3_weightOfAll_4 : decode cX3_weightOfAll 4 = .ok (.invokevirtual 80, 3) := by decide +kernel
theorem dX3_weightOfAll_7 : decode cX3_weightOfAll 7 = .ok (.ireturn, 1) := by decide +kernel
theorem dX3_wearOfAll_0 : decode cX3_wearOfAll 0 = .ok (.iconst 0, 1) := by decide +kernel
theorem dX3_wearOfAll_1 : decode cX3_wearOfAll 1 = .ok (.istore_n 1, 1) := by decide +kernel
theorem dX3_wearOfAll_2 : decode cX3_wearOfAll 2 = .ok (.iconst 0, 1) := by decide +kernel
theorem dX3_wearOfAll_3 : decode cX3_wearOfAll 3 = .ok (.istore_n 2, 1) := by decide +kernel
theorem dX3_wearOfAll_4 : decode cX3_wearOfAll 4 = .ok (.iload_n 2, 1) := by decide +kernel
theorem dX3_wearOfAll_5 : decode cX3_wearOfAll 5 = .ok (.aload_n 0, 1) := by decide +kernel
theorem dX3_wearOfAll_6 : decode cX3_wearOfAll 6 = .ok (.getfield 28, 3) := by decide +kernel
theorem dX3_wearOfAll_9 : decode cX3_wearOfAll 9 = .ok (.if_icmp .ge 18, 3) := by decide +kernel
theorem dX3_wearOfAll_12 : decode cX3_wearOfAll 12 = .ok (.iload_n 1, 1) := by decide +kernel
theorem dX3_wearOfAll_13 : decode cX3_wearOfAll 13 = .ok (.aload_n 0, 1) := by decide +kernel
theorem dX3_wearOfAll_14 : decode cX3_wearOfAll 14 = .ok (.getfield 15, 3) := by decide +kernel
theorem dX3_wearOfAll_17 : decode cX3_wearOfAll 17 = .ok (.iload_n 2, 1) := by decide +kernel
theorem dX3_wearOfAll_18 : decode cX3_wearOfAll 18 = .ok (.iaload, 1) := by decide +kernel
theorem dX3_wearOfAll_19 : decode cX3_wearOfAll 19 = .ok (.iadd, 1) := by decide +kernel
theorem dX3_wearOfAll_20 : decode cX3_wearOfAll 20 = .ok (.istore_n 1, 1) := by decide +kernel
theorem dX3_wearOfAll_21 : decode cX3_wearOfAll 21 = .ok (.iinc 2 1, 3) := by decide +kernel
theorem dX3_wearOfAll_24 : decode cX3_wearOfAll 24 = .ok (.goto (-20), 3) := by decide +kernel
theorem dX3_wearOfAll_27 : decode cX3_wearOfAll 27 = .ok (.iload_n 1, 1) := by decide +kernel
theorem dX3_wearOfAll_28 : decode cX3_wearOfAll 28 = .ok (.ireturn, 1) := by decide +kernel
theorem dX4_init_0 : decode cX4_init 0 = .ok (.aload_n 0, 1) := by decide +kernel
theorem dX4_init_1 : decode cX4_init 1 = .ok (.iload_n 1, 1) := by decide +kernel
theorem dX4_init_2 : decode cX4_init 2 = .ok (.iload_n 2, 1) := by decide +kernel
theorem dX4_init_3 : decode cX4_init 3 = .ok (.iload_n 3, 1) := by decide +kernel
theorem dX4_init_4 : decode cX4_init 4 = .ok (.iload 4, 2) := by decide +kernel
theorem dX4_init_6 : decode cX4_init 6 = .ok (.invokespecial 1, 3) := by decide +kernel
theorem dX4_init_9 : decode cX4_init 9 = .ok (.return_, 1) := by decide +kernel
theorem dX4_sort_0 : decode cX4_sort 0 = .ok (.iconst 1, 1) := by decide +kernel
theorem dX4_sort_1 : decode cX4_sort 1 = .ok (.ireturn, 1) := by decide +kernel
theorem dX4_is_0 : decode cX4_is 0 = .ok (.iload_n 1, 1) := by decide +kernel
theorem dX4_is_1 : decode cX4_is 1 = .ok (.iconst 1, 1) := by decide +kernel
theorem dX4_is_2 : decode cX4_is 2 = .ok (.if_icmp .eq 11, 3) := by decide +kernel
theorem dX4_is_5 : decode cX4_is 5 = .ok (.aload_n 0, 1) := by decide +kernel
theorem dX4_is_6 : decode cX4_is 6 = .ok (.iload_n 1, 1) := by decide +kernel
theorem dX4_is_7 : decode cX4_is 7 = .ok (.invokespecial 7, 3) := by decide +kernel
theorem dX4_is_10 : decode cX4_is 10 = .ok (.ifCond .eq 7, 3) := by decide +kernel
theorem dX4_is_13 : decode cX4_is 13 = .ok (.iconst 1, 1) := by decide +kernel
theorem dX4_is_14 : decode cX4_is 14 = .ok (.goto 4, 3) := by decide +kernel
theorem dX4_is_17 : decode cX4_is 17 = .ok (.iconst 0, 1) := by decide +kernel
theorem dX4_is_18 : decode cX4_is 18 = .ok (.ireturn, 1) := by decide +kernel
theorem dX4_loud_0 : decode cX4_loud 0 = .ok (.aload_n 0, 1) := by decide +kernel
theorem dX4_loud_1 : decode cX4_loud 1 = .ok (.getfield 11, 3) := by decide +kernel
theorem dX4_loud_4 : decode cX4_loud 4 = .ok (.ireturn, 1) := by decide +kernel
theorem dX4_size_0 : decode cX4_size 0 = .ok (.aload_n 2, 1) := by decide +kernel
theorem dX4_size_1 : decode cX4_size 1 = .ok (.bipush 11, 2) := by decide +kernel
theorem dX4_size_3 : decode cX4_size 3 = .ok (.invokevirtual 17, 3) := by decide +kernel
theorem dX4_size_6 : decode cX4_size 6 = .ok (.aload_n 0, 1) := by decide +kernel
theorem dX4_size_7 : decode cX4_size 7 = .ok (.iload_n 1, 1) := by decide +kernel
theorem dX4_size_8 : decode cX4_size 8 = .ok (.aload_n 2, 1) := by decide +kernel
theorem dX4_size_9 : decode cX4_size 9 = .ok (.invokespecial 23, 3) := by decide +kernel
theorem dX4_size_12 : decode cX4_size 12 = .ok (.istore_n 3, 1) := by decide +kernel
theorem dX4_size_13 : decode cX4_size 13 = .ok (.iload_n 3, 1) := by decide +kernel
theorem dX4_size_14 : decode cX4_size 14 = .ok (.aload_n 0, 1) := by decide +kernel
theorem dX4_size_15 : decode cX4_size 15 = .ok (.iload_n 1, 1) := by decide +kernel
theorem dX4_size_16 : decode cX4_size 16 = .ok (.aload_n 2, 1) := by decide +kernel
theorem dX4_size_17 : decode cX4_size 17 = .ok (.invokevirtual 27, 3) := by decide +kernel
theorem dX4_size_20 : decode cX4_size 20 = .ok (.iadd, 1) := by decide +kernel
theorem dX4_size_21 : decode cX4_size 21 = .ok (.ireturn, 1) := by decide +kernel
theorem dX4_mark_0 : decode cX4_mark 0 = .ok (.aload_n 2, 1) := by decide +kernel
theorem dX4_mark_1 : decode cX4_mark 1 = .ok (.bipush 21, 2) := by decide +kernel
theorem dX4_mark_3 : decode cX4_mark 3 = .ok (.invokevirtual 17, 3) := by decide +kernel
theorem dX4_mark_6 : decode cX4_mark 6 = .ok (.aload_n 0, 1) := by decide +kernel
theorem dX4_mark_7 : decode cX4_mark 7 = .ok (.iload_n 1, 1) := by decide +kernel
theorem dX4_mark_8 : decode cX4_mark 8 = .ok (.aload_n 2, 1) := by decide +kernel
theorem dX4_mark_9 : decode cX4_mark 9 = .ok (.invokespecial 30, 3) := by decide +kernel
theorem dX4_mark_12 : decode cX4_mark 12 = .ok (.iload_n 1, 1) := by decide +kernel
theorem dX4_mark_13 : decode cX4_mark 13 = .ok (.iadd, 1) := by decide +kernel
theorem dX4_mark_14 : decode cX4_mark 14 = .ok (.ireturn, 1) := by decide +kernel
theorem dX5_init_0 : decode cX5_init 0 = .ok (.aload_n 0, 1) := by decide +kernel
theorem dX5_init_1 : decode cX5_init 1 = .ok (.iload_n 1, 1) := by decide +kernel
theorem dX5_init_2 : decode cX5_init 2 = .ok (.iload_n 2, 1) := by decide +kernel
theorem dX5_init_3 : decode cX5_init 3 = .ok (.iload_n 3, 1) := by decide +kernel
theorem dX5_init_4 : decode cX5_init 4 = .ok (.iload 4, 2) := by decide +kernel
theorem dX5_init_6 : decode cX5_init 6 = .ok (.invokespecial 1, 3) := by decide +kernel
theorem dX5_init_9 : decode cX5_init 9 = .ok (.return_, 1) := by decide +kernel
theorem dX5_sort_0 : decode cX5_sort 0 = .ok (.iconst 4, 1) := by decide +kernel
theorem dX5_sort_1 : decode cX5_sort 1 = .ok (.ireturn, 1) := by decide +kernel
theorem dX5_is_0 : decode cX5_is 0 = .ok (.iload_n 1, 1) := by decide +kernel
theorem dX5_is_1 : decode cX5_is 1 = .ok (.iconst 4, 1) := by decide +kernel
theorem dX5_is_2 : decode cX5_is 2 = .ok (.if_icmp .eq 11, 3) := by decide +kernel
theorem dX5_is_5 : decode cX5_is 5 = .ok (.aload_n 0, 1) := by decide +kernel
theorem dX5_is_6 : decode cX5_is 6 = .ok (.iload_n 1, 1) := by decide +kernel
theorem dX5_is_7 : decode cX5_is 7 = .ok (.invokespecial 7, 3) := by decide +kernel
theorem dX5_is_10 : decode cX5_is 10 = .ok (.ifCond .eq 7, 3) := by decide +kernel
theorem dX5_is_13 : decode cX5_is 13 = .ok (.iconst 1, 1) := by decide +kernel
theorem dX5_is_14 : decode cX5_is 14 = .ok (.goto 4, 3) := by decide +kernel
theorem dX5_is_17 : decode cX5_is 17 = .ok (.iconst 0, 1) := by decide +kernel
theorem dX5_is_18 : decode cX5_is 18 = .ok (.ireturn, 1) := by decide +kernel
theorem dX5_loud_0 : decode cX5_loud 0 = .ok (.iconst 1, 1) := by decide +kernel
theorem dX5_loud_1 : decode cX5_loud 1 = .ok (.ireturn, 1) := by decide +kernel
theorem dX5_keyBit_0 : decode cX5_keyBit 0 = .ok (.iconst 1, 1) := by decide +kernel
theorem dX5_keyBit_1 : decode cX5_keyBit 1 = .ok (.aload_n 0, 1) := by decide +kernel
theorem dX5_keyBit_2 : decode cX5_keyBit 2 = .ok (.getfield 11, 3) := by decide +kernel
theorem dX5_keyBit_5 : decode cX5_keyBit 5 = .ok (.bipush 6, 2) := by decide +kernel
theorem dX5_keyBit_7 : decode cX5_keyBit 7 = .ok (.irem, 1) := by decide +kernel
theorem dX5_keyBit_8 : decode cX5_keyBit 8 = .ok (.ishl, 1) := by decide +kernel
theorem dX5_keyBit_9 : decode cX5_keyBit 9 = .ok (.ireturn, 1) := by decide +kernel
theorem dX5_size_0 : decode cX5_size 0 = .ok (.aload_n 2, 1) := by decide +kernel
theorem dX5_size_1 : decode cX5_size 1 = .ok (.bipush 13, 2) := by decide +kernel
theorem dX5_size_3 : decode cX5_size 3 = .ok (.invokevirtual 17, 3) := by decide +kernel
theorem dX5_size_6 : decode cX5_size 6 = .ok (.aload_n 0, 1) := by decide +kernel
theorem dX5_size_7 : decode cX5_size 7 = .ok (.iload_n 1, 1) := by decide +kernel
theorem dX5_size_8 : decode cX5_size 8 = .ok (.aload_n 2, 1) := by decide +kernel
theorem dX5_size_9 : decode cX5_size 9 = .ok (.invokespecial 23, 3) := by decide +kernel
theorem dX5_size_12 : decode cX5_size 12 = .ok (.bipush 100, 2) := by decide +kernel
theorem dX5_size_14 : decode cX5_size 14 = .ok (.isub, 1) := by decide +kernel
theorem dX5_size_15 : decode cX5_size 15 = .ok (.ireturn, 1) := by decide +kernel
theorem dX5_mark_0 : decode cX5_mark 0 = .ok (.aload_n 2, 1) := by decide +kernel
theorem dX5_mark_1 : decode cX5_mark 1 = .ok (.bipush 23, 2) := by decide +kernel
theorem dX5_mark_3 : decode cX5_mark 3 = .ok (.invokevirtual 17, 3) := by decide +kernel
theorem dX5_mark_6 : decode cX5_mark 6 = .ok (.aload_n 0, 1) := by decide +kernel
theorem dX5_mark_7 : decode cX5_mark 7 = .ok (.iload_n 1, 1) := by decide +kernel
theorem dX5_mark_8 : decode cX5_mark 8 = .ok (.aload_n 2, 1) := by decide +kernel
theorem dX5_mark_9 : decode cX5_mark 9 = .ok (.invokespecial 27, 3) := by decide +kernel
theorem dX5_mark_12 : decode cX5_mark 12 = .ok (.istore_n 3, 1) := by decide +kernel
theorem dX5_mark_13 : decode cX5_mark 13 = .ok (.iload_n 3, 1) := by decide +kernel
theorem dX5_mark_14 : decode cX5_mark 14 = .ok (.aload_n 0, 1) := by decide +kernel
theorem dX5_mark_15 : decode cX5_mark 15 = .ok (.iload_n 1, 1) := by decide +kernel
theorem dX5_mark_16 : decode cX5_mark 16 = .ok (.aload_n 2, 1) := by decide +kernel
theorem dX5_mark_17 : decode cX5_mark 17 = .ok (.invokevirtual 30, 3) := by decide +kernel
theorem dX5_mark_20 : decode cX5_mark 20 = .ok (.isub, 1) := by decide +kernel
theorem dX5_mark_21 : decode cX5_mark 21 = .ok (.ireturn, 1) := by decide +kernel
theorem dX6_init_0 : decode cX6_init 0 = .ok (.aload_n 0, 1) := by decide +kernel
theorem dX6_init_1 : decode cX6_init 1 = .ok (.invokespecial 3, 3) := by decide +kernel
theorem dX6_init_4 : decode cX6_init 4 = .ok (.aload_n 0, 1) := by decide +kernel
theorem dX6_init_5 : decode cX6_init 5 = .ok (.iconst 0, 1) := by decide +kernel
theorem dX6_init_6 : decode cX6_init 6 = .ok (.iload_n 1, 1) := by decide +kernel
theorem dX6_init_7 : decode cX6_init 7 = .ok (.invokestatic 9, 3) := by decide +kernel
theorem dX6_init_10 : decode cX6_init 10 = .ok (.newarray .int, 2) := by decide +kernel
theorem dX6_init_12 : decode cX6_init 12 = .ok (.putfield 15, 3) := by decide +kernel
theorem dX6_init_15 : decode cX6_init 15 = .ok (.return_, 1) := by decide +kernel
theorem dX6_clear_0 : decode cX6_clear 0 = .ok (.aload_n 0, 1) := by decide +kernel
theorem dX6_clear_1 : decode cX6_clear 1 = .ok (.iconst 0, 1) := by decide +kernel
theorem dX6_clear_2 : decode cX6_clear 2 = .ok (.putfield 21, 3) := by decide +kernel
theorem dX6_clear_5 : decode cX6_clear 5 = .ok (.return_, 1) := by decide +kernel
theorem dX6_add_0 : decode cX6_add 0 = .ok (.aload_n 0, 1) := by decide +kernel
theorem dX6_add_1 : decode cX6_add 1 = .ok (.getfield 21, 3) := by decide +kernel
theorem dX6_add_4 : decode cX6_add 4 = .ok (.aload_n 0, 1) := by decide +kernel
theorem dX6_add_5 : decode cX6_add 5 = .ok (.getfield 15, 3) := by decide +kernel
theorem dX6_add_8 : decode cX6_add 8 = .ok (.arraylength, 1) := by decide +kernel
theorem dX6_add_9 : decode cX6_add 9 = .ok (.if_icmp .ge 23, 3) := by decide +kernel
theorem dX6_add_12 : decode cX6_add 12 = .ok (.aload_n 0, 1) := by decide +kernel
theorem dX6_add_13 : decode cX6_add 13 = .ok (.getfield 15, 3) := by decide +kernel
theorem dX6_add_16 : decode cX6_add 16 = .ok (.aload_n 0, 1) := by decide +kernel
theorem dX6_add_17 : decode cX6_add 17 = .ok (.getfield 21, 3) := by decide +kernel
theorem dX6_add_20 : decode cX6_add 20 = .ok (.iload_n 1, 1) := by decide +kernel
theorem dX6_add_21 : decode cX6_add 21 = .ok (.iastore, 1) := by decide +kernel
theorem dX6_add_22 : decode cX6_add 22 = .ok (.aload_n 0, 1) := by decide +kernel
theorem dX6_add_23 : decode cX6_add 23 = .ok (.dup, 1) := by decide +kernel
theorem dX6_add_24 : decode cX6_add 24 = .ok (.getfield 21, 3) := by decide +kernel
theorem dX6_add_27 : decode cX6_add 27 = .ok (.iconst 1, 1) := by decide +kernel
theorem dX6_add_28 : decode cX6_add 28 = .ok (.iadd, 1) := by decide +kernel
theorem dX6_add_29 : decode cX6_add 29 = .ok (.putfield 21, 3) := by decide +kernel
theorem dX6_add_32 : decode cX6_add 32 = .ok (.return_, 1) := by decide +kernel
theorem dX6_at_0 : decode cX6_at 0 = .ok (.iload_n 1, 1) := by decide +kernel
theorem dX6_at_1 : decode cX6_at 1 = .ok (.ifCond .lt 20, 3) := by decide +kernel
theorem dX6_at_4 : decode cX6_at 4 = .ok (.iload_n 1, 1) := by decide +kernel
theorem dX6_at_5 : decode cX6_at 5 = .ok (.aload_n 0, 1) := by decide +kernel
theorem dX6_at_6 : decode cX6_at 6 = .ok (.getfield 21, 3) := by decide +kernel
theorem dX6_at_9 : decode cX6_at 9 = .ok (.if_icmp .ge 12, 3) := by decide +kernel
theorem dX6_at_12 : decode cX6_at 12 = .ok (.aload_n 0, 1) := by decide +kernel
theorem dX6_at_13 : decode cX6_at 13 = .ok (.getfield 15, 3) := by decide +kernel
theorem dX6_at_16 : decode cX6_at 16 = .ok (.iload_n 1, 1) := by decide +kernel
theorem dX6_at_17 : decode cX6_at 17 = .ok (.iaload, 1) := by decide +kernel
theorem dX6_at_18 : decode cX6_at 18 = .ok (.goto 5, 3) := by decide +kernel
theorem dX6_at_21 : decode cX6_at 21 = .ok (.ldc 25, 2) := by decide +kernel
theorem dX6_at_23 : decode cX6_at 23 = .ok (.ireturn, 1) := by decide +kernel
theorem dX7_init_0 : decode cX7_init 0 = .ok (.aload_n 0, 1) := by decide +kernel
theorem dX7_init_1 : decode cX7_init 1 = .ok (.invokespecial 3, 3) := by decide +kernel
theorem dX7_init_4 : decode cX7_init 4 = .ok (.aload_n 0, 1) := by decide +kernel
theorem dX7_init_5 : decode cX7_init 5 = .ok (.bipush 110, 2) := by decide +kernel
theorem dX7_init_7 : decode cX7_init 7 = .ok (.newarray .int, 2) := by decide +kernel
theorem dX7_init_9 : decode cX7_init 9 = .ok (.putfield 9, 3) := by decide +kernel
theorem dX7_init_12 : decode cX7_init 12 = .ok (.aload_n 0, 1) := by decide +kernel
theorem dX7_init_13 : decode cX7_init 13 = .ok (.new 15, 3) := by decide +kernel
theorem dX7_init_16 : decode cX7_init 16 = .ok (.dup, 1) := by decide +kernel
theorem dX7_init_17 : decode cX7_init 17 = .ok (.invokespecial 17, 3) := by decide +kernel
theorem dX7_init_20 : decode cX7_init 20 = .ok (.putfield 18, 3) := by decide +kernel
theorem dX7_init_23 : decode cX7_init 23 = .ok (.return_, 1) := by decide +kernel
theorem dX7_isFull_0 : decode cX7_isFull 0 = .ok (.aload_n 0, 1) := by decide +kernel
theorem dX7_isFull_1 : decode cX7_isFull 1 = .ok (.getfield 22, 3) := by decide +kernel
theorem dX7_isFull_4 : decode cX7_isFull 4 = .ok (.bipush 110, 2) := by decide +kernel
theorem dX7_isFull_6 : decode cX7_isFull 6 = .ok (.if_icmp .lt 7, 3) := by decide +kernel
theorem dX7_isFull_9 : decode cX7_isFull 9 = .ok (.iconst 1, 1) := by decide +kernel
theorem dX7_isFull_10 : decode cX7_isFull 10 = .ok (.goto 4, 3) := by decide +kernel
theorem dX7_isFull_13 : decode cX7_isFull 13 = .ok (.iconst 0, 1) := by decide +kernel
theorem dX7_isFull_14 : decode cX7_isFull 14 = .ok (.ireturn, 1) := by decide +kernel
theorem dX7_take_0 : decode cX7_take 0 = .ok (.aload_n 0, 1) := by decide +kernel
theorem dX7_take_1 : decode cX7_take 1 = .ok (.invokevirtual 26, 3) := by decide +kernel
theorem dX7_take_4 : decode cX7_take 4 = .ok (.ifCond .ne 23, 3) := by decide +kernel
theorem dX7_take_7 : decode cX7_take 7 = .ok (.aload_n 0, 1) := by decide +kernel
theorem dX7_take_8 : decode cX7_take 8 = .ok (.getfield 9, 3) := by decide +kernel
theorem dX7_take_11 : decode cX7_take 11 = .ok (.aload_n 0, 1) := by decide +kernel
theorem dX7_take_12 : decode cX7_take 12 = .ok (.getfield 22, 3) := by decide +kernel
theorem dX7_take_15 : decode cX7_take 15 = .ok (.iload_n 1, 1) := by decide +kernel
theorem dX7_take_16 : decode cX7_take 16 = .ok (.iastore, 1) := by decide +kernel
theorem dX7_take_17 : decode cX7_take 17 = .ok (.aload_n 0, 1) := by decide +kernel
theorem dX7_take_18 : decode cX7_take 18 = .ok (.dup, 1) := by decide +kernel
theorem dX7_take_19 : decode cX7_take 19 = .ok (.getfield 22, 3) := by decide +kernel
theorem dX7_take_22 : decode cX7_take 22 = .ok (.iconst 1, 1) := by decide +kernel
theorem dX7_take_23 : decode cX7_take 23 = .ok (.iadd, 1) := by decide +kernel
theorem dX7_take_24 : decode cX7_take 24 = .ok (.putfield 22, 3) := by decide +kernel
theorem dX7_take_27 : decode cX7_take 27 = .ok (.aload_n 0, 1) := by decide +kernel
theorem dX7_take_28 : decode cX7_take 28 = .ok (.getfield 22, 3) := by decide +kernel
theorem dX7_take_31 : decode cX7_take 31 = .ok (.ireturn, 1) := by decide +kernel
theorem dX7_read_0 : decode cX7_read 0 = .ok (.aload_n 0, 1) := by decide +kernel
theorem dX7_read_1 : decode cX7_read 1 = .ok (.iconst 0, 1) := by decide +kernel
theorem dX7_read_2 : decode cX7_read 2 = .ok (.putfield 30, 3) := by decide +kernel
theorem dX7_read_5 : decode cX7_read 5 = .ok (.aload_n 0, 1) := by decide +kernel
theorem dX7_read_6 : decode cX7_read 6 = .ok (.iconst 0, 1) := by decide +kernel
theorem dX7_read_7 : decode cX7_read 7 = .ok (.putfield 33, 3) := by decide +kernel
theorem dX7_read_10 : decode cX7_read 10 = .ok (.aload_n 0, 1) := by decide +kernel
theorem dX7_read_11 : decode cX7_read 11 = .ok (.getfield 18, 3) := by decide +kernel
theorem dX7_read_14 : decode cX7_read 14 = .ok (.invokevirtual 36, 3) := by decide +kernel
theorem dX7_read_17 : decode cX7_read 17 = .ok (.aload_n 0, 1) := by decide +kernel
theorem dX7_read_18 : decode cX7_read 18 = .ok (.invokevirtual 39, 3) := by decide +kernel
theorem dX7_read_21 : decode cX7_read 21 = .ok (.iconst 0, 1) := by decide +kernel
theorem dX7_read_22 : decode cX7_read 22 = .ok (.istore_n 1, 1) := by decide +kernel
theorem dX7_read_23 : decode cX7_read 23 = .ok (.iload_n 1, 1) := by decide +kernel
theorem dX7_read_24 : decode cX7_read 24 = .ok (.bipush 110, 2) := by decide +kernel
theorem dX7_read_26 : decode cX7_read 26 = .ok (.if_icmp .ge 29, 3) := by decide +kernel
theorem dX7_read_29 : decode cX7_read 29 = .ok (.aload_n 0, 1) := by decide +kernel
theorem dX7_read_30 : decode cX7_read 30 = .ok (.getfield 33, 3) := by decide +kernel
theorem dX7_read_33 : decode cX7_read 33 = .ok (.ifCond .ne 22, 3) := by decide +kernel
theorem dX7_read_36 : decode cX7_read 36 = .ok (.aload_n 0, 1) := by decide +kernel
theorem dX7_read_37 : decode cX7_read 37 = .ok (.bipush 114, 2) := by decide +kernel
theorem dX7_read_39 : decode cX7_read 39 = .ok (.invokevirtual 42, 3) := by decide +kernel
theorem dX7_read_42 : decode cX7_read 42 = .ok (.ifCond .eq 13, 3) := by decide +kernel
theorem dX7_read_45 : decode cX7_read 45 = .ok (.aload_n 0, 1) := by decide +kernel
theorem dX7_read_46 : decode cX7_read 46 = .ok (.invokevirtual 46, 3) := by decide +kernel
theorem dX7_read_49 : decode cX7_read 49 = .ok (.iinc 1 1, 3) := by decide +kernel
theorem dX7_read_52 : decode cX7_read 52 = .ok (.goto (-29), 3) := by decide +kernel
theorem dX7_read_55 : decode cX7_read 55 = .ok (.aload_n 0, 1) := by decide +kernel
theorem dX7_read_56 : decode cX7_read 56 = .ok (.getfield 18, 3) := by decide +kernel
theorem dX7_read_59 : decode cX7_read 59 = .ok (.getfield 49, 3) := by decide +kernel
theorem dX7_read_62 : decode cX7_read 62 = .ok (.iconst 2, 1) := by decide +kernel
theorem dX7_read_63 : decode cX7_read 63 = .ok (.if_icmp .ge 8, 3) := by decide +kernel
theorem dX7_read_66 : decode cX7_read 66 = .ok (.aload_n 0, 1) := by decide +kernel
theorem dX7_read_67 : decode cX7_read 67 = .ok (.iconst 1, 1) := by decide +kernel
theorem dX7_read_68 : decode cX7_read 68 = .ok (.invokevirtual 52, 3) := by decide +kernel
theorem dX7_read_71 : decode cX7_read 71 = .ok (.iconst 0, 1) := by decide +kernel
theorem dX7_read_72 : decode cX7_read 72 = .ok (.istore_n 1, 1) := by decide +kernel
theorem dX7_read_73 : decode cX7_read 73 = .ok (.iload_n 1, 1) := by decide +kernel
theorem dX7_read_74 : decode cX7_read 74 = .ok (.bipush 110, 2) := by decide +kernel
theorem dX7_read_76 : decode cX7_read 76 = .ok (.if_icmp .ge 27, 3) := by decide +kernel
theorem dX7_read_79 : decode cX7_read 79 = .ok (.aload_n 0, 1) := by decide +kernel
theorem dX7_read_80 : decode cX7_read 80 = .ok (.getfield 33, 3) := by decide +kernel
theorem dX7_read_83 : decode cX7_read 83 = .ok (.ifCond .ne 20, 3) := by decide +kernel
theorem dX7_read_86 : decode cX7_read 86 = .ok (.aload_n 0, 1) := by decide +kernel
theorem dX7_read_87 : decode cX7_read 87 = .ok (.invokevirtual 56, 3) := by decide +kernel
theorem dX7_read_90 : decode cX7_read 90 = .ok (.ifCond .eq 13, 3) := by decide +kernel
theorem dX7_read_93 : decode cX7_read 93 = .ok (.aload_n 0, 1) := by decide +kernel
theorem dX7_read_94 : decode cX7_read 94 = .ok (.invokevirtual 60, 3) := by decide +kernel
theorem dX7_read_97 : decode cX7_read 97 = .ok (.iinc 1 1, 3) := by decide +kernel
theorem dX7_read_100 : decode cX7_read 100 = .ok (.goto (-27), 3) := by decide +kernel
theorem dX7_read_103 : decode cX7_read 103 = .ok (.aload_n 0, 1) := by decide +kernel
theorem dX7_read_104 : decode cX7_read 104 = .ok (.getfield 18, 3) := by decide +kernel
theorem dX7_read_107 : decode cX7_read 107 = .ok (.getfield 63, 3) := by decide +kernel
theorem dX7_read_110 : decode cX7_read 110 = .ok (.iconst 1, 1) := by decide +kernel
theorem dX7_read_111 : decode cX7_read 111 = .ok (.if_icmp .lt 14, 3) := by decide +kernel
theorem dX7_read_114 : decode cX7_read 114 = .ok (.aload_n 0, 1) := by decide +kernel
theorem dX7_read_115 : decode cX7_read 115 = .ok (.getfield 30, 3) := by decide +kernel
theorem dX7_read_118 : decode cX7_read 118 = .ok (.aload_n 0, 1) := by decide +kernel
theorem dX7_read_119 : decode cX7_read 119 = .ok (.getfield 22, 3) := by decide +kernel
theorem dX7_read_122 : decode cX7_read 122 = .ok (.if_icmp .ge 8, 3) := by decide +kernel
theorem dX7_read_125 : decode cX7_read 125 = .ok (.aload_n 0, 1) := by decide +kernel
theorem dX7_read_126 : decode cX7_read 126 = .ok (.iconst 1, 1) := by decide +kernel
theorem dX7_read_127 : decode cX7_read 127 = .ok (.invokevirtual 52, 3) := by decide +kernel
theorem dX7_read_130 : decode cX7_read 130 = .ok (.aload_n 0, 1) := by decide +kernel
theorem dX7_read_131 : decode cX7_read 131 = .ok (.iconst 0, 1) := by decide +kernel
theorem dX7_read_132 : decode cX7_read 132 = .ok (.putfield 22, 3) := by decide +kernel
theorem dX7_read_135 : decode cX7_read 135 = .ok (.return_, 1) := by decide +kernel
theorem dX7_readLaw_0 : decode cX7_readLaw 0 = .ok (.aload_n 0, 1) := by decide +kernel
theorem dX7_readLaw_1 : decode cX7_readLaw 1 = .ok (.bipush 104, 2) := by decide +kernel
theorem dX7_readLaw_3 : decode cX7_readLaw 3 = .ok (.invokevirtual 66, 3) := by decide +kernel
theorem dX7_readLaw_6 : decode cX7_readLaw 6 = .ok (.aload_n 0, 1) := by decide +kernel
theorem dX7_readLaw_7 : decode cX7_readLaw 7 = .ok (.getfield 18, 3) := by decide +kernel
theorem dX7_readLaw_10 : decode cX7_readLaw 10 = .ok (.aload_n 0, 1) := by decide +kernel
theorem dX7_readLaw_11 : decode cX7_readLaw 11 = .ok (.iconst 1, 1) := by decide +kernel
theorem dX7_readLaw_12 : decode cX7_readLaw 12 = .ok (.bipush 9, 2) := by decide +kernel
theorem dX7_readLaw_14 : decode cX7_readLaw 14 = .ok (.iconst (-1), 1) := by decide +kernel
theorem dX7_readLaw_15 : decode cX7_readLaw 15 = .ok (.invokevirtual 69, 3) := by decide +kernel
theorem dX7_readLaw_18 : decode cX7_readLaw 18 = .ok (.putfield 73, 3) := by decide +kernel
theorem dX7_readLaw_21 : decode cX7_readLaw 21 = .ok (.aload_n 0, 1) := by decide +kernel
theorem dX7_readLaw_22 : decode cX7_readLaw 22 = .ok (.bipush 44, 2) := by decide +kernel
theorem dX7_readLaw_24 : decode cX7_readLaw 24 = .ok (.invokevirtual 66, 3) := by decide +kernel
theorem dX7_readLaw_27 : decode cX7_readLaw 27 = .ok (.aload_n 0, 1) := by decide +kernel
theorem dX7_readLaw_28 : decode cX7_readLaw 28 = .ok (.getfield 18, 3) := by decide +kernel
theorem dX7_readLaw_31 : decode cX7_readLaw 31 = .ok (.aload_n 0, 1) := by decide +kernel
theorem dX7_readLaw_32 : decode cX7_readLaw 32 = .ok (.iconst 1, 1) := by decide +kernel
theorem dX7_readLaw_33 : decode cX7_readLaw 33 = .ok (.bipush 60, 2) := by decide +kernel
theorem dX7_readLaw_35 : decode cX7_readLaw 35 = .ok (.iconst (-1), 1) := by decide +kernel
theorem dX7_readLaw_36 : decode cX7_readLaw 36 = .ok (.invokevirtual 69, 3) := by decide +kernel
theorem dX7_readLaw_39 : decode cX7_readLaw 39 = .ok (.putfield 76, 3) := by decide +kernel
theorem dX7_readLaw_42 : decode cX7_readLaw 42 = .ok (.aload_n 0, 1) := by decide +kernel
theorem dX7_readLaw_43 : decode cX7_readLaw 43 = .ok (.bipush 44, 2) := by decide +kernel
theorem dX7_readLaw_45 : decode cX7_readLaw 45 = .ok (.invokevirtual 66, 3) := by decide +kernel
theorem dX7_readLaw_48 : decode cX7_readLaw 48 = .ok (.aload_n 0, 1) := by decide +kernel
theorem dX7_readLaw_49 : decode cX7_readLaw 49 = .ok (.getfield 18, 3) := by decide +kernel
theorem dX7_readLaw_52 : decode cX7_readLaw 52 = .ok (.aload_n 0, 1) := by decide +kernel
theorem dX7_readLaw_53 : decode cX7_readLaw 53 = .ok (.iconst 0, 1) := by decide +kernel
theorem dX7_readLaw_54 : decode cX7_readLaw 54 = .ok (.bipush 63, 2) := by decide +kernel
theorem dX7_readLaw_56 : decode cX7_readLaw 56 = .ok (.iconst (-1), 1) := by decide +kernel
theorem dX7_readLaw_57 : decode cX7_readLaw 57 = .ok (.invokevirtual 69, 3) := by decide +kernel
theorem dX7_readLaw_60 : decode cX7_readLaw 60 = .ok (.putfield 79, 3) := by decide +kernel
theorem dX7_readLaw_63 : decode cX7_readLaw 63 = .ok (.aload_n 0, 1) := by decide +kernel
theorem dX7_readLaw_64 : decode cX7_readLaw 64 = .ok (.bipush 59, 2) := by decide +kernel
theorem dX7_readLaw_66 : decode cX7_readLaw 66 = .ok (.invokevirtual 66, 3) := by decide +kernel
theorem dX7_readLaw_69 : decode cX7_readLaw 69 = .ok (.return_, 1) := by decide +kernel
theorem dX7_readRoom_0 : decode cX7_readRoom 0 = .ok (.aload_n 0, 1) := by decide +kernel
theorem dX7_readRoom_1 : decode cX7_readRoom 1 = .ok (.getfield 18, 3) := by decide +kernel
theorem dX7_readRoom_4 : decode cX7_readRoom 4 = .ok (.getfield 49, 3) := by decide +kernel
theorem dX7_readRoom_7 : decode cX7_readRoom 7 = .ok (.bipush 8, 2) := by decide +kernel
theorem dX7_readRoom_9 : decode cX7_readRoom 9 = .ok (.if_icmp .lt 8, 3) := by decide +kernel
theorem dX7_readRoom_12 : decode cX7_readRoom 12 = .ok (.aload_n 0, 1) := by decide +kernel
theorem dX7_readRoom_13 : decode cX7_readRoom 13 = .ok (.iconst 3, 1) := by decide +kernel
theorem dX7_readRoom_14 : decode cX7_readRoom 14 = .ok (.invokevirtual 52, 3) := by decide +kernel
theorem dX7_readRoom_17 : decode cX7_readRoom 17 = .ok (.aload_n 0, 1) := by decide +kernel
theorem dX7_readRoom_18 : decode cX7_readRoom 18 = .ok (.bipush 114, 2) := by decide +kernel
theorem dX7_readRoom_20 : decode cX7_readRoom 20 = .ok (.invokevirtual 66, 3) := by decide +kernel
theorem dX7_readRoom_23 : decode cX7_readRoom 23 = .ok (.aload_n 0, 1) := by decide +kernel
theorem dX7_readRoom_24 : decode cX7_readRoom 24 = .ok (.iconst 0, 1) := by decide +kernel
theorem dX7_readRoom_25 : decode cX7_readRoom 25 = .ok (.bipush 20, 2) := by decide +kernel
theorem dX7_readRoom_27 : decode cX7_readRoom 27 = .ok (.iconst (-1), 1) := by decide +kernel
theorem dX7_readRoom_28 : decode cX7_readRoom 28 = .ok (.invokevirtual 69, 3) := by decide +kernel
theorem dX7_readRoom_31 : decode cX7_readRoom 31 = .ok (.istore_n 1, 1) := by decide +kernel
theorem dX7_readRoom_32 : decode cX7_readRoom 32 = .ok (.aload_n 0, 1) := by decide +kernel
theorem dX7_readRoom_33 : decode cX7_readRoom 33 = .ok (.bipush 59, 2) := by decide +kernel
theorem dX7_readRoom_35 : decode cX7_readRoom 35 = .ok (.invokevirtual 66, 3) := by decide +kernel
theorem dX7_readRoom_38 : decode cX7_readRoom 38 = .ok (.aload_n 0, 1) := by decide +kernel
theorem dX7_readRoom_39 : decode cX7_readRoom 39 = .ok (.getfield 33, 3) := by decide +kernel
theorem dX7_readRoom_42 : decode cX7_readRoom 42 = .ok (.ifCond .ne 11, 3) := by decide +kernel
theorem dX7_readRoom_45 : decode cX7_readRoom 45 = .ok (.aload_n 0, 1) := by decide +kernel
theorem dX7_readRoom_46 : decode cX7_readRoom 46 = .ok (.getfield 18, 3) := by decide +kernel
theorem dX7_readRoom_49 : decode cX7_readRoom 49 = .ok (.iload_n 1, 1) := by decide +kernel
theorem dX7_readRoom_50 : decode cX7_readRoom 50 = .ok (.invokevirtual 82, 3) := by decide +kernel
theorem dX7_readRoom_53 : decode cX7_readRoom 53 = .ok (.return_, 1) := by decide +kernel
theorem dX7_readDoor_0 : decode cX7_readDoor 0 = .ok (.aload_n 0, 1) := by decide +kernel
theorem dX7_readDoor_1 : decode cX7_readDoor 1 = .ok (.getfield 18, 3) := by decide +kernel
theorem dX7_readDoor_4 : decode cX7_readDoor 4 = .ok (.getfield 63, 3) := by decide +kernel
theorem dX7_readDoor_7 : decode cX7_readDoor 7 = .ok (.bipush 8, 2) := by decide +kernel
theorem dX7_readDoor_9 : decode cX7_readDoor 9 = .ok (.if_icmp .lt 8, 3) := by decide +kernel
theorem dX7_readDoor_12 : decode cX7_readDoor 12 = .ok (.aload_n 0, 1) := by decide +kernel
theorem dX7_readDoor_13 : decode cX7_readDoor 13 = .ok (.iconst 3, 1) := by decide +kernel
theorem dX7_readDoor_14 : decode cX7_readDoor 14 = .ok (.invokevirtual 52, 3) := by decide +kernel
theorem dX7_readDoor_17 : decode cX7_readDoor 17 = .ok (.aload_n 0, 1) := by decide +kernel
theorem dX7_readDoor_18 : decode cX7_readDoor 18 = .ok (.invokevirtual 56, 3) := by decide +kernel
theorem dX7_readDoor_21 : decode cX7_readDoor 21 = .ok (.istore_n 1, 1) := by decide +kernel
theorem dX7_readDoor_22 : decode cX7_readDoor 22 = .ok (.aload_n 0, 1) := by decide +kernel
theorem dX7_readDoor_23 : decode cX7_readDoor 23 = .ok (.aload_n 0, 1) := by decide +kernel
theorem dX7_readDoor_24 : decode cX7_readDoor 24 = .ok (.invokevirtual 85, 3) := by decide +kernel
theorem dX7_readDoor_27 : decode cX7_readDoor 27 = .ok (.invokevirtual 66, 3) := by decide +kernel
theorem dX7_readDoor_30 : decode cX7_readDoor 30 = .ok (.aload_n 0, 1) := by decide +kernel
theorem dX7_readDoor_31 : decode cX7_readDoor 31 = .ok (.iconst 0, 1) := by decide +kernel
theorem dX7_readDoor_32 : decode cX7_readDoor 32 = .ok (.aload_n 0, 1) := by decide +kernel
theorem dX7_readDoor_33 : decode cX7_readDoor 33 = .ok (.getfield 18, 3) := by decide +kernel
theorem dX7_readDoor_36 : decode cX7_readDoor 36 = .ok (.getfield 49, 3) := by decide +kernel
theorem dX7_readDoor_39 : decode cX7_readDoor 39 = .ok (.iconst 1, 1) := by decide +kernel
theorem dX7_readDoor_40 : decode cX7_readDoor 40 = .ok (.isub, 1) := by decide +kernel
theorem dX7_readDoor_41 : decode cX7_readDoor 41 = .ok (.iconst (-1), 1) := by decide +kernel
theorem dX7_readDoor_42 : decode cX7_readDoor 42 = .ok (.invokevirtual 69, 3) := by decide +kernel
theorem dX7_readDoor_45 : decode cX7_readDoor 45 = .ok (.istore_n 2, 1) := by decide +kernel
theorem dX7_readDoor_46 : decode cX7_readDoor 46 = .ok (.aload_n 0, 1) := by decide +kernel
theorem dX7_readDoor_47 : decode cX7_readDoor 47 = .ok (.bipush 44, 2) := by decide +kernel
theorem dX7_readDoor_49 : decode cX7_readDoor 49 = .ok (.invokevirtual 66, 3) := by decide +kernel
theorem dX7_readDoor_52 : decode cX7_readDoor 52 = .ok (.aload_n 0, 1) := by decide +kernel
theorem dX7_readDoor_53 : decode cX7_readDoor 53 = .ok (.iconst 0, 1) := by decide +kernel
theorem dX7_readDoor_54 : decode cX7_readDoor 54 = .ok (.aload_n 0, 1) := by decide +kernel
theorem dX7_readDoor_55 : decode cX7_readDoor 55 = .ok (.getfield 18, 3) := by decide +kernel
theorem dX7_readDoor_58 : decode cX7_readDoor 58 = .ok (.getfield 49, 3) := by decide +kernel
theorem dX7_readDoor_61 : decode cX7_readDoor 61 = .ok (.iconst 1, 1) := by decide +kernel
theorem dX7_readDoor_62 : decode cX7_readDoor 62 = .ok (.isub, 1) := by decide +kernel
theorem dX7_readDoor_63 : decode cX7_readDoor 63 = .ok (.iload_n 2, 1) := by decide +kernel
theorem dX7_readDoor_64 : decode cX7_readDoor 64 = .ok (.invokevirtual 69, 3) := by decide +kernel
theorem dX7_readDoor_67 : decode cX7_readDoor 67 = .ok (.istore_n 3, 1) := by decide +kernel
theorem dX7_readDoor_68 : decode cX7_readDoor 68 = .ok (.aload_n 0, 1) := by decide +kernel
theorem dX7_readDoor_69 : decode cX7_readDoor 69 = .ok (.bipush 44, 2) := by decide +kernel
theorem dX7_readDoor_71 : decode cX7_readDoor 71 = .ok (.invokevirtual 66, 3) := by decide +kernel
theorem dX7_readDoor_74 : decode cX7_readDoor 74 = .ok (.aload_n 0, 1) := by decide +kernel
theorem dX7_readDoor_75 : decode cX7_readDoor 75 = .ok (.iconst 0, 1) := by decide +kernel
theorem dX7_readDoor_76 : decode cX7_readDoor 76 = .ok (.bipush 9, 2) := by decide +kernel
theorem dX7_readDoor_78 : decode cX7_readDoor 78 = .ok (.iconst (-1), 1) := by decide +kernel
theorem dX7_readDoor_79 : decode cX7_readDoor 79 = .ok (.invokevirtual 69, 3) := by decide +kernel
theorem dX7_readDoor_82 : decode cX7_readDoor 82 = .ok (.istore 4, 2) := by decide +kernel
theorem dX7_readDoor_84 : decode cX7_readDoor 84 = .ok (.aload_n 0, 1) := by decide +kernel
theorem dX7_readDoor_85 : decode cX7_readDoor 85 = .ok (.bipush 59, 2) := by decide +kernel
theorem dX7_readDoor_87 : decode cX7_readDoor 87 = .ok (.invokevirtual 66, 3) := by decide +kernel
theorem dX7_readDoor_90 : decode cX7_readDoor 90 = .ok (.aload_n 0, 1) := by decide +kernel
theorem dX7_readDoor_91 : decode cX7_readDoor 91 = .ok (.getfield 33, 3) := by decide +kernel
theorem dX7_readDoor_94 : decode cX7_readDoor 94 = .ok (.ifCond .ne 15, 3) := by decide +kernel
theorem dX7_readDoor_97 : decode cX7_readDoor 97 = .ok (.aload_n 0, 1) := by decide +kernel
theorem dX7_readDoor_98 : decode cX7_readDoor 98 = .ok (.getfield 18, 3) := by decide +kernel
theorem dX7_readDoor_101 : decode cX7_readDoor 101 = .ok (.iload_n 1, 1) := by decide +kernel
theorem dX7_readDoor_102 : decode cX7_readDoor 102 = .ok (.iload_n 2, 1) := by decide +kernel
theorem dX7_readDoor_103 : decode cX7_readDoor 103 = .ok (.iload_n 3, 1) := by decide +kernel
theorem dX7_readDoor_104 : decode cX7_readDoor 104 = .ok (.iload 4, 2) := by decide +kernel
theorem dX7_readDoor_106 : decode cX7_readDoor 106 = .ok (.invokevirtual 88, 3) := by decide +kernel
theorem dX7_readDoor_109 : decode cX7_readDoor 109 = .ok (.return_, 1) := by decide +kernel
theorem dX7_fail_0 : decode cX7_fail 0 = .ok (.aload_n 0, 1) := by decide +kernel
theorem dX7_fail_1 : decode cX7_fail 1 = .ok (.getfield 33, 3) := by decide +kernel
theorem dX7_fail_4 : decode cX7_fail 4 = .ok (.ifCond .ne 8, 3) := by decide +kernel
theorem dX7_fail_7 : decode cX7_fail 7 = .ok (.aload_n 0, 1) := by decide +kernel
theorem dX7_fail_8 : decode cX7_fail 8 = .ok (.iload_n 1, 1) := by decide +kernel
theorem dX7_fail_9 : decode cX7_fail 9 = .ok (.putfield 33, 3) := by decide +kernel
theorem dX7_fail_12 : decode cX7_fail 12 = .ok (.return_, 1) := by decide +kernel
theorem dX7_signHere_0 : decode cX7_signHere 0 = .ok (.aload_n 0, 1) := by decide +kernel
theorem dX7_signHere_1 : decode cX7_signHere 1 = .ok (.getfield 30, 3) := by decide +kernel
theorem dX7_signHere_4 : decode cX7_signHere 4 = .ok (.aload_n 0, 1) := by decide +kernel
theorem dX7_signHere_5 : decode cX7_signHere 5 = .ok (.getfield 22, 3) := by decide +kernel
theorem dX7_signHere_8 : decode cX7_signHere 8 = .ok (.if_icmp .ge 15, 3) := by decide +kernel
theorem dX7_signHere_11 : decode cX7_signHere 11 = .ok (.aload_n 0, 1) := by decide +kernel
theorem dX7_signHere_12 : decode cX7_signHere 12 = .ok (.getfield 9, 3) := by decide +kernel
theorem dX7_signHere_15 : decode cX7_signHere 15 = .ok (.aload_n 0, 1) := by decide +kernel
theorem dX7_signHere_16 : decode cX7_signHere 16 = .ok (.getfield 30, 3) := by decide +kernel
theorem dX7_signHere_19 : decode cX7_signHere 19 = .ok (.iaload, 1) := by decide +kernel
theorem dX7_signHere_20 : decode cX7_signHere 20 = .ok (.goto 4, 3) := by decide +kernel
theorem dX7_signHere_23 : decode cX7_signHere 23 = .ok (.iconst (-1), 1) := by decide +kernel
theorem dX7_signHere_24 : decode cX7_signHere 24 = .ok (.ireturn, 1) := by decide +kernel
theorem dX7_sees_0 : decode cX7_sees 0 = .ok (.aload_n 0, 1) := by decide +kernel
theorem dX7_sees_1 : decode cX7_sees 1 = .ok (.invokevirtual 85, 3) := by decide +kernel
theorem dX7_sees_4 : decode cX7_sees 4 = .ok (.iload_n 1, 1) := by decide +kernel
theorem dX7_sees_5 : decode cX7_sees 5 = .ok (.if_icmp .ne 7, 3) := by decide +kernel
theorem dX7_sees_8 : decode cX7_sees 8 = .ok (.iconst 1, 1) := by decide +kernel
theorem dX7_sees_9 : decode cX7_sees 9 = .ok (.goto 4, 3) := by decide +kernel
theorem dX7_sees_12 : decode cX7_sees 12 = .ok (.iconst 0, 1) := by decide +kernel
theorem dX7_sees_13 : decode cX7_sees 13 = .ok (.ireturn, 1) := by decide +kernel
theorem dX7_sortSeen_0 : decode cX7_sortSeen 0 = .ok (.aload_n 0, 1) := by decide +kernel
theorem dX7_sortSeen_1 : decode cX7_sortSeen 1 = .ok (.invokevirtual 85, 3) := by decide +kernel
theorem dX7_sortSeen_4 : decode cX7_sortSeen 4 = .ok (.lookupswitch 62 #[(98, 54), (99, 56), (107, 58), (108, 52), (115, 60)], 52) := by decide +kernel
theorem dX7_sortSeen_56 : decode cX7_sortSeen 56 = .ok (.iconst 1, 1) := by decide +kernel
theorem dX7_sortSeen_57 : decode cX7_sortSeen 57 = .ok (.ireturn, 1) := by decide +kernel
theorem dX7_sortSeen_58 : decode cX7_sortSeen 58 = .ok (.iconst 2, 1) := by decide +kernel
theorem dX7_sortSeen_59 : decode cX7_sortSeen 59 = .ok (.ireturn, 1) := by decide +kernel
theorem dX7_sortSeen_60 : decode cX7_sortSeen 60 = .ok (.iconst 3, 1) := by decide +kernel
theorem dX7_sortSeen_61 : decode cX7_sortSeen 61 = .ok (.ireturn, 1) := by decide +kernel
theorem dX7_sortSeen_62 : decode cX7_sortSeen 62 = .ok (.iconst 4, 1) := by decide +kernel
theorem dX7_sortSeen_63 : decode cX7_sortSeen 63 = .ok (.ireturn, 1) := by decide +kernel
theorem dX7_sortSeen_64 : decode cX7_sortSeen 64 = .ok (.iconst 5, 1) := by decide +kernel
theorem dX7_sortSeen_65 : decode cX7_sortSeen 65 = .ok (.ireturn, 1) := by decide +kernel
theorem dX7_sortSeen_66 : decode cX7_sortSeen 66 = .ok (.iconst 0, 1) := by decide +kernel
theorem dX7_sortSeen_67 : decode cX7_sortSeen 67 = .ok (.ireturn, 1) := by decide +kernel
theorem dX7_readSign_0 : decode cX7_readSign 0 = .ok (.aload_n 0, 1) := by decide +kernel
theorem dX7_readSign_1 : decode cX7_readSign 1 = .ok (.getfield 33, 3) := by decide +kernel
theorem dX7_readSign_4 : decode cX7_readSign 4 = .ok (.ifCond .eq 4, 3) := by decide +kernel
theorem dX7_readSign_7 : decode cX7_readSign 7 = .ok (.return_, 1) := by decide +kernel
theorem dX7_readSign_8 : decode cX7_readSign 8 = .ok (.aload_n 0, 1) := by decide +kernel
theorem dX7_readSign_9 : decode cX7_readSign 9 = .ok (.getfield 30, 3) := by decide +kernel
theorem dX7_readSign_12 : decode cX7_readSign 12 = .ok (.aload_n 0, 1) := by decide +kernel
theorem dX7_readSign_13 : decode cX7_readSign 13 = .ok (.getfield 22, 3) := by decide +kernel
theorem dX7_readSign_16 : decode cX7_readSign 16 = .ok (.if_icmp .ge 24, 3) := by decide +kernel
theorem dX7_readSign_19 : decode cX7_readSign 19 = .ok (.aload_n 0, 1) := by decide +kernel
theorem dX7_readSign_20 : decode cX7_readSign 20 = .ok (.iload_n 1, 1) := by decide +kernel
theorem dX7_readSign_21 : decode cX7_readSign 21 = .ok (.invokevirtual 42, 3) := by decide +kernel
theorem dX7_readSign_24 : decode cX7_readSign 24 = .ok (.ifCond .eq 16, 3) := by decide +kernel
theorem dX7_readSign_27 : decode cX7_readSign 27 = .ok (.aload_n 0, 1) := by decide +kernel
theorem dX7_readSign_28 : decode cX7_readSign 28 = .ok (.dup, 1) := by decide +kernel
theorem dX7_readSign_29 : decode cX7_readSign 29 = .ok (.getfield 30, 3) := by decide +kernel
theorem dX7_readSign_32 : decode cX7_readSign 32 = .ok (.iconst 1, 1) := by decide +kernel
theorem dX7_readSign_33 : decode cX7_readSign 33 = .ok (.iadd, 1) := by decide +kernel
theorem dX7_readSign_34 : decode cX7_readSign 34 = .ok (.putfield 30, 3) := by decide +kernel
theorem dX7_readSign_37 : decode cX7_readSign 37 = .ok (.goto 8, 3) := by decide +kernel
theorem dX7_readSign_40 : decode cX7_readSign 40 = .ok (.aload_n 0, 1) := by decide +kernel
theorem dX7_readSign_41 : decode cX7_readSign 41 = .ok (.iconst 1, 1) := by decide +kernel
theorem dX7_readSign_42 : decode cX7_readSign 42 = .ok (.invokevirtual 52, 3) := by decide +kernel
theorem dX7_readSign_45 : decode cX7_readSign 45 = .ok (.return_, 1) := by decide +kernel
theorem dX7_figures_0 : decode cX7_figures 0 = .ok (.iconst 0, 1) := by decide +kernel
theorem dX7_figures_1 : decode cX7_figures 1 = .ok (.istore_n 1, 1) := by decide +kernel
theorem dX7_figures_2 : decode cX7_figures 2 = .ok (.aload_n 0, 1) := by decide +kernel
theorem dX7_figures_3 : decode cX7_figures 3 = .ok (.getfield 30, 3) := by decide +kernel
theorem dX7_figures_6 : decode cX7_figures 6 = .ok (.istore_n 2, 1) := by decide +kernel
theorem dX7_figures_7 : decode cX7_figures 7 = .ok (.iload_n 2, 1) := by decide +kernel
theorem dX7_figures_8 : decode cX7_figures 8 = .ok (.aload_n 0, 1) := by decide +kernel
theorem dX7_figures_9 : decode cX7_figures 9 = .ok (.getfield 22, 3) := by decide +kernel
theorem dX7_figures_12 : decode cX7_figures 12 = .ok (.if_icmp .ge 34, 3) := by decide +kernel
theorem dX7_figures_15 : decode cX7_figures 15 = .ok (.aload_n 0, 1) := by decide +kernel
theorem dX7_figures_16 : decode cX7_figures 16 = .ok (.getfield 9, 3) := by decide +kernel
theorem dX7_figures_19 : decode cX7_figures 19 = .ok (.iload_n 2, 1) := by decide +kernel
theorem dX7_figures_20 : decode cX7_figures 20 = .ok (.iaload, 1) := by decide +kernel
theorem dX7_figures_21 : decode cX7_figures 21 = .ok (.bipush 48, 2) := by decide +kernel
theorem dX7_figures_23 : decode cX7_figures 23 = .ok (.if_icmp .lt 23, 3) := by decide +kernel
theorem dX7_figures_26 : decode cX7_figures 26 = .ok (.aload_n 0, 1) := by decide +kernel
theorem dX7_figures_27 : decode cX7_figures 27 = .ok (.getfield 9, 3) := by decide +kernel
theorem dX7_figures_30 : decode cX7_figures 30 = .ok (.iload_n 2, 1) := by decide +kernel
theorem dX7_figures_31 : decode cX7_figures 31 = .ok (.iaload, 1) := by decide +kernel
theorem dX7_figures_32 : decode cX7_figures 32 = .ok (.bipush 57, 2) := by decide +kernel
theorem dX7_figures_34 : decode cX7_figures 34 = .ok (.if_icmp .gt 12, 3) := by decide +kernel
theorem dX7_figures_37 : decode cX7_figures 37 = .ok (.iinc 1 1, 3) := by decide +kernel
theorem dX7_figures_40 : decode cX7_figures 40 = .ok (.iinc 2 1, 3) := by decide +kernel
theorem dX7_figures_43 : decode cX7_figures 43 = .ok (.goto (-36), 3) := by decide +kernel
theorem dX7_figures_46 : decode cX7_figures 46 = .ok (.iload_n 1, 1) := by decide +kernel
theorem dX7_figures_47 : decode cX7_figures 47 = .ok (.ireturn, 1) := by decide +kernel
theorem dX7_readNumber_0 : decode cX7_readNumber 0 = .ok (.aload_n 0, 1) := by decide +kernel
theorem dX7_readNumber_1 : decode cX7_readNumber 1 = .ok (.getfield 33, 3) := by decide +kernel
theorem dX7_readNumber_4 : decode cX7_readNumber 4 = .ok (.ifCond .eq 5, 3) := by decide +kernel
theorem dX7_readNumber_7 : decode cX7_readNumber 7 = .ok (.iconst 0, 1) := by decide +kernel
theorem dX7_readNumber_8 : decode cX7_readNumber 8 = .ok (.ireturn, 1) := by decide +kernel
theorem dX7_readNumber_9 : decode cX7_readNumber 9 = .ok (.aload_n 0, 1) := by decide +kernel
theorem dX7_readNumber_10 : decode cX7_readNumber 10 = .ok (.invokevirtual 92, 3) := by decide +kernel
theorem dX7_readNumber_13 : decode cX7_readNumber 13 = .ok (.istore 4, 2) := by decide +kernel
theorem dX7_readNumber_15 : decode cX7_readNumber 15 = .ok (.iload 4, 2) := by decide +kernel
theorem dX7_readNumber_17 : decode cX7_readNumber 17 = .ok (.iconst 1, 1) := by decide +kernel
theorem dX7_readNumber_18 : decode cX7_readNumber 18 = .ok (.if_icmp .lt 9, 3) := by decide +kernel
theorem dX7_readNumber_21 : decode cX7_readNumber 21 = .ok (.iload 4, 2) := by decide +kernel
theorem dX7_readNumber_23 : decode cX7_readNumber 23 = .ok (.iconst 2, 1) := by decide +kernel
theorem dX7_readNumber_24 : decode cX7_readNumber 24 = .ok (.if_icmp .le 10, 3) := by decide +kernel
theorem dX7_readNumber_27 : decode cX7_readNumber 27 = .ok (.aload_n 0, 1) := by decide +kernel
theorem dX7_readNumber_28 : decode cX7_readNumber 28 = .ok (.iconst 1, 1) := by decide +kernel
theorem dX7_readNumber_29 : decode cX7_readNumber 29 = .ok (.invokevirtual 52, 3) := by decide +kernel
theorem dX7_readNumber_32 : decode cX7_readNumber 32 = .ok (.iconst 0, 1) := by decide +kernel
theorem dX7_readNumber_33 : decode cX7_readNumber 33 = .ok (.ireturn, 1) := by decide +kernel
theorem dX7_readNumber_34 : decode cX7_readNumber 34 = .ok (.iconst 0, 1) := by decide +kernel
theorem dX7_readNumber_35 : decode cX7_readNumber 35 = .ok (.istore 5, 2) := by decide +kernel
theorem dX7_readNumber_37 : decode cX7_readNumber 37 = .ok (.aload_n 0, 1) := by decide +kernel
theorem dX7_readNumber_38 : decode cX7_readNumber 38 = .ok (.getfield 30, 3) := by decide +kernel
theorem dX7_readNumber_41 : decode cX7_readNumber 41 = .ok (.istore 6, 2) := by decide +kernel
theorem dX7_readNumber_43 : decode cX7_readNumber 43 = .ok (.iload 6, 2) := by decide +kernel
theorem dX7_readNumber_45 : decode cX7_readNumber 45 = .ok (.aload_n 0, 1) := by decide +kernel
theorem dX7_readNumber_46 : decode cX7_readNumber 46 = .ok (.getfield 30, 3) := by decide +kernel
theorem dX7_readNumber_49 : decode cX7_readNumber 49 = .ok (.iload 4, 2) := by decide +kernel
theorem dX7_readNumber_51 : decode cX7_readNumber 51 = .ok (.iadd, 1) := by decide +kernel
theorem dX7_readNumber_52 : decode cX7_readNumber 52 = .ok (.if_icmp .ge 27, 3) := by decide +kernel
theorem dX7_readNumber_55 : decode cX7_readNumber 55 = .ok (.iload 5, 2) := by decide +kernel
theorem dX7_readNumber_57 : decode cX7_readNumber 57 = .ok (.bipush 10, 2) := by decide +kernel
theorem dX7_readNumber_59 : decode cX7_readNumber 59 = .ok (.imul, 1) := by decide +kernel
theorem dX7_readNumber_60 : decode cX7_readNumber 60 = .ok (.aload_n 0, 1) := by decide +kernel
theorem dX7_readNumber_61 : decode cX7_readNumber 61 = .ok (.getfield 9, 3) := by decide +kernel
theorem dX7_readNumber_64 : decode cX7_readNumber 64 = .ok (.iload 6, 2) := by decide +kernel
theorem dX7_readNumber_66 : decode cX7_readNumber 66 = .ok (.iaload, 1) := by decide +kernel
theorem dX7_readNumber_67 : decode cX7_readNumber 67 = .ok (.iadd, 1) := by decide +kernel
theorem dX7_readNumber_68 : decode cX7_readNumber 68 = .ok (.bipush 48, 2) := by decide +kernel
theorem dX7_readNumber_70 : decode cX7_readNumber 70 = .ok (.isub, 1) := by decide +kernel
theorem dX7_readNumber_71 : decode cX7_readNumber 71 = .ok (.istore 5, 2) := by decide +kernel
theorem dX7_readNumber_73 : decode cX7_readNumber 73 = .ok (.iinc 6 1, 3) := by decide +kernel
theorem dX7_readNumber_76 : decode cX7_readNumber 76 = .ok (.goto (-33), 3) := by decide +kernel
theorem dX7_readNumber_79 : decode cX7_readNumber 79 = .ok (.iload 5, 2) := by decide +kernel
theorem dX7_readNumber_81 : decode cX7_readNumber 81 = .ok (.iload_n 1, 1) := by decide +kernel
theorem dX7_readNumber_82 : decode cX7_readNumber 82 = .ok (.if_icmp .lt 15, 3) := by decide +kernel
theorem dX7_readNumber_85 : decode cX7_readNumber 85 = .ok (.iload 5, 2) := by decide +kernel
theorem dX7_readNumber_87 : decode cX7_readNumber 87 = .ok (.iload_n 2, 1) := by decide +kernel
theorem dX7_readNumber_88 : decode cX7_readNumber 88 = .ok (.if_icmp .gt 9, 3) := by decide +kernel
theorem dX7_readNumber_91 : decode cX7_readNumber 91 = .ok (.iload 5, 2) := by decide +kernel
theorem dX7_readNumber_93 : decode cX7_readNumber 93 = .ok (.iload_n 3, 1) := by decide +kernel
theorem dX7_readNumber_94 : decode cX7_readNumber 94 = .ok (.if_icmp .ne 11, 3) := by decide +kernel
theorem dX7_readNumber_97 : decode cX7_readNumber 97 = .ok (.aload_n 0, 1) := by decide +kernel
theorem dX7_readNumber_98 : decode cX7_readNumber 98 = .ok (.iconst 2, 1) := by decide +kernel
theorem dX7_readNumber_99 : decode cX7_readNumber 99 = .ok (.invokevirtual 52, 3) := by decide +kernel
theorem dX7_readNumber_102 : decode cX7_readNumber 102 = .ok (.goto 14, 3) := by decide +kernel
theorem dX7_readNumber_105 : decode cX7_readNumber 105 = .ok (.aload_n 0, 1) := by decide +kernel
theorem dX7_readNumber_106 : decode cX7_readNumber 106 = .ok (.dup, 1) := by decide +kernel
theorem dX7_readNumber_107 : decode cX7_readNumber 107 = .ok (.getfield 30, 3) := by decide +kernel
theorem dX7_readNumber_110 : decode cX7_readNumber 110 = .ok (.iload 4, 2) := by decide +kernel
theorem dX7_readNumber_112 : decode cX7_readNumber 112 = .ok (.iadd, 1) := by decide +kernel
theorem dX7_readNumber_113 : decode cX7_readNumber 113 = .ok (.putfield 30, 3) := by decide +kernel
theorem dX7_readNumber_116 : decode cX7_readNumber 116 = .ok (.iload 5, 2) := by decide +kernel
theorem dX7_readNumber_118 : decode cX7_readNumber 118 = .ok (.ireturn, 1) := by decide +kernel
theorem dX8_init_0 : decode cX8_init 0 = .ok (.aload_n 0, 1) := by decide +kernel
theorem dX8_init_1 : decode cX8_init 1 = .ok (.invokespecial 3, 3) := by decide +kernel
theorem dX8_init_4 : decode cX8_init 4 = .ok (.aload_n 0, 1) := by decide +kernel
theorem dX8_init_5 : decode cX8_init 5 = .ok (.bipush 40, 2) := by decide +kernel
theorem dX8_init_7 : decode cX8_init 7 = .ok (.newarray .int, 2) := by decide +kernel
theorem dX8_init_9 : decode cX8_init 9 = .ok (.putfield 9, 3) := by decide +kernel
theorem dX8_init_12 : decode cX8_init 12 = .ok (.aload_n 0, 1) := by decide +kernel
theorem dX8_init_13 : decode cX8_init 13 = .ok (.iconst (-1), 1) := by decide +kernel
theorem dX8_init_14 : decode cX8_init 14 = .ok (.putfield 15, 3) := by decide +kernel
theorem dX8_init_17 : decode cX8_init 17 = .ok (.return_, 1) := by decide +kernel
theorem dX8_isMissing_0 : decode cX8_isMissing 0 = .ok (.aload_n 0, 1) := by decide +kernel
theorem dX8_isMissing_1 : decode cX8_isMissing 1 = .ok (.getfield 15, 3) := by decide +kernel
theorem dX8_isMissing_4 : decode cX8_isMissing 4 = .ok (.ifCond .ge 7, 3) := by decide +kernel
theorem dX8_isMissing_7 : decode cX8_isMissing 7 = .ok (.iconst 1, 1) := by decide +kernel
theorem dX8_isMissing_8 : decode cX8_isMissing 8 = .ok (.goto 4, 3) := by decide +kernel
theorem dX8_isMissing_11 : decode cX8_isMissing 11 = .ok (.iconst 0, 1) := by decide +kernel
theorem dX8_isMissing_12 : decode cX8_isMissing 12 = .ok (.ireturn, 1) := by decide +kernel
theorem dX8_begin_0 : decode cX8_begin 0 = .ok (.aload_n 0, 1) := by decide +kernel
theorem dX8_begin_1 : decode cX8_begin 1 = .ok (.iload_n 1, 1) := by decide +kernel
theorem dX8_begin_2 : decode cX8_begin 2 = .ok (.putfield 15, 3) := by decide +kernel
theorem dX8_begin_5 : decode cX8_begin 5 = .ok (.aload_n 0, 1) := by decide +kernel
theorem dX8_begin_6 : decode cX8_begin 6 = .ok (.iconst 0, 1) := by decide +kernel
theorem dX8_begin_7 : decode cX8_begin 7 = .ok (.iload_n 2, 1) := by decide +kernel
theorem dX8_begin_8 : decode cX8_begin 8 = .ok (.aload_n 0, 1) := by decide +kernel
theorem dX8_begin_9 : decode cX8_begin 9 = .ok (.getfield 9, 3) := by decide +kernel
theorem dX8_begin_12 : decode cX8_begin 12 = .ok (.arraylength, 1) := by decide +kernel
theorem dX8_begin_13 : decode cX8_begin 13 = .ok (.invokestatic 19, 3) := by decide +kernel
theorem dX8_begin_16 : decode cX8_begin 16 = .ok (.invokestatic 25, 3) := by decide +kernel
theorem dX8_begin_19 : decode cX8_begin 19 = .ok (.putfield 28, 3) := by decide +kernel
theorem dX8_begin_22 : decode cX8_begin 22 = .ok (.iconst 0, 1) := by decide +kernel
theorem dX8_begin_23 : decode cX8_begin 23 = .ok (.istore_n 3, 1) := by decide +kernel
theorem dX8_begin_24 : decode cX8_begin 24 = .ok (.iload_n 3, 1) := by decide +kernel
theorem dX8_begin_25 : decode cX8_begin 25 = .ok (.aload_n 0, 1) := by decide +kernel
theorem dX8_begin_26 : decode cX8_begin 26 = .ok (.getfield 28, 3) := by decide +kernel
theorem dX8_begin_29 : decode cX8_begin 29 = .ok (.if_icmp .ge 16, 3) := by decide +kernel
theorem dX8_begin_32 : decode cX8_begin 32 = .ok (.aload_n 0, 1) := by decide +kernel
theorem dX8_begin_33 : decode cX8_begin 33 = .ok (.getfield 9, 3) := by decide +kernel
theorem dX8_begin_36 : decode cX8_begin 36 = .ok (.iload_n 3, 1) := by decide +kernel
theorem dX8_begin_37 : decode cX8_begin 37 = .ok (.iconst 0, 1) := by decide +kernel
theorem dX8_begin_38 : decode cX8_begin 38 = .ok (.iastore, 1) := by decide +kernel
theorem dX8_begin_39 : decode cX8_begin 39 = .ok (.iinc 3 1, 3) := by decide +kernel
theorem dX8_begin_42 : decode cX8_begin 42 = .ok (.goto (-18), 3) := by decide +kernel
theorem dX8_begin_45 : decode cX8_begin 45 = .ok (.return_, 1) := by decide +kernel
theorem dX8_end_0 : decode cX8_end 0 = .ok (.aload_n 0, 1) := by decide +kernel
theorem dX8_end_1 : decode cX8_end 1 = .ok (.iconst (-1), 1) := by decide +kernel
theorem dX8_end_2 : decode cX8_end 2 = .ok (.putfield 15, 3) := by decide +kernel
theorem dX8_end_5 : decode cX8_end 5 = .ok (.aload_n 0, 1) := by decide +kernel
theorem dX8_end_6 : decode cX8_end 6 = .ok (.iconst 0, 1) := by decide +kernel
theorem dX8_end_7 : decode cX8_end 7 = .ok (.putfield 28, 3) := by decide +kernel
theorem dX8_end_10 : decode cX8_end 10 = .ok (.return_, 1) := by decide +kernel
theorem dX8_holds_0 : decode cX8_holds 0 = .ok (.iload_n 1, 1) := by decide +kernel
theorem dX8_holds_1 : decode cX8_holds 1 = .ok (.ifCond .lt 29, 3) := by decide +kernel
theorem dX8_holds_4 : decode cX8_holds 4 = .ok (.iload_n 2, 1) := by decide +kernel
theorem dX8_holds_5 : decode cX8_holds 5 = .ok (.ifCond .lt 25, 3) := by decide +kernel
theorem dX8_holds_8 : decode cX8_holds 8 = .ok (.iload_n 2, 1) := by decide +kernel
theorem dX8_holds_9 : decode cX8_holds 9 = .ok (.aload_n 0, 1) := by decide +kernel
theorem dX8_holds_10 : decode cX8_holds 10 = .ok (.getfield 28, 3) := by decide +kernel
theorem dX8_holds_13 : decode cX8_holds 13 = .ok (.if_icmp .gt 17, 3) := by decide +kernel
theorem dX8_holds_16 : decode cX8_holds 16 = .ok (.iload_n 1, 1) := by decide +kernel
theorem dX8_holds_17 : decode cX8_holds 17 = .ok (.aload_n 0, 1) := by decide +kernel
theorem dX8_holds_18 : decode cX8_holds 18 = .ok (.getfield 28, 3) := by decide +kernel
theorem dX8_holds_21 : decode cX8_holds 21 = .ok (.iload_n 2, 1) := by decide +kernel
theorem dX8_holds_22 : decode cX8_holds 22 = .ok (.isub, 1) := by decide +kernel
theorem dX8_holds_23 : decode cX8_holds 23 = .ok (.if_icmp .gt 7, 3) := by decide +kernel
theorem dX8_holds_26 : decode cX8_holds 26 = .ok (.iconst 1, 1) := by decide +kernel
theorem dX8_holds_27 : decode cX8_holds 27 = .ok (.goto 4, 3) := by decide +kernel
theorem dX8_holds_30 : decode cX8_holds 30 = .ok (.iconst 0, 1) := by decide +kernel
theorem dX8_holds_31 : decode cX8_holds 31 = .ok (.ireturn, 1) := by decide +kernel
theorem dX8_put_0 : decode cX8_put 0 = .ok (.aload_n 0, 1) := by decide +kernel
theorem dX8_put_1 : decode cX8_put 1 = .ok (.getfield 15, 3) := by decide +kernel
theorem dX8_put_4 : decode cX8_put 4 = .ok (.ifCond .ne 8, 3) := by decide +kernel
theorem dX8_put_7 : decode cX8_put 7 = .ok (.iload_n 2, 1) := by decide +kernel
theorem dX8_put_8 : decode cX8_put 8 = .ok (.i2b, 1) := by decide +kernel
theorem dX8_put_9 : decode cX8_put 9 = .ok (.goto 17, 3) := by decide +kernel
theorem dX8_put_12 : decode cX8_put 12 = .ok (.aload_n 0, 1) := by decide +kernel
theorem dX8_put_13 : decode cX8_put 13 = .ok (.getfield 15, 3) := by decide +kernel
theorem dX8_put_16 : decode cX8_put 16 = .ok (.iconst 1, 1) := by decide +kernel
theorem dX8_put_17 : decode cX8_put 17 = .ok (.if_icmp .ne 8, 3) := by decide +kernel
theorem dX8_put_20 : decode cX8_put 20 = .ok (.iload_n 2, 1) := by decide +kernel
theorem dX8_put_21 : decode cX8_put 21 = .ok (.i2s, 1) := by decide +kernel
theorem dX8_put_22 : decode cX8_put 22 = .ok (.goto 4, 3) := by decide +kernel
theorem dX8_put_25 : decode cX8_put 25 = .ok (.iload_n 2, 1) := by decide +kernel
theorem dX8_put_26 : decode cX8_put 26 = .ok (.istore_n 3, 1) := by decide +kernel
theorem dX8_put_27 : decode cX8_put 27 = .ok (.aload_n 0, 1) := by decide +kernel
theorem dX8_put_28 : decode cX8_put 28 = .ok (.iload_n 1, 1) := by decide +kernel
theorem dX8_put_29 : decode cX8_put 29 = .ok (.iconst 1, 1) := by decide +kernel
theorem dX8_put_30 : decode cX8_put 30 = .ok (.invokevirtual 31, 3) := by decide +kernel
theorem dX8_put_33 : decode cX8_put 33 = .ok (.ifCond .eq 10, 3) := by decide +kernel
theorem dX8_put_36 : decode cX8_put 36 = .ok (.aload_n 0, 1) := by decide +kernel
theorem dX8_put_37 : decode cX8_put 37 = .ok (.getfield 9, 3) := by decide +kernel
theorem dX8_put_40 : decode cX8_put 40 = .ok (.iload_n 1, 1) := by decide +kernel
theorem dX8_put_41 : decode cX8_put 41 = .ok (.iload_n 3, 1) := by decide +kernel
theorem dX8_put_42 : decode cX8_put 42 = .ok (.iastore, 1) := by decide +kernel
theorem dX8_put_43 : decode cX8_put 43 = .ok (.iload_n 3, 1) := by decide +kernel
theorem dX8_put_44 : decode cX8_put 44 = .ok (.ireturn, 1) := by decide +kernel
theorem dX9_init_0 : decode cX9_init 0 = .ok (.aload_n 0, 1) := by decide +kernel
theorem dX9_init_1 : decode cX9_init 1 = .ok (.iload_n 1, 1) := by decide +kernel
theorem dX9_init_2 : decode cX9_init 2 = .ok (.iload_n 2, 1) := by decide +kernel
theorem dX9_init_3 : decode cX9_init 3 = .ok (.iload_n 3, 1) := by decide +kernel
theorem dX9_init_4 : decode cX9_init 4 = .ok (.iload 4, 2) := by decide +kernel
theorem dX9_init_6 : decode cX9_init 6 = .ok (.invokespecial 1, 3) := by decide +kernel
theorem dX9_init_9 : decode cX9_init 9 = .ok (.return_, 1) := by decide +kernel
theorem dX9_sort_0 : decode cX9_sort 0 = .ok (.iconst 5, 1) := by decide +kernel
theorem dX9_sort_1 : decode cX9_sort 1 = .ok (.ireturn, 1) := by decide +kernel
theorem dX9_is_0 : decode cX9_is 0 = .ok (.iload_n 1, 1) := by decide +kernel
theorem dX9_is_1 : decode cX9_is 1 = .ok (.iconst 5, 1) := by decide +kernel
theorem dX9_is_2 : decode cX9_is 2 = .ok (.if_icmp .eq 11, 3) := by decide +kernel
theorem dX9_is_5 : decode cX9_is 5 = .ok (.aload_n 0, 1) := by decide +kernel
theorem dX9_is_6 : decode cX9_is 6 = .ok (.iload_n 1, 1) := by decide +kernel
theorem dX9_is_7 : decode cX9_is 7 = .ok (.invokespecial 7, 3) := by decide +kernel
theorem dX9_is_10 : decode cX9_is 10 = .ok (.ifCond .eq 7, 3) := by decide +kernel
theorem dX9_is_13 : decode cX9_is 13 = .ok (.iconst 1, 1) := by decide +kernel
theorem dX9_is_14 : decode cX9_is 14 = .ok (.goto 4, 3) := by decide +kernel
theorem dX9_is_17 : decode cX9_is 17 = .ok (.iconst 0, 1) := by decide +kernel
theorem dX9_is_18 : decode cX9_is 18 = .ok (.ireturn, 1) := by decide +kernel
theorem dX9_gap_0 : decode cX9_gap 0 = .ok (.iconst 0, 1) := by decide +kernel
theorem dX9_gap_1 : decode cX9_gap 1 = .ok (.ireturn, 1) := by decide +kernel
theorem dX9_isBroken_0 : decode cX9_isBroken 0 = .ok (.iload_n 1, 1) := by decide +kernel
theorem dX9_isBroken_1 : decode cX9_isBroken 1 = .ok (.ifCond .eq 7, 3) := by decide +kernel
theorem dX9_isBroken_4 : decode cX9_isBroken 4 = .ok (.iconst 1, 1) := by decide +kernel
theorem dX9_isBroken_5 : decode cX9_isBroken 5 = .ok (.goto 4, 3) := by decide +kernel
theorem dX9_isBroken_8 : decode cX9_isBroken 8 = .ok (.iconst 0, 1) := by decide +kernel
theorem dX9_isBroken_9 : decode cX9_isBroken 9 = .ok (.ireturn, 1) := by decide +kernel
theorem dX9_size_0 : decode cX9_size 0 = .ok (.aload_n 2, 1) := by decide +kernel
theorem dX9_size_1 : decode cX9_size 1 = .ok (.bipush 14, 2) := by decide +kernel
theorem dX9_size_3 : decode cX9_size 3 = .ok (.invokevirtual 11, 3) := by decide +kernel
theorem dX9_size_6 : decode cX9_size 6 = .ok (.iconst 2, 1) := by decide +kernel
theorem dX9_size_7 : decode cX9_size 7 = .ok (.aload_n 0, 1) := by decide +kernel
theorem dX9_size_8 : decode cX9_size 8 = .ok (.iload_n 1, 1) := by decide +kernel
theorem dX9_size_9 : decode cX9_size 9 = .ok (.aload_n 2, 1) := by decide +kernel
theorem dX9_size_10 : decode cX9_size 10 = .ok (.invokespecial 17, 3) := by decide +kernel
theorem dX9_size_13 : decode cX9_size 13 = .ok (.imul, 1) := by decide +kernel
theorem dX9_size_14 : decode cX9_size 14 = .ok (.ireturn, 1) := by decide +kernel
theorem dX10_init_0 : decode cX10_init 0 = .ok (.aload_n 0, 1) := by decide +kernel
theorem dX10_init_1 : decode cX10_init 1 = .ok (.invokespecial 3, 3) := by decide +kernel
theorem dX10_init_4 : decode cX10_init 4 = .ok (.aload_n 0, 1) := by decide +kernel
theorem dX10_init_5 : decode cX10_init 5 = .ok (.new 9, 3) := by decide +kernel
theorem dX10_init_8 : decode cX10_init 8 = .ok (.dup, 1) := by decide +kernel
theorem dX10_init_9 : decode cX10_init 9 = .ok (.invokespecial 11, 3) := by decide +kernel
theorem dX10_init_12 : decode cX10_init 12 = .ok (.putfield 12, 3) := by decide +kernel
theorem dX10_init_15 : decode cX10_init 15 = .ok (.aload_n 0, 1) := by decide +kernel
theorem dX10_init_16 : decode cX10_init 16 = .ok (.new 18, 3) := by decide +kernel
theorem dX10_init_19 : decode cX10_init 19 = .ok (.dup, 1) := by decide +kernel
theorem dX10_init_20 : decode cX10_init 20 = .ok (.bipush 17, 2) := by decide +kernel
theorem dX10_init_22 : decode cX10_init 22 = .ok (.invokespecial 20, 3) := by decide +kernel
theorem dX10_init_25 : decode cX10_init 25 = .ok (.putfield 23, 3) := by decide +kernel
theorem dX10_init_28 : decode cX10_init 28 = .ok (.aload_n 0, 1) := by decide +kernel
theorem dX10_init_29 : decode cX10_init 29 = .ok (.bipush 8, 2) := by decide +kernel
theorem dX10_init_31 : decode cX10_init 31 = .ok (.newarray .int, 2) := by decide +kernel
theorem dX10_init_33 : decode cX10_init 33 = .ok (.putfield 27, 3) := by decide +kernel
theorem dX10_init_36 : decode cX10_init 36 = .ok (.return_, 1) := by decide +kernel
theorem dX10_go_0 : decode cX10_go 0 = .ok (.aload_n 0, 1) := by decide +kernel
theorem dX10_go_1 : decode cX10_go 1 = .ok (.invokevirtual 31, 3) := by decide +kernel
theorem dX10_go_4 : decode cX10_go 4 = .ok (.iconst 0, 1) := by decide +kernel
theorem dX10_go_5 : decode cX10_go 5 = .ok (.istore 4, 2) := by decide +kernel
theorem dX10_go_7 : decode cX10_go 7 = .ok (.iload 4, 2) := by decide +kernel
theorem dX10_go_9 : decode cX10_go 9 = .ok (.iload_n 3, 1) := by decide +kernel
theorem dX10_go_10 : decode cX10_go 10 = .ok (.if_icmp .ge 51, 3) := by decide +kernel
theorem dX10_go_13 : decode cX10_go 13 = .ok (.aload_n 0, 1) := by decide +kernel
theorem dX10_go_14 : decode cX10_go 14 = .ok (.getfield 34, 3) := by decide +kernel
theorem dX10_go_17 : decode cX10_go 17 = .ok (.ifCond .ne 44, 3) := by decide +kernel
theorem dX10_go_20 : decode cX10_go 20 = .ok (.iload_n 2, 1) := by decide +kernel
theorem dX10_go_21 : decode cX10_go 21 = .ok (.iload 4, 2) := by decide +kernel
theorem dX10_go_23 : decode cX10_go 23 = .ok (.iadd, 1) := by decide +kernel
theorem dX10_go_24 : decode cX10_go 24 = .ok (.istore 5, 2) := by decide +kernel
theorem dX10_go_26 : decode cX10_go 26 = .ok (.aload_n 0, 1) := by decide +kernel
theorem dX10_go_27 : decode cX10_go 27 = .ok (.iload 5, 2) := by decide +kernel
theorem dX10_go_29 : decode cX10_go 29 = .ok (.ifCond .lt 21, 3) := by decide +kernel
theorem dX10_go_32 : decode cX10_go 32 = .ok (.iload 5, 2) := by decide +kernel
theorem dX10_go_34 : decode cX10_go 34 = .ok (.aload_n 1, 1) := by decide +kernel
theorem dX10_go_35 : decode cX10_go 35 = .ok (.arraylength, 1) := by decide +kernel
theorem dX10_go_36 : decode cX10_go 36 = .ok (.if_icmp .ge 14, 3) := by decide +kernel
theorem dX10_go_39 : decode cX10_go 39 = .ok (.aload_n 0, 1) := by decide +kernel
theorem dX10_go_40 : decode cX10_go 40 = .ok (.aload_n 1, 1) := by decide +kernel
theorem dX10_go_41 : decode cX10_go 41 = .ok (.iload 5, 2) := by decide +kernel
theorem dX10_go_43 : decode cX10_go 43 = .ok (.iaload, 1) := by decide +kernel
theorem dX10_go_44 : decode cX10_go 44 = .ok (.invokevirtual 38, 3) := by decide +kernel
theorem dX10_go_47 : decode cX10_go 47 = .ok (.goto 5, 3) := by decide +kernel
theorem dX10_go_50 : decode cX10_go 50 = .ok (.bipush 6, 2) := by decide +kernel
theorem dX10_go_52 : decode cX10_go 52 = .ok (.putfield 34, 3) := by decide +kernel
theorem dX10_go_55 : decode cX10_go 55 = .ok (.iinc 4 1, 3) := by decide +kernel
theorem dX10_go_58 : decode cX10_go 58 = .ok (.goto (-51), 3) := by decide +kernel
theorem dX10_go_61 : decode cX10_go 61 = .ok (.aload_n 0, 1) := by decide +kernel
theorem dX10_go_62 : decode cX10_go 62 = .ok (.getfield 34, 3) := by decide +kernel
theorem dX10_go_65 : decode cX10_go 65 = .ok (.ifCond .ne 11, 3) := by decide +kernel
theorem dX10_go_68 : decode cX10_go 68 = .ok (.aload_n 0, 1) := by decide +kernel
theorem dX10_go_69 : decode cX10_go 69 = .ok (.aload_n 0, 1) := by decide +kernel
theorem dX10_go_70 : decode cX10_go 70 = .ok (.invokevirtual 42, 3) := by decide +kernel
theorem dX10_go_73 : decode cX10_go 73 = .ok (.putfield 34, 3) := by decide +kernel
theorem dX10_go_76 : decode cX10_go 76 = .ok (.aload_n 0, 1) := by decide +kernel
theorem dX10_go_77 : decode cX10_go 77 = .ok (.getfield 34, 3) := by decide +kernel
theorem dX10_go_80 : decode cX10_go 80 = .ok (.ifCond .eq 18, 3) := by decide +kernel
theorem dX10_go_83 : decode cX10_go 83 = .ok (.aload_n 0, 1) := by decide +kernel
theorem dX10_go_84 : decode cX10_go 84 = .ok (.getfield 23, 3) := by decide +kernel
theorem dX10_go_87 : decode cX10_go 87 = .ok (.sipush 400, 3) := by decide +kernel
theorem dX10_go_90 : decode cX10_go 90 = .ok (.aload_n 0, 1) := by decide +kernel
theorem dX10_go_91 : decode cX10_go 91 = .ok (.getfield 34, 3) := by decide +kernel
theorem dX10_go_94 : decode cX10_go 94 = .ok (.iadd, 1) := by decide +kernel
theorem dX10_go_95 : decode cX10_go 95 = .ok (.invokevirtual 46, 3) := by decide +kernel
theorem dX10_go_98 : decode cX10_go 98 = .ok (.aload_n 0, 1) := by decide +kernel
theorem dX10_go_99 : decode cX10_go 99 = .ok (.getfield 49, 3) := by decide +kernel
theorem dX10_go_102 : decode cX10_go 102 = .ok (.iconst 1, 1) := by decide +kernel
theorem dX10_go_103 : decode cX10_go 103 = .ok (.isub, 1) := by decide +kernel
theorem dX10_go_104 : decode cX10_go 104 = .ok (.istore 4, 2) := by decide +kernel
theorem dX10_go_106 : decode cX10_go 106 = .ok (.iload 4, 2) := by decide +kernel
theorem dX10_go_108 : decode cX10_go 108 = .ok (.ifCond .lt 27, 3) := by decide +kernel
theorem dX10_go_111 : decode cX10_go 111 = .ok (.aload_n 0, 1) := by decide +kernel
theorem dX10_go_112 : decode cX10_go 112 = .ok (.getfield 23, 3) := by decide +kernel
theorem dX10_go_115 : decode cX10_go 115 = .ok (.sipush 200, 3) := by decide +kernel
theorem dX10_go_118 : decode cX10_go 118 = .ok (.aload_n 0, 1) := by decide +kernel
theorem dX10_go_119 : decode cX10_go 119 = .ok (.getfield 27, 3) := by decide +kernel
theorem dX10_go_122 : decode cX10_go 122 = .ok (.iload 4, 2) := by decide +kernel
theorem dX10_go_124 : decode cX10_go 124 = .ok (.iaload, 1) := by decide +kernel
theorem dX10_go_125 : decode cX10_go 125 = .ok (.iadd, 1) := by decide +kernel
theorem dX10_go_126 : decode cX10_go 126 = .ok (.invokevirtual 46, 3) := by decide +kernel
theorem dX10_go_129 : decode cX10_go 129 = .ok (.iinc 4 (-1), 3) := by decide +kernel
theorem dX10_go_132 : decode cX10_go 132 = .ok (.goto (-26), 3) := by decide +kernel
theorem dX10_go_135 : decode cX10_go 135 = .ok (.return_, 1) := by decide +kernel
theorem dX10_outcome_0 : decode cX10_outcome 0 = .ok (.aload_n 0, 1) := by decide +kernel
theorem dX10_outcome_1 : decode cX10_outcome 1 = .ok (.getfield 34, 3) := by decide +kernel
theorem dX10_outcome_4 : decode cX10_outcome 4 = .ok (.ifCond .ne 10, 3) := by decide +kernel
theorem dX10_outcome_7 : decode cX10_outcome 7 = .ok (.aload_n 0, 1) := by decide +kernel
theorem dX10_outcome_8 : decode cX10_outcome 8 = .ok (.getfield 52, 3) := by decide +kernel
theorem dX10_outcome_11 : decode cX10_outcome 11 = .ok (.goto 11, 3) := by decide +kernel
theorem dX10_outcome_14 : decode cX10_outcome 14 = .ok (.sipush 1000, 3) := by decide +kernel
theorem dX10_outcome_17 : decode cX10_outcome 17 = .ok (.aload_n 0, 1) := by decide +kernel
theorem dX10_outcome_18 : decode cX10_outcome 18 = .ok (.getfield 34, 3) := by decide +kernel
theorem dX10_outcome_21 : decode cX10_outcome 21 = .ok (.iadd, 1) := by decide +kernel
theorem dX10_outcome_22 : decode cX10_outcome 22 = .ok (.ireturn, 1) := by decide +kernel
theorem dX10_begin_0 : decode cX10_begin 0 = .ok (.aload_n 0, 1) := by decide +kernel
theorem dX10_begin_1 : decode cX10_begin 1 = .ok (.getfield 23, 3) := by decide +kernel
theorem dX10_begin_4 : decode cX10_begin 4 = .ok (.invokevirtual 55, 3) := by decide +kernel
theorem dX10_begin_7 : decode cX10_begin 7 = .ok (.aload_n 0, 1) := by decide +kernel
theorem dX10_begin_8 : decode cX10_begin 8 = .ok (.iconst 0, 1) := by decide +kernel
theorem dX10_begin_9 : decode cX10_begin 9 = .ok (.putfield 49, 3) := by decide +kernel
theorem dX10_begin_12 : decode cX10_begin 12 = .ok (.aload_n 0, 1) := by decide +kernel
theorem dX10_begin_13 : decode cX10_begin 13 = .ok (.iconst 0, 1) := by decide +kernel
theorem dX10_begin_14 : decode cX10_begin 14 = .ok (.putfield 58, 3) := by decide +kernel
theorem dX10_begin_17 : decode cX10_begin 17 = .ok (.aload_n 0, 1) := by decide +kernel
theorem dX10_begin_18 : decode cX10_begin 18 = .ok (.iconst 0, 1) := by decide +kernel
theorem dX10_begin_19 : decode cX10_begin 19 = .ok (.putfield 61, 3) := by decide +kernel
theorem dX10_begin_22 : decode cX10_begin 22 = .ok (.aload_n 0, 1) := by decide +kernel
theorem dX10_begin_23 : decode cX10_begin 23 = .ok (.iconst 0, 1) := by decide +kernel
theorem dX10_begin_24 : decode cX10_begin 24 = .ok (.putfield 64, 3) := by decide +kernel
theorem dX10_begin_27 : decode cX10_begin 27 = .ok (.aload_n 0, 1) := by decide +kernel
theorem dX10_begin_28 : decode cX10_begin 28 = .ok (.iconst 0, 1) := by decide +kernel
theorem dX10_begin_29 : decode cX10_begin 29 = .ok (.putfield 67, 3) := by decide +kernel
theorem dX10_begin_32 : decode cX10_begin 32 = .ok (.aload_n 0, 1) := by decide +kernel
theorem dX10_begin_33 : decode cX10_begin 33 = .ok (.iconst 0, 1) := by decide +kernel
theorem dX10_begin_34 : decode cX10_begin 34 = .ok (.putfield 70, 3) := by decide +kernel
theorem dX10_begin_37 : decode cX10_begin 37 = .ok (.aload_n 0, 1) := by decide +kernel
theorem dX10_begin_38 : decode cX10_begin 38 = .ok (.iconst 0, 1) := by decide +kernel
theorem dX10_begin_39 : decode cX10_begin 39 = .ok (.putfield 52, 3) := by decide +kernel
theorem dX10_begin_42 : decode cX10_begin 42 = .ok (.aload_n 0, 1) := by decide +kernel
theorem dX10_begin_43 : decode cX10_begin 43 = .ok (.iconst 0, 1) := by decide +kernel
theorem dX10_begin_44 : decode cX10_begin 44 = .ok (.putfield 34, 3) := by decide +kernel
theorem dX10_begin_47 : decode cX10_begin 47 = .ok (.return_, 1) := by decide +kernel
theorem dX10_pass_0 : decode cX10_pass 0 = .ok (.aload_n 0, 1) := by decide +kernel
theorem dX10_pass_1 : decode cX10_pass 1 = .ok (.getfield 12, 3) := by decide +kernel
theorem dX10_pass_4 : decode cX10_pass 4 = .ok (.iload_n 1, 1) := by decide +kernel
theorem dX10_pass_5 : decode cX10_pass 5 = .ok (.invokevirtual 73, 3) := by decide +kernel
theorem dX10_pass_8 : decode cX10_pass 8 = .ok (.astore_n 2, 1) := by decide +kernel
theorem dX10_pass_9 : decode cX10_pass 9 = .ok (.aload_n 2, 1) := by decide +kernel
theorem dX10_pass_10 : decode cX10_pass 10 = .ok (.ifnull 14, 3) := by decide +kernel
theorem dX10_pass_13 : decode cX10_pass 13 = .ok (.aload_n 2, 1) := by decide +kernel
theorem dX10_pass_14 : decode cX10_pass 14 = .ok (.aload_n 0, 1) := by decide +kernel
theorem dX10_pass_15 : decode cX10_pass 15 = .ok (.getfield 61, 3) := by decide +kernel
theorem dX10_pass_18 : decode cX10_pass 18 = .ok (.invokevirtual 77, 3) := by decide +kernel
theorem dX10_pass_21 : decode cX10_pass 21 = .ok (.ifCond .ne 6, 3) := by decide +kernel
theorem dX10_pass_24 : decode cX10_pass 24 = .ok (.bipush 6, 2) := by decide +kernel
theorem dX10_pass_26 : decode cX10_pass 26 = .ok (.ireturn, 1) := by decide +kernel
theorem dX10_pass_27 : decode cX10_pass 27 = .ok (.aload_n 0, 1) := by decide +kernel
theorem dX10_pass_28 : decode cX10_pass 28 = .ok (.getfield 58, 3) := by decide +kernel
theorem dX10_pass_31 : decode cX10_pass 31 = .ok (.aload_n 2, 1) := by decide +kernel
theorem dX10_pass_32 : decode cX10_pass 32 = .ok (.getfield 83, 3) := by decide +kernel
theorem dX10_pass_35 : decode cX10_pass 35 = .ok (.ishr, 1) := by decide +kernel
theorem dX10_pass_36 : decode cX10_pass 36 = .ok (.iconst 1, 1) := by decide +kernel
theorem dX10_pass_37 : decode cX10_pass 37 = .ok (.iand, 1) := by decide +kernel
theorem dX10_pass_38 : decode cX10_pass 38 = .ok (.ifCond .eq 7, 3) := by decide +kernel
theorem dX10_pass_41 : decode cX10_pass 41 = .ok (.iconst 0, 1) := by decide +kernel
theorem dX10_pass_42 : decode cX10_pass 42 = .ok (.goto 8, 3) := by decide +kernel
theorem dX10_pass_45 : decode cX10_pass 45 = .ok (.aload_n 0, 1) := by decide +kernel
theorem dX10_pass_46 : decode cX10_pass 46 = .ok (.aload_n 2, 1) := by decide +kernel
theorem dX10_pass_47 : decode cX10_pass 47 = .ok (.invokevirtual 86, 3) := by decide +kernel
theorem dX10_pass_50 : decode cX10_pass 50 = .ok (.istore_n 3, 1) := by decide +kernel
theorem dX10_pass_51 : decode cX10_pass 51 = .ok (.iload_n 3, 1) := by decide +kernel
theorem dX10_pass_52 : decode cX10_pass 52 = .ok (.ifCond .ne 15, 3) := by decide +kernel
theorem dX10_pass_55 : decode cX10_pass 55 = .ok (.aload_n 0, 1) := by decide +kernel
theorem dX10_pass_56 : decode cX10_pass 56 = .ok (.aload_n 2, 1) := by decide +kernel
theorem dX10_pass_57 : decode cX10_pass 57 = .ok (.aload_n 0, 1) := by decide +kernel
theorem dX10_pass_58 : decode cX10_pass 58 = .ok (.getfield 61, 3) := by decide +kernel
theorem dX10_pass_61 : decode cX10_pass 61 = .ok (.invokevirtual 90, 3) := by decide +kernel
theorem dX10_pass_64 : decode cX10_pass 64 = .ok (.putfield 61, 3) := by decide +kernel
theorem dX10_pass_67 : decode cX10_pass 67 = .ok (.iload_n 3, 1) := by decide +kernel
theorem dX10_pass_68 : decode cX10_pass 68 = .ok (.ireturn, 1) := by decide +kernel
theorem dX10_open_0 : decode cX10_open 0 = .ok (.aload_n 0, 1) := by decide +kernel
theorem dX10_open_1 : decode cX10_open 1 = .ok (.getfield 12, 3) := by decide +kernel
theorem dX10_open_4 : decode cX10_open 4 = .ok (.aload_n 1, 1) := by decide +kernel
theorem dX10_open_5 : decode cX10_open 5 = .ok (.getfield 83, 3) := by decide +kernel
theorem dX10_open_8 : decode cX10_open 8 = .ok (.invokevirtual 93, 3) := by decide +kernel
theorem dX10_open_11 : decode cX10_open 11 = .ok (.ifCond .ne 15, 3) := by decide +kernel
theorem dX10_open_14 : decode cX10_open 14 = .ok (.aload_n 0, 1) := by decide +kernel
theorem dX10_open_15 : decode cX10_open 15 = .ok (.getfield 49, 3) := by decide +kernel
theorem dX10_open_18 : decode cX10_open 18 = .ok (.aload_n 0, 1) := by decide +kernel
theorem dX10_open_19 : decode cX10_open 19 = .ok (.getfield 27, 3) := by decide +kernel
theorem dX10_open_22 : decode cX10_open 22 = .ok (.arraylength, 1) := by decide +kernel
theorem dX10_open_23 : decode cX10_open 23 = .ok (.if_icmp .lt 6, 3) := by decide +kernel
theorem dX10_open_26 : decode cX10_open 26 = .ok (.bipush 6, 2) := by decide +kernel
theorem dX10_open_28 : decode cX10_open 28 = .ok (.ireturn, 1) := by decide +kernel
theorem dX10_open_29 : decode cX10_open 29 = .ok (.aload_n 0, 1) := by decide +kernel
theorem dX10_open_30 : decode cX10_open 30 = .ok (.getfield 12, 3) := by decide +kernel
theorem dX10_open_33 : decode cX10_open 33 = .ok (.getfield 96, 3) := by decide +kernel
theorem dX10_open_36 : decode cX10_open 36 = .ok (.aload_n 1, 1) := by decide +kernel
theorem dX10_open_37 : decode cX10_open 37 = .ok (.getfield 83, 3) := by decide +kernel
theorem dX10_open_40 : decode cX10_open 40 = .ok (.iaload, 1) := by decide +kernel
theorem dX10_open_41 : decode cX10_open 41 = .ok (.istore_n 2, 1) := by decide +kernel
theorem dX10_open_42 : decode cX10_open 42 = .ok (.aload_n 1, 1) := by decide +kernel
theorem dX10_open_43 : decode cX10_open 43 = .ok (.invokevirtual 99, 3) := by decide +kernel
theorem dX10_open_46 : decode cX10_open 46 = .ok (.istore_n 3, 1) := by decide +kernel
theorem dX10_open_47 : decode cX10_open 47 = .ok (.aload_n 0, 1) := by decide +kernel
theorem dX10_open_48 : decode cX10_open 48 = .ok (.getfield 12, 3) := by decide +kernel
theorem dX10_open_51 : decode cX10_open 51 = .ok (.getfield 102, 3) := by decide +kernel
theorem dX10_open_54 : decode cX10_open 54 = .ok (.iload_n 3, 1) := by decide +kernel
theorem dX10_open_55 : decode cX10_open 55 = .ok (.iand, 1) := by decide +kernel
theorem dX10_open_56 : decode cX10_open 56 = .ok (.iload_n 3, 1) := by decide +kernel
theorem dX10_open_57 : decode cX10_open 57 = .ok (.if_icmp .eq 6, 3) := by decide +kernel
theorem dX10_open_60 : decode cX10_open 60 = .ok (.bipush 7, 2) := by decide +kernel
theorem dX10_open_62 : decode cX10_open 62 = .ok (.ireturn, 1) := by decide +kernel
theorem dX10_open_63 : decode cX10_open 63 = .ok (.aload_n 1, 1) := by decide +kernel
theorem dX10_open_64 : decode cX10_open 64 = .ok (.iload_n 2, 1) := by decide +kernel
theorem dX10_open_65 : decode cX10_open 65 = .ok (.invokevirtual 105, 3) := by decide +kernel
theorem dX10_open_68 : decode cX10_open 68 = .ok (.ifCond .eq 6, 3) := by decide +kernel
theorem dX10_open_71 : decode cX10_open 71 = .ok (.bipush 8, 2) := by decide +kernel
theorem dX10_open_73 : decode cX10_open 73 = .ok (.ireturn, 1) := by decide +kernel
theorem dX10_open_74 : decode cX10_open 74 = .ok (.aload_n 0, 1) := by decide +kernel
theorem dX10_open_75 : decode cX10_open 75 = .ok (.getfield 23, 3) := by decide +kernel
theorem dX10_open_78 : decode cX10_open 78 = .ok (.bipush 100, 2) := by decide +kernel
theorem dX10_open_80 : decode cX10_open 80 = .ok (.aload_n 1, 1) := by decide +kernel
theorem dX10_open_81 : decode cX10_open 81 = .ok (.getfield 83, 3) := by decide +kernel
theorem dX10_open_84 : decode cX10_open 84 = .ok (.iadd, 1) := by decide +kernel
theorem dX10_open_85 : decode cX10_open 85 = .ok (.invokevirtual 46, 3) := by decide +kernel
theorem dX10_open_88 : decode cX10_open 88 = .ok (.aload_n 0, 1) := by decide +kernel
theorem dX10_open_89 : decode cX10_open 89 = .ok (.getfield 27, 3) := by decide +kernel
theorem dX10_open_92 : decode cX10_open 92 = .ok (.aload_n 0, 1) := by decide +kernel
theorem dX10_open_93 : decode cX10_open 93 = .ok (.getfield 49, 3) := by decide +kernel
theorem dX10_open_96 : decode cX10_open 96 = .ok (.aload_n 1, 1) := by decide +kernel
theorem dX10_open_97 : decode cX10_open 97 = .ok (.getfield 83, 3) := by decide +kernel
theorem dX10_open_100 : decode cX10_open 100 = .ok (.iastore, 1) := by decide +kernel
theorem dX10_open_101 : decode cX10_open 101 = .ok (.aload_n 0, 1) := by decide +kernel
theorem dX10_open_102 : decode cX10_open 102 = .ok (.dup, 1) := by decide +kernel
theorem dX10_open_103 : decode cX10_open 103 = .ok (.getfield 49, 3) := by decide +kernel
theorem dX10_open_106 : decode cX10_open 106 = .ok (.iconst 1, 1) := by decide +kernel
theorem dX10_open_107 : decode cX10_open 107 = .ok (.iadd, 1) := by decide +kernel
theorem dX10_open_108 : decode cX10_open 108 = .ok (.putfield 49, 3) := by decide +kernel
theorem dX10_open_111 : decode cX10_open 111 = .ok (.aload_n 0, 1) := by decide +kernel
theorem dX10_open_112 : decode cX10_open 112 = .ok (.dup, 1) := by decide +kernel
theorem dX10_open_113 : decode cX10_open 113 = .ok (.getfield 58, 3) := by decide +kernel
theorem dX10_open_116 : decode cX10_open 116 = .ok (.iconst 1, 1) := by decide +kernel
theorem dX10_open_117 : decode cX10_open 117 = .ok (.aload_n 1, 1) := by decide +kernel
theorem dX10_open_118 : decode cX10_open 118 = .ok (.getfield 83, 3) := by decide +kernel
theorem dX10_open_121 : decode cX10_open 121 = .ok (.ishl, 1) := by decide +kernel
theorem dX10_open_122 : decode cX10_open 122 = .ok (.ior, 1) := by decide +kernel
theorem dX10_open_123 : decode cX10_open 123 = .ok (.putfield 58, 3) := by decide +kernel
theorem dX10_open_126 : decode cX10_open 126 = .ok (.aload_n 0, 1) := by decide +kernel
theorem dX10_open_127 : decode cX10_open 127 = .ok (.dup, 1) := by decide +kernel
theorem dX10_open_128 : decode cX10_open 128 = .ok (.getfield 70, 3) := by decide +kernel
theorem dX10_open_131 : decode cX10_open 131 = .ok (.iload_n 3, 1) := by decide +kernel
theorem dX10_open_132 : decode cX10_open 132 = .ok (.ior, 1) := by decide +kernel
theorem dX10_open_133 : decode cX10_open 133 = .ok (.putfield 70, 3) := by decide +kernel
theorem dX10_open_136 : decode cX10_open 136 = .ok (.aload_n 0, 1) := by decide +kernel
theorem dX10_open_137 : decode cX10_open 137 = .ok (.dup, 1) := by decide +kernel
theorem dX10_open_138 : decode cX10_open 138 = .ok (.getfield 64, 3) := by decide +kernel
theorem dX10_open_141 : decode cX10_open 141 = .ok (.aload_n 1, 1) := by decide +kernel
theorem dX10_open_142 : decode cX10_open 142 = .ok (.iload_n 2, 1) := by decide +kernel
theorem dX10_open_143 : decode cX10_open 143 = .ok (.invokevirtual 108, 3) := by decide +kernel
theorem dX10_open_146 : decode cX10_open 146 = .ok (.iadd, 1) := by decide +kernel
theorem dX10_open_147 : decode cX10_open 147 = .ok (.putfield 64, 3) := by decide +kernel
theorem dX10_open_150 : decode cX10_open 150 = .ok (.aload_n 0, 1) := by decide +kernel
theorem dX10_open_151 : decode cX10_open 151 = .ok (.dup, 1) := by decide +kernel
theorem dX10_open_152 : decode cX10_open 152 = .ok (.getfield 67, 3) := by decide +kernel
theorem dX10_open_155 : decode cX10_open 155 = .ok (.aload_n 1, 1) := by decide +kernel
theorem dX10_open_156 : decode cX10_open 156 = .ok (.invokevirtual 111, 3) := by decide +kernel
theorem dX10_open_159 : decode cX10_open 159 = .ok (.iadd, 1) := by decide +kernel
theorem dX10_open_160 : decode cX10_open 160 = .ok (.putfield 67, 3) := by decide +kernel
theorem dX10_open_163 : decode cX10_open 163 = .ok (.aload_n 0, 1) := by decide +kernel
theorem dX10_open_164 : decode cX10_open 164 = .ok (.getfield 12, 3) := by decide +kernel
theorem dX10_open_167 : decode cX10_open 167 = .ok (.getfield 96, 3) := by decide +kernel
theorem dX10_open_170 : decode cX10_open 170 = .ok (.aload_n 1, 1) := by decide +kernel
theorem dX10_open_171 : decode cX10_open 171 = .ok (.getfield 83, 3) := by decide +kernel
theorem dX10_open_174 : decode cX10_open 174 = .ok (.iload_n 2, 1) := by decide +kernel
theorem dX10_open_175 : decode cX10_open 175 = .ok (.iconst 1, 1) := by decide +kernel
theorem dX10_open_176 : decode cX10_open 176 = .ok (.iadd, 1) := by decide +kernel
theorem dX10_open_177 : decode cX10_open 177 = .ok (.iastore, 1) := by decide +kernel
theorem dX10_open_178 : decode cX10_open 178 = .ok (.aload_n 0, 1) := by decide +kernel
theorem dX10_open_179 : decode cX10_open 179 = .ok (.getfield 64, 3) := by decide +kernel
theorem dX10_open_182 : decode cX10_open 182 = .ok (.aload_n 0, 1) := by decide +kernel
theorem dX10_open_183 : decode cX10_open 183 = .ok (.getfield 12, 3) := by decide +kernel
theorem dX10_open_186 : decode cX10_open 186 = .ok (.getfield 114, 3) := by decide +kernel
theorem dX10_open_189 : decode cX10_open 189 = .ok (.if_icmp .le 6, 3) := by decide +kernel
theorem dX10_open_192 : decode cX10_open 192 = .ok (.bipush 9, 2) := by decide +kernel
theorem dX10_open_194 : decode cX10_open 194 = .ok (.ireturn, 1) := by decide +kernel
theorem dX10_open_195 : decode cX10_open 195 = .ok (.aload_n 0, 1) := by decide +kernel
theorem dX10_open_196 : decode cX10_open 196 = .ok (.getfield 67, 3) := by decide +kernel
theorem dX10_open_199 : decode cX10_open 199 = .ok (.aload_n 0, 1) := by decide +kernel
theorem dX10_open_200 : decode cX10_open 200 = .ok (.getfield 12, 3) := by decide +kernel
theorem dX10_open_203 : decode cX10_open 203 = .ok (.getfield 117, 3) := by decide +kernel
theorem dX10_open_206 : decode cX10_open 206 = .ok (.if_icmp .le 8, 3) := by decide +kernel
theorem dX10_open_209 : decode cX10_open 209 = .ok (.bipush 10, 2) := by decide +kernel
theorem dX10_open_211 : decode cX10_open 211 = .ok (.goto 4, 3) := by decide +kernel
theorem dX10_open_214 : decode cX10_open 214 = .ok (.iconst 0, 1) := by decide +kernel
theorem dX10_open_215 : decode cX10_open 215 = .ok (.ireturn, 1) := by decide +kernel
theorem dX10_take_0 : decode cX10_take 0 = .ok (.aload_n 0, 1) := by decide +kernel
theorem dX10_take_1 : decode cX10_take 1 = .ok (.getfield 12, 3) := by decide +kernel
theorem dX10_take_4 : decode cX10_take 4 = .ok (.aload_n 0, 1) := by decide +kernel
theorem dX10_take_5 : decode cX10_take 5 = .ok (.getfield 61, 3) := by decide +kernel
theorem dX10_take_8 : decode cX10_take 8 = .ok (.invokevirtual 120, 3) := by decide +kernel
theorem dX10_take_11 : decode cX10_take 11 = .ok (.ifCond .ne 18, 3) := by decide +kernel
theorem dX10_take_14 : decode cX10_take 14 = .ok (.aload_n 0, 1) := by decide +kernel
theorem dX10_take_15 : decode cX10_take 15 = .ok (.getfield 12, 3) := by decide +kernel
theorem dX10_take_18 : decode cX10_take 18 = .ok (.getfield 123, 3) := by decide +kernel
theorem dX10_take_21 : decode cX10_take 21 = .ok (.aload_n 0, 1) := by decide +kernel
theorem dX10_take_22 : decode cX10_take 22 = .ok (.getfield 61, 3) := by decide +kernel
theorem dX10_take_25 : decode cX10_take 25 = .ok (.iaload, 1) := by decide +kernel
theorem dX10_take_26 : decode cX10_take 26 = .ok (.ifCond .ne 6, 3) := by decide +kernel
theorem dX10_take_29 : decode cX10_take 29 = .ok (.bipush 11, 2) := by decide +kernel
theorem dX10_take_31 : decode cX10_take 31 = .ok (.ireturn, 1) := by decide +kernel
theorem dX10_take_32 : decode cX10_take 32 = .ok (.aload_n 0, 1) := by decide +kernel
theorem dX10_take_33 : decode cX10_take 33 = .ok (.aload_n 0, 1) := by decide +kernel
theorem dX10_take_34 : decode cX10_take 34 = .ok (.getfield 12, 3) := by decide +kernel
theorem dX10_take_37 : decode cX10_take 37 = .ok (.getfield 123, 3) := by decide +kernel
theorem dX10_take_40 : decode cX10_take 40 = .ok (.aload_n 0, 1) := by decide +kernel
theorem dX10_take_41 : decode cX10_take 41 = .ok (.getfield 61, 3) := by decide +kernel
theorem dX10_take_44 : decode cX10_take 44 = .ok (.iaload, 1) := by decide +kernel
theorem dX10_take_45 : decode cX10_take 45 = .ok (.putfield 52, 3) := by decide +kernel
theorem dX10_take_48 : decode cX10_take 48 = .ok (.aload_n 0, 1) := by decide +kernel
theorem dX10_take_49 : decode cX10_take 49 = .ok (.getfield 12, 3) := by decide +kernel
theorem dX10_take_52 : decode cX10_take 52 = .ok (.getfield 123, 3) := by decide +kernel
theorem dX10_take_55 : decode cX10_take 55 = .ok (.aload_n 0, 1) := by decide +kernel
theorem dX10_take_56 : decode cX10_take 56 = .ok (.getfield 61, 3) := by decide +kernel
theorem dX10_take_59 : decode cX10_take 59 = .ok (.iconst 0, 1) := by decide +kernel
theorem dX10_take_60 : decode cX10_take 60 = .ok (.iastore, 1) := by decide +kernel
theorem dX10_take_61 : decode cX10_take 61 = .ok (.aload_n 0, 1) := by decide +kernel
theorem dX10_take_62 : decode cX10_take 62 = .ok (.getfield 12, 3) := by decide +kernel
theorem dX10_take_65 : decode cX10_take 65 = .ok (.dup, 1) := by decide +kernel
theorem dX10_take_66 : decode cX10_take 66 = .ok (.getfield 125, 3) := by decide +kernel
theorem dX10_take_69 : decode cX10_take 69 = .ok (.aload_n 0, 1) := by decide +kernel
theorem dX10_take_70 : decode cX10_take 70 = .ok (.getfield 52, 3) := by decide +kernel
theorem dX10_take_73 : decode cX10_take 73 = .ok (.iadd, 1) := by decide +kernel
theorem dX10_take_74 : decode cX10_take 74 = .ok (.putfield 125, 3) := by decide +kernel
theorem dX10_take_77 : decode cX10_take 77 = .ok (.aload_n 0, 1) := by decide +kernel
theorem dX10_take_78 : decode cX10_take 78 = .ok (.getfield 23, 3) := by decide +kernel
theorem dX10_take_81 : decode cX10_take 81 = .ok (.sipush 300, 3) := by decide +kernel
theorem dX10_take_84 : decode cX10_take 84 = .ok (.aload_n 0, 1) := by decide +kernel
theorem dX10_take_85 : decode cX10_take 85 = .ok (.getfield 61, 3) := by decide +kernel
theorem dX10_take_88 : decode cX10_take 88 = .ok (.iadd, 1) := by decide +kernel
theorem dX10_take_89 : decode cX10_take 89 = .ok (.invokevirtual 46, 3) := by decide +kernel
theorem dX10_take_92 : decode cX10_take 92 = .ok (.iconst 0, 1) := by decide +kernel
theorem dX10_take_93 : decode cX10_take 93 = .ok (.ireturn, 1) := by decide +kernel
theorem dX11_init_0 : decode cX11_init 0 = .ok (.aload_n 0, 1) := by decide +kernel
theorem dX11_init_1 : decode cX11_init 1 = .ok (.invokespecial 3, 3) := by decide +kernel
theorem dX11_init_4 : decode cX11_init 4 = .ok (.aload_n 0, 1) := by decide +kernel
theorem dX11_init_5 : decode cX11_init 5 = .ok (.bipush 8, 2) := by decide +kernel
theorem dX11_init_7 : decode cX11_init 7 = .ok (.anewarray 9, 3) := by decide +kernel
theorem dX11_init_10 : decode cX11_init 10 = .ok (.putfield 11, 3) := by decide +kernel
theorem dX11_init_13 : decode cX11_init 13 = .ok (.aload_n 0, 1) := by decide +kernel
theorem dX11_init_14 : decode cX11_init 14 = .ok (.new 15, 3) := by decide +kernel
theorem dX11_init_17 : decode cX11_init 17 = .ok (.dup, 1) := by decide +kernel
theorem dX11_init_18 : decode cX11_init 18 = .ok (.invokespecial 17, 3) := by decide +kernel
theorem dX11_init_21 : decode cX11_init 21 = .ok (.putfield 18, 3) := by decide +kernel
theorem dX11_init_24 : decode cX11_init 24 = .ok (.aload_n 0, 1) := by decide +kernel
theorem dX11_init_25 : decode cX11_init 25 = .ok (.new 22, 3) := by decide +kernel
theorem dX11_init_28 : decode cX11_init 28 = .ok (.dup, 1) := by decide +kernel
theorem dX11_init_29 : decode cX11_init 29 = .ok (.invokespecial 24, 3) := by decide +kernel
theorem dX11_init_32 : decode cX11_init 32 = .ok (.putfield 25, 3) := by decide +kernel
theorem dX11_init_35 : decode cX11_init 35 = .ok (.aload_n 0, 1) := by decide +kernel
theorem dX11_init_36 : decode cX11_init 36 = .ok (.aload_n 0, 1) := by decide +kernel
theorem dX11_init_37 : decode cX11_init 37 = .ok (.getfield 25, 3) := by decide +kernel
theorem dX11_init_40 : decode cX11_init 40 = .ok (.getfield 29, 3) := by decide +kernel
theorem dX11_init_43 : decode cX11_init 43 = .ok (.putfield 33, 3) := by decide +kernel
theorem dX11_init_46 : decode cX11_init 46 = .ok (.aload_n 0, 1) := by decide +kernel
theorem dX11_init_47 : decode cX11_init 47 = .ok (.aload_n 0, 1) := by decide +kernel
theorem dX11_init_48 : decode cX11_init 48 = .ok (.getfield 25, 3) := by decide +kernel
theorem dX11_init_51 : decode cX11_init 51 = .ok (.getfield 34, 3) := by decide +kernel
theorem dX11_init_54 : decode cX11_init 54 = .ok (.putfield 38, 3) := by decide +kernel
theorem dX11_init_57 : decode cX11_init 57 = .ok (.aload_n 0, 1) := by decide +kernel
theorem dX11_init_58 : decode cX11_init 58 = .ok (.new 22, 3) := by decide +kernel
theorem dX11_init_61 : decode cX11_init 61 = .ok (.dup, 1) := by decide +kernel
theorem dX11_init_62 : decode cX11_init 62 = .ok (.invokespecial 24, 3) := by decide +kernel
theorem dX11_init_65 : decode cX11_init 65 = .ok (.putfield 39, 3) := by decide +kernel
theorem dX11_init_68 : decode cX11_init 68 = .ok (.aload_n 0, 1) := by decide +kernel
theorem dX11_init_69 : decode cX11_init 69 = .ok (.aload_n 0, 1) := by decide +kernel
theorem dX11_init_70 : decode cX11_init 70 = .ok (.getfield 39, 3) := by decide +kernel
theorem dX11_init_73 : decode cX11_init 73 = .ok (.getfield 29, 3) := by decide +kernel
theorem dX11_init_76 : decode cX11_init 76 = .ok (.putfield 42, 3) := by decide +kernel
theorem dX11_init_79 : decode cX11_init 79 = .ok (.aload_n 0, 1) := by decide +kernel
theorem dX11_init_80 : decode cX11_init 80 = .ok (.bipush 24, 2) := by decide +kernel
theorem dX11_init_82 : decode cX11_init 82 = .ok (.anewarray 45, 3) := by decide +kernel
theorem dX11_init_85 : decode cX11_init 85 = .ok (.putfield 47, 3) := by decide +kernel
theorem dX11_init_88 : decode cX11_init 88 = .ok (.aload_n 0, 1) := by decide +kernel
theorem dX11_init_89 : decode cX11_init 89 = .ok (.iconst 2, 1) := by decide +kernel
theorem dX11_init_90 : decode cX11_init 90 = .ok (.anewarray 45, 3) := by decide +kernel
theorem dX11_init_93 : decode cX11_init 93 = .ok (.putfield 51, 3) := by decide +kernel
theorem dX11_init_96 : decode cX11_init 96 = .ok (.aload_n 0, 1) := by decide +kernel
theorem dX11_init_97 : decode cX11_init 97 = .ok (.new 54, 3) := by decide +kernel
theorem dX11_init_100 : decode cX11_init 100 = .ok (.dup, 1) := by decide +kernel
theorem dX11_init_101 : decode cX11_init 101 = .ok (.bipush 16, 2) := by decide +kernel
theorem dX11_init_103 : decode cX11_init 103 = .ok (.invokespecial 56, 3) := by decide +kernel
theorem dX11_init_106 : decode cX11_init 106 = .ok (.putfield 59, 3) := by decide +kernel
theorem dX11_init_109 : decode cX11_init 109 = .ok (.aload_n 0, 1) := by decide +kernel
theorem dX11_init_110 : decode cX11_init 110 = .ok (.iconst 3, 1) := by decide +kernel
theorem dX11_init_111 : decode cX11_init 111 = .ok (.anewarray 45, 3) := by decide +kernel
theorem dX11_init_114 : decode cX11_init 114 = .ok (.putfield 62, 3) := by decide +kernel
theorem dX11_init_117 : decode cX11_init 117 = .ok (.aload_n 0, 1) := by decide +kernel
theorem dX11_init_118 : decode cX11_init 118 = .ok (.iconst 3, 1) := by decide +kernel
theorem dX11_init_119 : decode cX11_init 119 = .ok (.newarray .int, 2) := by decide +kernel
theorem dX11_init_121 : decode cX11_init 121 = .ok (.putfield 65, 3) := by decide +kernel
theorem dX11_init_124 : decode cX11_init 124 = .ok (.iconst 0, 1) := by decide +kernel
theorem dX11_init_125 : decode cX11_init 125 = .ok (.istore_n 1, 1) := by decide +kernel
theorem dX11_init_126 : decode cX11_init 126 = .ok (.iload_n 1, 1) := by decide +kernel
theorem dX11_init_127 : decode cX11_init 127 = .ok (.aload_n 0, 1) := by decide +kernel
theorem dX11_init_128 : decode cX11_init 128 = .ok (.getfield 11, 3) := by decide +kernel
theorem dX11_init_131 : decode cX11_init 131 = .ok (.arraylength, 1) := by decide +kernel
theorem dX11_init_132 : decode cX11_init 132 = .ok (.if_icmp .ge 22, 3) := by decide +kernel
theorem dX11_init_135 : decode cX11_init 135 = .ok (.aload_n 0, 1) := by decide +kernel
theorem dX11_init_136 : decode cX11_init 136 = .ok (.getfield 11, 3) := by decide +kernel
theorem dX11_init_139 : decode cX11_init 139 = .ok (.iload_n 1, 1) := by decide +kernel
theorem dX11_init_140 : decode cX11_init 140 = .ok (.new 9, 3) := by decide +kernel
theorem dX11_init_143 : decode cX11_init 143 = .ok (.dup, 1) := by decide +kernel
theorem dX11_init_144 : decode cX11_init 144 = .ok (.invokespecial 69, 3) := by decide +kernel
theorem dX11_init_147 : decode cX11_init 147 = .ok (.aastore, 1) := by decide +kernel
theorem dX11_init_148 : decode cX11_init 148 = .ok (.iinc 1 1, 3) := by decide +kernel
theorem dX11_init_151 : decode cX11_init 151 = .ok (.goto (-25), 3) := by decide +kernel
theorem dX11_init_154 : decode cX11_init 154 = .ok (.iconst 0, 1) := by decide +kernel
theorem dX11_init_155 : decode cX11_init 155 = .ok (.istore_n 1, 1) := by decide +kernel
theorem dX11_init_156 : decode cX11_init 156 = .ok (.iload_n 1, 1) := by decide +kernel
theorem dX11_init_157 : decode cX11_init 157 = .ok (.aload_n 0, 1) := by decide +kernel
theorem dX11_init_158 : decode cX11_init 158 = .ok (.getfield 47, 3) := by decide +kernel
theorem dX11_init_161 : decode cX11_init 161 = .ok (.arraylength, 1) := by decide +kernel
theorem dX11_init_162 : decode cX11_init 162 = .ok (.if_icmp .ge 22, 3) := by decide +kernel
theorem dX11_init_165 : decode cX11_init 165 = .ok (.aload_n 0, 1) := by decide +kernel
theorem dX11_init_166 : decode cX11_init 166 = .ok (.getfield 47, 3) := by decide +kernel
theorem dX11_init_169 : decode cX11_init 169 = .ok (.iload_n 1, 1) := by decide +kernel
theorem dX11_init_170 : decode cX11_init 170 = .ok (.new 45, 3) := by decide +kernel
theorem dX11_init_173 : decode cX11_init 173 = .ok (.dup, 1) := by decide +kernel
theorem dX11_init_174 : decode cX11_init 174 = .ok (.invokespecial 70, 3) := by decide +kernel
theorem dX11_init_177 : decode cX11_init 177 = .ok (.aastore, 1) := by decide +kernel
theorem dX11_init_178 : decode cX11_init 178 = .ok (.iinc 1 1, 3) := by decide +kernel
theorem dX11_init_181 : decode cX11_init 181 = .ok (.goto (-25), 3) := by decide +kernel
theorem dX11_init_184 : decode cX11_init 184 = .ok (.iconst 0, 1) := by decide +kernel
theorem dX11_init_185 : decode cX11_init 185 = .ok (.istore_n 1, 1) := by decide +kernel
theorem dX11_init_186 : decode cX11_init 186 = .ok (.iload_n 1, 1) := by decide +kernel
theorem dX11_init_187 : decode cX11_init 187 = .ok (.aload_n 0, 1) := by decide +kernel
theorem dX11_init_188 : decode cX11_init 188 = .ok (.getfield 51, 3) := by decide +kernel
theorem dX11_init_191 : decode cX11_init 191 = .ok (.arraylength, 1) := by decide +kernel
theorem dX11_init_192 : decode cX11_init 192 = .ok (.if_icmp .ge 22, 3) := by decide +kernel
theorem dX11_init_195 : decode cX11_init 195 = .ok (.aload_n 0, 1) := by decide +kernel
theorem dX11_init_196 : decode cX11_init 196 = .ok (.getfield 51, 3) := by decide +kernel
theorem dX11_init_199 : decode cX11_init 199 = .ok (.iload_n 1, 1) := by decide +kernel
theorem dX11_init_200 : decode cX11_init 200 = .ok (.new 45, 3) := by decide +kernel
theorem dX11_init_203 : decode cX11_init 203 = .ok (.dup, 1) := by decide +kernel
theorem dX11_init_204 : decode cX11_init 204 = .ok (.invokespecial 70, 3) := by decide +kernel
theorem dX11_init_207 : decode cX11_init 207 = .ok (.aastore, 1) := by decide +kernel
theorem dX11_init_208 : decode cX11_init 208 = .ok (.iinc 1 1, 3) := by decide +kernel
theorem dX11_init_211 : decode cX11_init 211 = .ok (.goto (-25), 3) := by decide +kernel
theorem dX11_init_214 : decode cX11_init 214 = .ok (.iconst 0, 1) := by decide +kernel
theorem dX11_init_215 : decode cX11_init 215 = .ok (.istore_n 1, 1) := by decide +kernel
theorem dX11_init_216 : decode cX11_init 216 = .ok (.iload_n 1, 1) := by decide +kernel
theorem dX11_init_217 : decode cX11_init 217 = .ok (.aload_n 0, 1) := by decide +kernel
theorem dX11_init_218 : decode cX11_init 218 = .ok (.getfield 62, 3) := by decide +kernel
theorem dX11_init_221 : decode cX11_init 221 = .ok (.arraylength, 1) := by decide +kernel
theorem dX11_init_222 : decode cX11_init 222 = .ok (.if_icmp .ge 22, 3) := by decide +kernel
theorem dX11_init_225 : decode cX11_init 225 = .ok (.aload_n 0, 1) := by decide +kernel
theorem dX11_init_226 : decode cX11_init 226 = .ok (.getfield 62, 3) := by decide +kernel
theorem dX11_init_229 : decode cX11_init 229 = .ok (.iload_n 1, 1) := by decide +kernel
theorem dX11_init_230 : decode cX11_init 230 = .ok (.new 45, 3) := by decide +kernel
theorem dX11_init_233 : decode cX11_init 233 = .ok (.dup, 1) := by decide +kernel
theorem dX11_init_234 : decode cX11_init 234 = .ok (.invokespecial 70, 3) := by decide +kernel
theorem dX11_init_237 : decode cX11_init 237 = .ok (.aastore, 1) := by decide +kernel
theorem dX11_init_238 : decode cX11_init 238 = .ok (.iinc 1 1, 3) := by decide +kernel
theorem dX11_init_241 : decode cX11_init 241 = .ok (.goto (-25), 3) := by decide +kernel
theorem dX11_init_244 : decode cX11_init 244 = .ok (.return_, 1) := by decide +kernel
theorem dX11_row_0 : decode cX11_row 0 = .ok (.iload_n 1, 1) := by decide +kernel
theorem dX11_row_1 : decode cX11_row 1 = .ok (.invokestatic 71, 3) := by decide +kernel
theorem dX11_row_4 : decode cX11_row 4 = .ok (.ifCond .ne 18, 3) := by decide +kernel
theorem dX11_row_7 : decode cX11_row 7 = .ok (.iload_n 2, 1) := by decide +kernel
theorem dX11_row_8 : decode cX11_row 8 = .ok (.ifCond .lt 14, 3) := by decide +kernel
theorem dX11_row_11 : decode cX11_row 11 = .ok (.iload_n 2, 1) := by decide +kernel
theorem dX11_row_12 : decode cX11_row 12 = .ok (.iconst 2, 1) := by decide +kernel
theorem dX11_row_13 : decode cX11_row 13 = .ok (.if_icmp .gt 9, 3) := by decide +kernel
theorem dX11_row_16 : decode cX11_row 16 = .ok (.iload_n 3, 1) := by decide +kernel
theorem dX11_row_17 : decode cX11_row 17 = .ok (.bipush 40, 2) := by decide +kernel
theorem dX11_row_19 : decode cX11_row 19 = .ok (.if_icmp .le 6, 3) := by decide +kernel
theorem dX11_row_22 : decode cX11_row 22 = .ok (.ldc 75, 2) := by decide +kernel
theorem dX11_row_24 : decode cX11_row 24 = .ok (.ireturn, 1) := by decide +kernel
theorem dX11_row_25 : decode cX11_row 25 = .ok (.iload_n 3, 1) := by decide +kernel
theorem dX11_row_26 : decode cX11_row 26 = .ok (.ifCond .ge 9, 3) := by decide +kernel
theorem dX11_row_29 : decode cX11_row 29 = .ok (.aload_n 0, 1) := by decide +kernel
theorem dX11_row_30 : decode cX11_row 30 = .ok (.iconst 4, 1) := by decide +kernel
theorem dX11_row_31 : decode cX11_row 31 = .ok (.invokevirtual 76, 3) := by decide +kernel
theorem dX11_row_34 : decode cX11_row 34 = .ok (.ireturn, 1) := by decide +kernel
theorem dX11_row_35 : decode cX11_row 35 = .ok (.aload_n 0, 1) := by decide +kernel
theorem dX11_row_36 : decode cX11_row 36 = .ok (.getfield 11, 3) := by decide +kernel
theorem dX11_row_39 : decode cX11_row 39 = .ok (.iload_n 1, 1) := by decide +kernel
theorem dX11_row_40 : decode cX11_row 40 = .ok (.aaload, 1) := by decide +kernel
theorem dX11_row_41 : decode cX11_row 41 = .ok (.iload_n 2, 1) := by decide +kernel
theorem dX11_row_42 : decode cX11_row 42 = .ok (.iload_n 3, 1) := by decide +kernel
theorem dX11_row_43 : decode cX11_row 43 = .ok (.invokevirtual 80, 3) := by decide +kernel
theorem dX11_row_46 : decode cX11_row 46 = .ok (.aload_n 0, 1) := by decide +kernel
theorem dX11_row_47 : decode cX11_row 47 = .ok (.iload_n 3, 1) := by decide +kernel
theorem dX11_row_48 : decode cX11_row 48 = .ok (.invokevirtual 84, 3) := by decide +kernel
theorem dX11_row_51 : decode cX11_row 51 = .ok (.ireturn, 1) := by decide +kernel
theorem dX11_set_0 : decode cX11_set 0 = .ok (.iload_n 1, 1) := by decide +kernel
theorem dX11_set_1 : decode cX11_set 1 = .ok (.invokestatic 71, 3) := by decide +kernel
theorem dX11_set_4 : decode cX11_set 4 = .ok (.ifCond .eq 6, 3) := by decide +kernel
theorem dX11_set_7 : decode cX11_set 7 = .ok (.ldc 75, 2) := by decide +kernel
theorem dX11_set_9 : decode cX11_set 9 = .ok (.ireturn, 1) := by decide +kernel
theorem dX11_set_10 : decode cX11_set 10 = .ok (.aload_n 0, 1) := by decide +kernel
theorem dX11_set_11 : decode cX11_set 11 = .ok (.getfield 11, 3) := by decide +kernel
theorem dX11_set_14 : decode cX11_set 14 = .ok (.iload_n 1, 1) := by decide +kernel
theorem dX11_set_15 : decode cX11_set 15 = .ok (.aaload, 1) := by decide +kernel
theorem dX11_set_16 : decode cX11_set 16 = .ok (.astore 4, 2) := by decide +kernel
theorem dX11_set_18 : decode cX11_set 18 = .ok (.aload 4, 2) := by decide +kernel
theorem dX11_set_20 : decode cX11_set 20 = .ok (.invokevirtual 87, 3) := by decide +kernel
theorem dX11_set_23 : decode cX11_set 23 = .ok (.ifCond .eq 9, 3) := by decide +kernel
theorem dX11_set_26 : decode cX11_set 26 = .ok (.aload_n 0, 1) := by decide +kernel
theorem dX11_set_27 : decode cX11_set 27 = .ok (.iconst 1, 1) := by decide +kernel
theorem dX11_set_28 : decode cX11_set 28 = .ok (.invokevirtual 76, 3) := by decide +kernel
theorem dX11_set_31 : decode cX11_set 31 = .ok (.ireturn, 1) := by decide +kernel
theorem dX11_set_32 : decode cX11_set 32 = .ok (.aload 4, 2) := by decide +kernel
theorem dX11_set_34 : decode cX11_set 34 = .ok (.iload_n 2, 1) := by decide +kernel
theorem dX11_set_35 : decode cX11_set 35 = .ok (.iconst 1, 1) := by decide +kernel
theorem dX11_set_36 : decode cX11_set 36 = .ok (.invokevirtual 91, 3) := by decide +kernel
theorem dX11_set_39 : decode cX11_set 39 = .ok (.ifCond .ne 9, 3) := by decide +kernel
theorem dX11_set_42 : decode cX11_set 42 = .ok (.aload_n 0, 1) := by decide +kernel
theorem dX11_set_43 : decode cX11_set 43 = .ok (.iconst 2, 1) := by decide +kernel
theorem dX11_set_44 : decode cX11_set 44 = .ok (.invokevirtual 76, 3) := by decide +kernel
theorem dX11_set_47 : decode cX11_set 47 = .ok (.ireturn, 1) := by decide +kernel
theorem dX11_set_48 : decode cX11_set 48 = .ok (.aload_n 0, 1) := by decide +kernel
theorem dX11_set_49 : decode cX11_set 49 = .ok (.aload 4, 2) := by decide +kernel
theorem dX11_set_51 : decode cX11_set 51 = .ok (.iload_n 2, 1) := by decide +kernel
theorem dX11_set_52 : decode cX11_set 52 = .ok (.iload_n 3, 1) := by decide +kernel
theorem dX11_set_53 : decode cX11_set 53 = .ok (.invokevirtual 95, 3) := by decide +kernel
theorem dX11_set_56 : decode cX11_set 56 = .ok (.invokevirtual 84, 3) := by decide +kernel
theorem dX11_set_59 : decode cX11_set 59 = .ok (.ireturn, 1) := by decide +kernel
theorem dX11_copy_0 : decode cX11_copy 0 = .ok (.iload_n 1, 1) := by decide +kernel
theorem dX11_copy_1 : decode cX11_copy 1 = .ok (.invokestatic 71, 3) := by decide +kernel
theorem dX11_copy_4 : decode cX11_copy 4 = .ok (.ifCond .ne 10, 3) := by decide +kernel
theorem dX11_copy_7 : decode cX11_copy 7 = .ok (.iload_n 3, 1) := by decide +kernel
theorem dX11_copy_8 : decode cX11_copy 8 = .ok (.invokestatic 71, 3) := by decide +kernel
theorem dX11_copy_11 : decode cX11_copy 11 = .ok (.ifCond .eq 6, 3) := by decide +kernel
theorem dX11_copy_14 : decode cX11_copy 14 = .ok (.ldc 75, 2) := by decide +kernel
theorem dX11_copy_16 : decode cX11_copy 16 = .ok (.ireturn, 1) := by decide +kernel
theorem dX11_copy_17 : decode cX11_copy 17 = .ok (.aload_n 0, 1) := by decide +kernel
theorem dX11_copy_18 : decode cX11_copy 18 = .ok (.getfield 11, 3) := by decide +kernel
theorem dX11_copy_21 : decode cX11_copy 21 = .ok (.iload_n 1, 1) := by decide +kernel
theorem dX11_copy_22 : decode cX11_copy 22 = .ok (.aaload, 1) := by decide +kernel
theorem dX11_copy_23 : decode cX11_copy 23 = .ok (.astore 6, 2) := by decide +kernel
theorem dX11_copy_25 : decode cX11_copy 25 = .ok (.aload_n 0, 1) := by decide +kernel
theorem dX11_copy_26 : decode cX11_copy 26 = .ok (.getfield 11, 3) := by decide +kernel
theorem dX11_copy_29 : decode cX11_copy 29 = .ok (.iload_n 3, 1) := by decide +kernel
theorem dX11_copy_30 : decode cX11_copy 30 = .ok (.aaload, 1) := by decide +kernel
theorem dX11_copy_31 : decode cX11_copy 31 = .ok (.astore 7, 2) := by decide +kernel
theorem dX11_copy_33 : decode cX11_copy 33 = .ok (.aload 6, 2) := by decide +kernel
theorem dX11_copy_35 : decode cX11_copy 35 = .ok (.invokevirtual 87, 3) := by decide +kernel
theorem dX11_copy_38 : decode cX11_copy 38 = .ok (.ifCond .ne 11, 3) := by decide +kernel
theorem dX11_copy_41 : decode cX11_copy 41 = .ok (.aload 7, 2) := by decide +kernel
theorem dX11_copy_43 : decode cX11_copy 43 = .ok (.invokevirtual 87, 3) := by decide +kernel
theorem dX11_copy_46 : decode cX11_copy 46 = .ok (.ifCond .eq 9, 3) := by decide +kernel
theorem dX11_copy_49 : decode cX11_copy 49 = .ok (.aload_n 0, 1) := by decide +kernel
theorem dX11_copy_50 : decode cX11_copy 50 = .ok (.iconst 1, 1) := by decide +kernel
theorem dX11_copy_51 : decode cX11_copy 51 = .ok (.invokevirtual 76, 3) := by decide +kernel
theorem dX11_copy_54 : decode cX11_copy 54 = .ok (.ireturn, 1) := by decide +kernel
theorem dX11_copy_55 : decode cX11_copy 55 = .ok (.aload 6, 2) := by decide +kernel
theorem dX11_copy_57 : decode cX11_copy 57 = .ok (.getfield 99, 3) := by decide +kernel
theorem dX11_copy_60 : decode cX11_copy 60 = .ok (.aload 7, 2) := by decide +kernel
theorem dX11_copy_62 : decode cX11_copy 62 = .ok (.getfield 99, 3) := by decide +kernel
theorem dX11_copy_65 : decode cX11_copy 65 = .ok (.if_icmp .eq 9, 3) := by decide +kernel
theorem dX11_copy_68 : decode cX11_copy 68 = .ok (.aload_n 0, 1) := by decide +kernel
theorem dX11_copy_69 : decode cX11_copy 69 = .ok (.iconst 5, 1) := by decide +kernel
theorem dX11_copy_70 : decode cX11_copy 70 = .ok (.invokevirtual 76, 3) := by decide +kernel
theorem dX11_copy_73 : decode cX11_copy 73 = .ok (.ireturn, 1) := by decide +kernel
theorem dX11_copy_74 : decode cX11_copy 74 = .ok (.aload 6, 2) := by decide +kernel
theorem dX11_copy_76 : decode cX11_copy 76 = .ok (.iload_n 2, 1) := by decide +kernel
theorem dX11_copy_77 : decode cX11_copy 77 = .ok (.iload 5, 2) := by decide +kernel
theorem dX11_copy_79 : decode cX11_copy 79 = .ok (.invokevirtual 91, 3) := by decide +kernel
theorem dX11_copy_82 : decode cX11_copy 82 = .ok (.ifCond .eq 15, 3) := by decide +kernel
theorem dX11_copy_85 : decode cX11_copy 85 = .ok (.aload 7, 2) := by decide +kernel
theorem dX11_copy_87 : decode cX11_copy 87 = .ok (.iload 4, 2) := by decide +kernel
theorem dX11_copy_89 : decode cX11_copy 89 = .ok (.iload 5, 2) := by decide +kernel
theorem dX11_copy_91 : decode cX11_copy 91 = .ok (.invokevirtual 91, 3) := by decide +kernel
theorem dX11_copy_94 : decode cX11_copy 94 = .ok (.ifCond .ne 9, 3) := by decide +kernel
theorem dX11_copy_97 : decode cX11_copy 97 = .ok (.aload_n 0, 1) := by decide +kernel
theorem dX11_copy_98 : decode cX11_copy 98 = .ok (.iconst 2, 1) := by decide +kernel
theorem dX11_copy_99 : decode cX11_copy 99 = .ok (.invokevirtual 76, 3) := by decide +kernel
theorem dX11_copy_102 : decode cX11_copy 102 = .ok (.ireturn, 1) := by decide +kernel
theorem dX11_copy_103 : decode cX11_copy 103 = .ok (.aload 6, 2) := by decide +kernel
theorem dX11_copy_105 : decode cX11_copy 105 = .ok (.getfield 103, 3) := by decide +kernel
theorem dX11_copy_108 : decode cX11_copy 108 = .ok (.iload_n 2, 1) := by decide +kernel
theorem dX11_copy_109 : decode cX11_copy 109 = .ok (.aload 7, 2) := by decide +kernel
theorem dX11_copy_111 : decode cX11_copy 111 = .ok (.getfield 103, 3) := by decide +kernel
theorem dX11_copy_114 : decode cX11_copy 114 = .ok (.iload 4, 2) := by decide +kernel
theorem dX11_copy_116 : decode cX11_copy 116 = .ok (.iload 5, 2) := by decide +kernel
theorem dX11_copy_118 : decode cX11_copy 118 = .ok (.invokestatic 106, 3) := by decide +kernel
theorem dX11_copy_121 : decode cX11_copy 121 = .ok (.aload_n 0, 1) := by decide +kernel
theorem dX11_copy_122 : decode cX11_copy 122 = .ok (.iload 5, 2) := by decide +kernel
theorem dX11_copy_124 : decode cX11_copy 124 = .ok (.invokevirtual 84, 3) := by decide +kernel
theorem dX11_copy_127 : decode cX11_copy 127 = .ok (.ireturn, 1) := by decide +kernel
theorem dX11_drop_0 : decode cX11_drop 0 = .ok (.iload_n 1, 1) := by decide +kernel
theorem dX11_drop_1 : decode cX11_drop 1 = .ok (.invokestatic 71, 3) := by decide +kernel
theorem dX11_drop_4 : decode cX11_drop 4 = .ok (.ifCond .eq 6, 3) := by decide +kernel
theorem dX11_drop_7 : decode cX11_drop 7 = .ok (.ldc 75, 2) := by decide +kernel
theorem dX11_drop_9 : decode cX11_drop 9 = .ok (.ireturn, 1) := by decide +kernel
theorem dX11_drop_10 : decode cX11_drop 10 = .ok (.aload_n 0, 1) := by decide +kernel
theorem dX11_drop_11 : decode cX11_drop 11 = .ok (.getfield 11, 3) := by decide +kernel
theorem dX11_drop_14 : decode cX11_drop 14 = .ok (.iload_n 1, 1) := by decide +kernel
theorem dX11_drop_15 : decode cX11_drop 15 = .ok (.aaload, 1) := by decide +kernel
theorem dX11_drop_16 : decode cX11_drop 16 = .ok (.astore_n 2, 1) := by decide +kernel
theorem dX11_drop_17 : decode cX11_drop 17 = .ok (.aload_n 2, 1) := by decide +kernel
theorem dX11_drop_18 : decode cX11_drop 18 = .ok (.invokevirtual 87, 3) := by decide +kernel
theorem dX11_drop_21 : decode cX11_drop 21 = .ok (.ifCond .eq 9, 3) := by decide +kernel
theorem dX11_drop_24 : decode cX11_drop 24 = .ok (.aload_n 0, 1) := by decide +kernel
theorem dX11_drop_25 : decode cX11_drop 25 = .ok (.iconst 1, 1) := by decide +kernel
theorem dX11_drop_26 : decode cX11_drop 26 = .ok (.invokevirtual 76, 3) := by decide +kernel
theorem dX11_drop_29 : decode cX11_drop 29 = .ok (.ireturn, 1) := by decide +kernel
theorem dX11_drop_30 : decode cX11_drop 30 = .ok (.aload_n 2, 1) := by decide +kernel
theorem dX11_drop_31 : decode cX11_drop 31 = .ok (.getfield 112, 3) := by decide +kernel
theorem dX11_drop_34 : decode cX11_drop 34 = .ok (.istore_n 3, 1) := by decide +kernel
theorem dX11_drop_35 : decode cX11_drop 35 = .ok (.aload_n 2, 1) := by decide +kernel
theorem dX11_drop_36 : decode cX11_drop 36 = .ok (.invokevirtual 115, 3) := by decide +kernel
theorem dX11_drop_39 : decode cX11_drop 39 = .ok (.aload_n 0, 1) := by decide +kernel
theorem dX11_drop_40 : decode cX11_drop 40 = .ok (.iload_n 3, 1) := by decide +kernel
theorem dX11_drop_41 : decode cX11_drop 41 = .ok (.invokevirtual 84, 3) := by decide +kernel
theorem dX11_drop_44 : decode cX11_drop 44 = .ok (.ireturn, 1) := by decide +kernel
theorem dX11_feed_0 : decode cX11_feed 0 = .ok (.iload_n 1, 1) := by decide +kernel
theorem dX11_feed_1 : decode cX11_feed 1 = .ok (.ifCond .lt 10, 3) := by decide +kernel
theorem dX11_feed_4 : decode cX11_feed 4 = .ok (.iload_n 1, 1) := by decide +kernel
theorem dX11_feed_5 : decode cX11_feed 5 = .ok (.sipush 255, 3) := by decide +kernel
theorem dX11_feed_8 : decode cX11_feed 8 = .ok (.if_icmp .le 6, 3) := by decide +kernel
theorem dX11_feed_11 : decode cX11_feed 11 = .ok (.ldc 75, 2) := by decide +kernel
theorem dX11_feed_13 : decode cX11_feed 13 = .ok (.ireturn, 1) := by decide +kernel
theorem dX11_feed_14 : decode cX11_feed 14 = .ok (.aload_n 0, 1) := by decide +kernel
theorem dX11_feed_15 : decode cX11_feed 15 = .ok (.getfield 18, 3) := by decide +kernel
theorem dX11_feed_18 : decode cX11_feed 18 = .ok (.invokevirtual 118, 3) := by decide +kernel
theorem dX11_feed_21 : decode cX11_feed 21 = .ok (.ifCond .eq 6, 3) := by decide +kernel
theorem dX11_feed_24 : decode cX11_feed 24 = .ok (.ldc 121, 2) := by decide +kernel
theorem dX11_feed_26 : decode cX11_feed 26 = .ok (.ireturn, 1) := by decide +kernel
theorem dX11_feed_27 : decode cX11_feed 27 = .ok (.aload_n 0, 1) := by decide +kernel
theorem dX11_feed_28 : decode cX11_feed 28 = .ok (.getfield 18, 3) := by decide +kernel
theorem dX11_feed_31 : decode cX11_feed 31 = .ok (.iload_n 1, 1) := by decide +kernel
theorem dX11_feed_32 : decode cX11_feed 32 = .ok (.invokevirtual 122, 3) := by decide +kernel
theorem dX11_feed_35 : decode cX11_feed 35 = .ok (.ireturn, 1) := by decide +kernel
theorem dX11_house_0 : decode cX11_house 0 = .ok (.aload_n 0, 1) := by decide +kernel
theorem dX11_house_1 : decode cX11_house 1 = .ok (.getfield 18, 3) := by decide +kernel
theorem dX11_house_4 : decode cX11_house 4 = .ok (.invokevirtual 125, 3) := by decide +kernel
theorem dX11_house_7 : decode cX11_house 7 = .ok (.aload_n 0, 1) := by decide +kernel
theorem dX11_house_8 : decode cX11_house 8 = .ok (.getfield 18, 3) := by decide +kernel
theorem dX11_house_11 : decode cX11_house 11 = .ok (.getfield 128, 3) := by decide +kernel
theorem dX11_house_14 : decode cX11_house 14 = .ok (.ifCond .eq 25, 3) := by decide +kernel
theorem dX11_house_17 : decode cX11_house 17 = .ok (.aload_n 0, 1) := by decide +kernel
theorem dX11_house_18 : decode cX11_house 18 = .ok (.aload_n 0, 1) := by decide +kernel
theorem dX11_house_19 : decode cX11_house 19 = .ok (.getfield 18, 3) := by decide +kernel
theorem dX11_house_22 : decode cX11_house 22 = .ok (.getfield 128, 3) := by decide +kernel
theorem dX11_house_25 : decode cX11_house 25 = .ok (.putfield 131, 3) := by decide +kernel
theorem dX11_house_28 : decode cX11_house 28 = .ok (.ldc 134, 2) := by decide +kernel
theorem dX11_house_30 : decode cX11_house 30 = .ok (.aload_n 0, 1) := by decide +kernel
theorem dX11_house_31 : decode cX11_house 31 = .ok (.getfield 18, 3) := by decide +kernel
theorem dX11_house_34 : decode cX11_house 34 = .ok (.getfield 135, 3) := by decide +kernel
theorem dX11_house_37 : decode cX11_house 37 = .ok (.isub, 1) := by decide +kernel
theorem dX11_house_38 : decode cX11_house 38 = .ok (.ireturn, 1) := by decide +kernel
theorem dX11_house_39 : decode cX11_house 39 = .ok (.aload_n 0, 1) := by decide +kernel
theorem dX11_house_40 : decode cX11_house 40 = .ok (.getfield 33, 3) := by decide +kernel
theorem dX11_house_43 : decode cX11_house 43 = .ok (.aload_n 0, 1) := by decide +kernel
theorem dX11_house_44 : decode cX11_house 44 = .ok (.getfield 18, 3) := by decide +kernel
theorem dX11_house_47 : decode cX11_house 47 = .ok (.getfield 138, 3) := by decide +kernel
theorem dX11_house_50 : decode cX11_house 50 = .ok (.invokevirtual 141, 3) := by decide +kernel
theorem dX11_house_53 : decode cX11_house 53 = .ok (.aload_n 0, 1) := by decide +kernel
theorem dX11_house_54 : decode cX11_house 54 = .ok (.invokevirtual 145, 3) := by decide +kernel
theorem dX11_house_57 : decode cX11_house 57 = .ok (.aload_n 0, 1) := by decide +kernel
theorem dX11_house_58 : decode cX11_house 58 = .ok (.getfield 38, 3) := by decide +kernel
theorem dX11_house_61 : decode cX11_house 61 = .ok (.invokevirtual 148, 3) := by decide +kernel
theorem dX11_house_64 : decode cX11_house 64 = .ok (.aload_n 0, 1) := by decide +kernel
theorem dX11_house_65 : decode cX11_house 65 = .ok (.getfield 33, 3) := by decide +kernel
theorem dX11_house_68 : decode cX11_house 68 = .ok (.getfield 151, 3) := by decide +kernel
theorem dX11_house_71 : decode cX11_house 71 = .ok (.ireturn, 1) := by decide +kernel
theorem dX11_fault_0 : decode cX11_fault 0 = .ok (.aload_n 0, 1) := by decide +kernel
theorem dX11_fault_1 : decode cX11_fault 1 = .ok (.getfield 131, 3) := by decide +kernel
theorem dX11_fault_4 : decode cX11_fault 4 = .ok (.ireturn, 1) := by decide +kernel
theorem dX11_undo_0 : decode cX11_undo 0 = .ok (.aload_n 0, 1) := by decide +kernel
theorem dX11_undo_1 : decode cX11_undo 1 = .ok (.getfield 154, 3) := by decide +kernel
theorem dX11_undo_4 : decode cX11_undo 4 = .ok (.ifCond .ne 6, 3) := by decide +kernel
theorem dX11_undo_7 : decode cX11_undo 7 = .ok (.ldc 157, 2) := by decide +kernel
theorem dX11_undo_9 : decode cX11_undo 9 = .ok (.ireturn, 1) := by decide +kernel
theorem dX11_undo_10 : decode cX11_undo 10 = .ok (.aload_n 0, 1) := by decide +kernel
theorem dX11_undo_11 : decode cX11_undo 11 = .ok (.dup, 1) := by decide +kernel
theorem dX11_undo_12 : decode cX11_undo 12 = .ok (.getfield 154, 3) := by decide +kernel
theorem dX11_undo_15 : decode cX11_undo 15 = .ok (.iconst 1, 1) := by decide +kernel
theorem dX11_undo_16 : decode cX11_undo 16 = .ok (.isub, 1) := by decide +kernel
theorem dX11_undo_17 : decode cX11_undo 17 = .ok (.putfield 154, 3) := by decide +kernel
theorem dX11_undo_20 : decode cX11_undo 20 = .ok (.aload_n 0, 1) := by decide +kernel
theorem dX11_undo_21 : decode cX11_undo 21 = .ok (.getfield 33, 3) := by decide +kernel
theorem dX11_undo_24 : decode cX11_undo 24 = .ok (.aload_n 0, 1) := by decide +kernel
theorem dX11_undo_25 : decode cX11_undo 25 = .ok (.getfield 47, 3) := by decide +kernel
theorem dX11_undo_28 : decode cX11_undo 28 = .ok (.aload_n 0, 1) := by decide +kernel
theorem dX11_undo_29 : decode cX11_undo 29 = .ok (.getfield 158, 3) := by decide +kernel
theorem dX11_undo_32 : decode cX11_undo 32 = .ok (.aload_n 0, 1) := by decide +kernel
theorem dX11_undo_33 : decode cX11_undo 33 = .ok (.getfield 154, 3) := by decide +kernel
theorem dX11_undo_36 : decode cX11_undo 36 = .ok (.iadd, 1) := by decide +kernel
theorem dX11_undo_37 : decode cX11_undo 37 = .ok (.bipush 24, 2) := by decide +kernel
theorem dX11_undo_39 : decode cX11_undo 39 = .ok (.irem, 1) := by decide +kernel
theorem dX11_undo_40 : decode cX11_undo 40 = .ok (.aaload, 1) := by decide +kernel
theorem dX11_undo_41 : decode cX11_undo 41 = .ok (.invokevirtual 141, 3) := by decide +kernel
theorem dX11_undo_44 : decode cX11_undo 44 = .ok (.aload_n 0, 1) := by decide +kernel
theorem dX11_undo_45 : decode cX11_undo 45 = .ok (.getfield 154, 3) := by decide +kernel
theorem dX11_undo_48 : decode cX11_undo 48 = .ok (.ireturn, 1) := by decide +kernel
theorem dX11_errand_0 : decode cX11_errand 0 = .ok (.aload_n 0, 1) := by decide +kernel
theorem dX11_errand_1 : decode cX11_errand 1 = .ok (.getfield 33, 3) := by decide +kernel
theorem dX11_errand_4 : decode cX11_errand 4 = .ok (.invokevirtual 161, 3) := by decide +kernel
theorem dX11_errand_7 : decode cX11_errand 7 = .ok (.ifCond .ne 6, 3) := by decide +kernel
theorem dX11_errand_10 : decode cX11_errand 10 = .ok (.ldc 157, 2) := by decide +kernel
theorem dX11_errand_12 : decode cX11_errand 12 = .ok (.ireturn, 1) := by decide +kernel
theorem dX11_errand_13 : decode cX11_errand 13 = .ok (.iload_n 1, 1) := by decide +kernel
theorem dX11_errand_14 : decode cX11_errand 14 = .ok (.iload_n 3, 1) := by decide +kernel
theorem dX11_errand_15 : decode cX11_errand 15 = .ok (.invokestatic 164, 3) := by decide +kernel
theorem dX11_errand_18 : decode cX11_errand 18 = .ok (.ifCond .eq 6, 3) := by decide +kernel
theorem dX11_errand_21 : decode cX11_errand 21 = .ok (.ldc 75, 2) := by decide +kernel
theorem dX11_errand_23 : decode cX11_errand 23 = .ok (.ireturn, 1) := by decide +kernel
theorem dX11_errand_24 : decode cX11_errand 24 = .ok (.aload_n 0, 1) := by decide +kernel
theorem dX11_errand_25 : decode cX11_errand 25 = .ok (.iload_n 1, 1) := by decide +kernel
theorem dX11_errand_26 : decode cX11_errand 26 = .ok (.iload_n 2, 1) := by decide +kernel
theorem dX11_errand_27 : decode cX11_errand 27 = .ok (.iload_n 3, 1) := by decide +kernel
theorem dX11_errand_28 : decode cX11_errand 28 = .ok (.invokevirtual 167, 3) := by decide +kernel
theorem dX11_errand_31 : decode cX11_errand 31 = .ok (.istore 4, 2) := by decide +kernel
theorem dX11_errand_33 : decode cX11_errand 33 = .ok (.iload 4, 2) := by decide +kernel
theorem dX11_errand_35 : decode cX11_errand 35 = .ok (.ifCond .eq 10, 3) := by decide +kernel
theorem dX11_errand_38 : decode cX11_errand 38 = .ok (.aload_n 0, 1) := by decide +kernel
theorem dX11_errand_39 : decode cX11_errand 39 = .ok (.iload 4, 2) := by decide +kernel
theorem dX11_errand_41 : decode cX11_errand 41 = .ok (.invokevirtual 76, 3) := by decide +kernel
theorem dX11_errand_44 : decode cX11_errand 44 = .ok (.ireturn, 1) := by decide +kernel
theorem dX11_errand_45 : decode cX11_errand 45 = .ok (.aload_n 0, 1) := by decide +kernel
theorem dX11_errand_46 : decode cX11_errand 46 = .ok (.invokevirtual 171, 3) := by decide +kernel
theorem dX11_errand_49 : decode cX11_errand 49 = .ok (.aload_n 0, 1) := by decide +kernel
theorem dX11_errand_50 : decode cX11_errand 50 = .ok (.getfield 25, 3) := by decide +kernel
theorem dX11_errand_53 : decode cX11_errand 53 = .ok (.aload_n 0, 1) := by decide +kernel
theorem dX11_errand_54 : decode cX11_errand 54 = .ok (.getfield 11, 3) := by decide +kernel
theorem dX11_errand_57 : decode cX11_errand 57 = .ok (.iload_n 1, 1) := by decide +kernel
theorem dX11_errand_58 : decode cX11_errand 58 = .ok (.aaload, 1) := by decide +kernel
theorem dX11_errand_59 : decode cX11_errand 59 = .ok (.getfield 103, 3) := by decide +kernel
theorem dX11_errand_62 : decode cX11_errand 62 = .ok (.iload_n 2, 1) := by decide +kernel
theorem dX11_errand_63 : decode cX11_errand 63 = .ok (.iload_n 3, 1) := by decide +kernel
theorem dX11_errand_64 : decode cX11_errand 64 = .ok (.invokevirtual 174, 3) := by decide +kernel
theorem dX11_errand_67 : decode cX11_errand 67 = .ok (.aload_n 0, 1) := by decide +kernel
theorem dX11_errand_68 : decode cX11_errand 68 = .ok (.getfield 25, 3) := by decide +kernel
theorem dX11_errand_71 : decode cX11_errand 71 = .ok (.getfield 178, 3) := by decide +kernel
theorem dX11_errand_74 : decode cX11_errand 74 = .ok (.ifCond .ne 17, 3) := by decide +kernel
theorem dX11_errand_77 : decode cX11_errand 77 = .ok (.aload_n 0, 1) := by decide +kernel
theorem dX11_errand_78 : decode cX11_errand 78 = .ok (.aload_n 0, 1) := by decide +kernel
theorem dX11_errand_79 : decode cX11_errand 79 = .ok (.getfield 25, 3) := by decide +kernel
theorem dX11_errand_82 : decode cX11_errand 82 = .ok (.getfield 181, 3) := by decide +kernel
theorem dX11_errand_85 : decode cX11_errand 85 = .ok (.invokevirtual 84, 3) := by decide +kernel
theorem dX11_errand_88 : decode cX11_errand 88 = .ok (.goto 14, 3) := by decide +kernel
theorem dX11_errand_91 : decode cX11_errand 91 = .ok (.aload_n 0, 1) := by decide +kernel
theorem dX11_errand_92 : decode cX11_errand 92 = .ok (.aload_n 0, 1) := by decide +kernel
theorem dX11_errand_93 : decode cX11_errand 93 = .ok (.getfield 25, 3) := by decide +kernel
theorem dX11_errand_96 : decode cX11_errand 96 = .ok (.getfield 178, 3) := by decide +kernel
theorem dX11_errand_99 : decode cX11_errand 99 = .ok (.invokevirtual 76, 3) := by decide +kernel
theorem dX11_errand_102 : decode cX11_errand 102 = .ok (.ireturn, 1) := by decide +kernel
theorem dX11_ledger_0 : decode cX11_ledger 0 = .ok (.aload_n 0, 1) := by decide +kernel
theorem dX11_ledger_1 : decode cX11_ledger 1 = .ok (.getfield 38, 3) := by decide +kernel
theorem dX11_ledger_4 : decode cX11_ledger 4 = .ok (.iload_n 1, 1) := by decide +kernel
theorem dX11_ledger_5 : decode cX11_ledger 5 = .ok (.invokevirtual 184, 3) := by decide +kernel
theorem dX11_ledger_8 : decode cX11_ledger 8 = .ok (.ireturn, 1) := by decide +kernel
theorem dX11_oil_0 : decode cX11_oil 0 = .ok (.aload_n 0, 1) := by decide +kernel
theorem dX11_oil_1 : decode cX11_oil 1 = .ok (.getfield 33, 3) := by decide +kernel
theorem dX11_oil_4 : decode cX11_oil 4 = .ok (.iload_n 1, 1) := by decide +kernel
theorem dX11_oil_5 : decode cX11_oil 5 = .ok (.invokevirtual 186, 3) := by decide +kernel
theorem dX11_oil_8 : decode cX11_oil 8 = .ok (.ifCond .eq 6, 3) := by decide +kernel
theorem dX11_oil_11 : decode cX11_oil 11 = .ok (.ldc 75, 2) := by decide +kernel
theorem dX11_oil_13 : decode cX11_oil 13 = .ok (.ireturn, 1) := by decide +kernel
theorem dX11_oil_14 : decode cX11_oil 14 = .ok (.aload_n 0, 1) := by decide +kernel
theorem dX11_oil_15 : decode cX11_oil 15 = .ok (.getfield 33, 3) := by decide +kernel
theorem dX11_oil_18 : decode cX11_oil 18 = .ok (.getfield 189, 3) := by decide +kernel
theorem dX11_oil_21 : decode cX11_oil 21 = .ok (.iload_n 1, 1) := by decide +kernel
theorem dX11_oil_22 : decode cX11_oil 22 = .ok (.iaload, 1) := by decide +kernel
theorem dX11_oil_23 : decode cX11_oil 23 = .ok (.istore_n 2, 1) := by decide +kernel
theorem dX11_oil_24 : decode cX11_oil 24 = .ok (.iload_n 2, 1) := by decide +kernel
theorem dX11_oil_25 : decode cX11_oil 25 = .ok (.ifCond .ne 6, 3) := by decide +kernel
theorem dX11_oil_28 : decode cX11_oil 28 = .ok (.ldc 157, 2) := by decide +kernel
theorem dX11_oil_30 : decode cX11_oil 30 = .ok (.ireturn, 1) := by decide +kernel
theorem dX11_oil_31 : decode cX11_oil 31 = .ok (.aload_n 0, 1) := by decide +kernel
theorem dX11_oil_32 : decode cX11_oil 32 = .ok (.invokevirtual 171, 3) := by decide +kernel
theorem dX11_oil_35 : decode cX11_oil 35 = .ok (.aload_n 0, 1) := by decide +kernel
theorem dX11_oil_36 : decode cX11_oil 36 = .ok (.getfield 33, 3) := by decide +kernel
theorem dX11_oil_39 : decode cX11_oil 39 = .ok (.getfield 189, 3) := by decide +kernel
theorem dX11_oil_42 : decode cX11_oil 42 = .ok (.iload_n 1, 1) := by decide +kernel
theorem dX11_oil_43 : decode cX11_oil 43 = .ok (.iconst 0, 1) := by decide +kernel
theorem dX11_oil_44 : decode cX11_oil 44 = .ok (.iastore, 1) := by decide +kernel
theorem dX11_oil_45 : decode cX11_oil 45 = .ok (.iload_n 2, 1) := by decide +kernel
theorem dX11_oil_46 : decode cX11_oil 46 = .ok (.ireturn, 1) := by decide +kernel
theorem dX11_bring_0 : decode cX11_bring 0 = .ok (.aload_n 0, 1) := by decide +kernel
theorem dX11_bring_1 : decode cX11_bring 1 = .ok (.getfield 33, 3) := by decide +kernel
theorem dX11_bring_4 : decode cX11_bring 4 = .ok (.iload_n 1, 1) := by decide +kernel
theorem dX11_bring_5 : decode cX11_bring 5 = .ok (.invokevirtual 192, 3) := by decide +kernel
theorem dX11_bring_8 : decode cX11_bring 8 = .ok (.ifCond .ne 14, 3) := by decide +kernel
theorem dX11_bring_11 : decode cX11_bring 11 = .ok (.iload_n 2, 1) := by decide +kernel
theorem dX11_bring_12 : decode cX11_bring 12 = .ok (.iconst 1, 1) := by decide +kernel
theorem dX11_bring_13 : decode cX11_bring 13 = .ok (.if_icmp .lt 9, 3) := by decide +kernel
theorem dX11_bring_16 : decode cX11_bring 16 = .ok (.iload_n 2, 1) := by decide +kernel
theorem dX11_bring_17 : decode cX11_bring 17 = .ok (.bipush 20, 2) := by decide +kernel
theorem dX11_bring_19 : decode cX11_bring 19 = .ok (.if_icmp .le 6, 3) := by decide +kernel
theorem dX11_bring_22 : decode cX11_bring 22 = .ok (.ldc 75, 2) := by decide +kernel
theorem dX11_bring_24 : decode cX11_bring 24 = .ok (.ireturn, 1) := by decide +kernel
theorem dX11_bring_25 : decode cX11_bring 25 = .ok (.aload_n 0, 1) := by decide +kernel
theorem dX11_bring_26 : decode cX11_bring 26 = .ok (.getfield 33, 3) := by decide +kernel
theorem dX11_bring_29 : decode cX11_bring 29 = .ok (.getfield 195, 3) := by decide +kernel
theorem dX11_bring_32 : decode cX11_bring 32 = .ok (.iload_n 1, 1) := by decide +kernel
theorem dX11_bring_33 : decode cX11_bring 33 = .ok (.iaload, 1) := by decide +kernel
theorem dX11_bring_34 : decode cX11_bring 34 = .ok (.ifCond .eq 6, 3) := by decide +kernel
theorem dX11_bring_37 : decode cX11_bring 37 = .ok (.ldc 157, 2) := by decide +kernel
theorem dX11_bring_39 : decode cX11_bring 39 = .ok (.ireturn, 1) := by decide +kernel
theorem dX11_bring_40 : decode cX11_bring 40 = .ok (.aload_n 0, 1) := by decide +kernel
theorem dX11_bring_41 : decode cX11_bring 41 = .ok (.invokevirtual 171, 3) := by decide +kernel
theorem dX11_bring_44 : decode cX11_bring 44 = .ok (.aload_n 0, 1) := by decide +kernel
theorem dX11_bring_45 : decode cX11_bring 45 = .ok (.getfield 33, 3) := by decide +kernel
theorem dX11_bring_48 : decode cX11_bring 48 = .ok (.getfield 195, 3) := by decide +kernel
theorem dX11_bring_51 : decode cX11_bring 51 = .ok (.iload_n 1, 1) := by decide +kernel
theorem dX11_bring_52 : decode cX11_bring 52 = .ok (.iload_n 2, 1) := by decide +kernel
theorem dX11_bring_53 : decode cX11_bring 53 = .ok (.iastore, 1) := by decide +kernel
theorem dX11_bring_54 : decode cX11_bring 54 = .ok (.aload_n 0, 1) := by decide +kernel
theorem dX11_bring_55 : decode cX11_bring 55 = .ok (.getfield 33, 3) := by decide +kernel
theorem dX11_bring_58 : decode cX11_bring 58 = .ok (.invokevirtual 197, 3) := by decide +kernel
theorem dX11_bring_61 : decode cX11_bring 61 = .ok (.ireturn, 1) := by decide +kernel
theorem dX11_rule_0 : decode cX11_rule 0 = .ok (.aload_n 0, 1) := by decide +kernel
theorem dX11_rule_1 : decode cX11_rule 1 = .ok (.getfield 33, 3) := by decide +kernel
theorem dX11_rule_4 : decode cX11_rule 4 = .ok (.invokevirtual 161, 3) := by decide +kernel
theorem dX11_rule_7 : decode cX11_rule 7 = .ok (.ifCond .ne 6, 3) := by decide +kernel
theorem dX11_rule_10 : decode cX11_rule 10 = .ok (.ldc 157, 2) := by decide +kernel
theorem dX11_rule_12 : decode cX11_rule 12 = .ok (.ireturn, 1) := by decide +kernel
theorem dX11_rule_13 : decode cX11_rule 13 = .ok (.iload_n 1, 1) := by decide +kernel
theorem dX11_rule_14 : decode cX11_rule 14 = .ok (.iload_n 2, 1) := by decide +kernel
theorem dX11_rule_15 : decode cX11_rule 15 = .ok (.invokestatic 201, 3) := by decide +kernel
theorem dX11_rule_18 : decode cX11_rule 18 = .ok (.ifCond .ne 6, 3) := by decide +kernel
theorem dX11_rule_21 : decode cX11_rule 21 = .ok (.ldc 75, 2) := by decide +kernel
theorem dX11_rule_23 : decode cX11_rule 23 = .ok (.ireturn, 1) := by decide +kernel
theorem dX11_rule_24 : decode cX11_rule 24 = .ok (.aload_n 0, 1) := by decide +kernel
theorem dX11_rule_25 : decode cX11_rule 25 = .ok (.invokevirtual 171, 3) := by decide +kernel
theorem dX11_rule_28 : decode cX11_rule 28 = .ok (.iload_n 1, 1) := by decide +kernel
theorem dX11_rule_29 : decode cX11_rule 29 = .ok (.ifCond .ne 22, 3) := by decide +kernel
theorem dX11_rule_32 : decode cX11_rule 32 = .ok (.aload_n 0, 1) := by decide +kernel
theorem dX11_rule_33 : decode cX11_rule 33 = .ok (.getfield 33, 3) := by decide +kernel
theorem dX11_rule_36 : decode cX11_rule 36 = .ok (.getfield 204, 3) := by decide +kernel
theorem dX11_rule_39 : decode cX11_rule 39 = .ok (.istore_n 3, 1) := by decide +kernel
theorem dX11_rule_40 : decode cX11_rule 40 = .ok (.aload_n 0, 1) := by decide +kernel
theorem dX11_rule_41 : decode cX11_rule 41 = .ok (.getfield 33, 3) := by decide +kernel
theorem dX11_rule_44 : decode cX11_rule 44 = .ok (.iload_n 2, 1) := by decide +kernel
theorem dX11_rule_45 : decode cX11_rule 45 = .ok (.putfield 204, 3) := by decide +kernel
theorem dX11_rule_48 : decode cX11_rule 48 = .ok (.goto 43, 3) := by decide +kernel
theorem dX11_rule_51 : decode cX11_rule 51 = .ok (.iload_n 1, 1) := by decide +kernel
theorem dX11_rule_52 : decode cX11_rule 52 = .ok (.iconst 1, 1) := by decide +kernel
theorem dX11_rule_53 : decode cX11_rule 53 = .ok (.if_icmp .ne 22, 3) := by decide +kernel
theorem dX11_rule_56 : decode cX11_rule 56 = .ok (.aload_n 0, 1) := by decide +kernel
theorem dX11_rule_57 : decode cX11_rule 57 = .ok (.getfield 33, 3) := by decide +kernel
theorem dX11_rule_60 : decode cX11_rule 60 = .ok (.getfield 207, 3) := by decide +kernel
theorem dX11_rule_63 : decode cX11_rule 63 = .ok (.istore_n 3, 1) := by decide +kernel
theorem dX11_rule_64 : decode cX11_rule 64 = .ok (.aload_n 0, 1) := by decide +kernel
theorem dX11_rule_65 : decode cX11_rule 65 = .ok (.getfield 33, 3) := by decide +kernel
theorem dX11_rule_68 : decode cX11_rule 68 = .ok (.iload_n 2, 1) := by decide +kernel
theorem dX11_rule_69 : decode cX11_rule 69 = .ok (.putfield 207, 3) := by decide +kernel
theorem dX11_rule_72 : decode cX11_rule 72 = .ok (.goto 19, 3) := by decide +kernel
theorem dX11_rule_75 : decode cX11_rule 75 = .ok (.aload_n 0, 1) := by decide +kernel
theorem dX11_rule_76 : decode cX11_rule 76 = .ok (.getfield 33, 3) := by decide +kernel
theorem dX11_rule_79 : decode cX11_rule 79 = .ok (.getfield 210, 3) := by decide +kernel
theorem dX11_rule_82 : decode cX11_rule 82 = .ok (.istore_n 3, 1) := by decide +kernel
theorem dX11_rule_83 : decode cX11_rule 83 = .ok (.aload_n 0, 1) := by decide +kernel
theorem dX11_rule_84 : decode cX11_rule 84 = .ok (.getfield 33, 3) := by decide +kernel
theorem dX11_rule_87 : decode cX11_rule 87 = .ok (.iload_n 2, 1) := by decide +kernel
theorem dX11_rule_88 : decode cX11_rule 88 = .ok (.putfield 210, 3) := by decide +kernel
theorem dX11_rule_91 : decode cX11_rule 91 = .ok (.iload_n 3, 1) := by decide +kernel
theorem dX11_rule_92 : decode cX11_rule 92 = .ok (.ireturn, 1) := by decide +kernel
theorem dX11_door_0 : decode cX11_door 0 = .ok (.aload_n 0, 1) := by decide +kernel
theorem dX11_door_1 : decode cX11_door 1 = .ok (.getfield 33, 3) := by decide +kernel
theorem dX11_door_4 : decode cX11_door 4 = .ok (.iload_n 1, 1) := by decide +kernel
theorem dX11_door_5 : decode cX11_door 5 = .ok (.invokevirtual 213, 3) := by decide +kernel
theorem dX11_door_8 : decode cX11_door 8 = .ok (.astore_n 3, 1) := by decide +kernel
theorem dX11_door_9 : decode cX11_door 9 = .ok (.aload_n 3, 1) := by decide +kernel
theorem dX11_door_10 : decode cX11_door 10 = .ok (.ifnull 14, 3) := by decide +kernel
theorem dX11_door_13 : decode cX11_door 13 = .ok (.aload_n 0, 1) := by decide +kernel
theorem dX11_door_14 : decode cX11_door 14 = .ok (.getfield 33, 3) := by decide +kernel
theorem dX11_door_17 : decode cX11_door 17 = .ok (.iload_n 1, 1) := by decide +kernel
theorem dX11_door_18 : decode cX11_door 18 = .ok (.invokevirtual 186, 3) := by decide +kernel
theorem dX11_door_21 : decode cX11_door 21 = .ok (.ifCond .eq 6, 3) := by decide +kernel
theorem dX11_door_24 : decode cX11_door 24 = .ok (.ldc 75, 2) := by decide +kernel
theorem dX11_door_26 : decode cX11_door 26 = .ok (.ireturn, 1) := by decide +kernel
theorem dX11_door_27 : decode cX11_door 27 = .ok (.iload_n 2, 1) := by decide +kernel
theorem dX11_door_28 : decode cX11_door 28 = .ok (.tableswitch 84 0 5 #[40, 45, 50, 55, 65, 79], 40) := by decide +kernel
theorem dX11_door_68 : decode cX11_door 68 = .ok (.aload_n 3, 1) := by decide +kernel
theorem dX11_door_69 : decode cX11_door 69 = .ok (.getfield 217, 3) := by decide +kernel
theorem dX11_door_72 : decode cX11_door 72 = .ok (.ireturn, 1) := by decide +kernel
theorem dX11_door_73 : decode cX11_door 73 = .ok (.aload_n 3, 1) := by decide +kernel
theorem dX11_door_74 : decode cX11_door 74 = .ok (.getfield 222, 3) := by decide +kernel
theorem dX11_door_77 : decode cX11_door 77 = .ok (.ireturn, 1) := by decide +kernel
theorem dX11_door_78 : decode cX11_door 78 = .ok (.aload_n 3, 1) := by decide +kernel
theorem dX11_door_79 : decode cX11_door 79 = .ok (.getfield 225, 3) := by decide +kernel
theorem dX11_door_82 : decode cX11_door 82 = .ok (.ireturn, 1) := by decide +kernel
theorem dX11_door_83 : decode cX11_door 83 = .ok (.aload_n 0, 1) := by decide +kernel
theorem dX11_door_84 : decode cX11_door 84 = .ok (.getfield 33, 3) := by decide +kernel
theorem dX11_door_87 : decode cX11_door 87 = .ok (.getfield 189, 3) := by decide +kernel
theorem dX11_door_90 : decode cX11_door 90 = .ok (.iload_n 1, 1) := by decide +kernel
theorem dX11_door_91 : decode cX11_door 91 = .ok (.iaload, 1) := by decide +kernel
theorem dX11_door_92 : decode cX11_door 92 = .ok (.ireturn, 1) := by decide +kernel
theorem dX11_door_93 : decode cX11_door 93 = .ok (.aload_n 3, 1) := by decide +kernel
theorem dX11_door_94 : decode cX11_door 94 = .ok (.aload_n 0, 1) := by decide +kernel
theorem dX11_door_95 : decode cX11_door 95 = .ok (.getfield 33, 3) := by decide +kernel
theorem dX11_door_98 : decode cX11_door 98 = .ok (.getfield 189, 3) := by decide +kernel
theorem dX11_door_101 : decode cX11_door 101 = .ok (.iload_n 1, 1) := by decide +kernel
theorem dX11_door_102 : decode cX11_door 102 = .ok (.iaload, 1) := by decide +kernel
theorem dX11_door_103 : decode cX11_door 103 = .ok (.invokevirtual 228, 3) := by decide +kernel
theorem dX11_door_106 : decode cX11_door 106 = .ok (.ireturn, 1) := by decide +kernel
theorem dX11_door_107 : decode cX11_door 107 = .ok (.aload_n 3, 1) := by decide +kernel
theorem dX11_door_108 : decode cX11_door 108 = .ok (.invokevirtual 231, 3) := by decide +kernel
theorem dX11_door_111 : decode cX11_door 111 = .ok (.ireturn, 1) := by decide +kernel
theorem dX11_door_112 : decode cX11_door 112 = .ok (.ldc 75, 2) := by decide +kernel
theorem dX11_door_114 : decode cX11_door 114 = .ok (.ireturn, 1) := by decide +kernel
theorem dX11_room_0 : decode cX11_room 0 = .ok (.aload_n 0, 1) := by decide +kernel
theorem dX11_room_1 : decode cX11_room 1 = .ok (.getfield 33, 3) := by decide +kernel
theorem dX11_room_4 : decode cX11_room 4 = .ok (.iload_n 1, 1) := by decide +kernel
theorem dX11_room_5 : decode cX11_room 5 = .ok (.invokevirtual 192, 3) := by decide +kernel
theorem dX11_room_8 : decode cX11_room 8 = .ok (.ifCond .eq 6, 3) := by decide +kernel
theorem dX11_room_11 : decode cX11_room 11 = .ok (.ldc 75, 2) := by decide +kernel
theorem dX11_room_13 : decode cX11_room 13 = .ok (.ireturn, 1) := by decide +kernel
theorem dX11_room_14 : decode cX11_room 14 = .ok (.iload_n 2, 1) := by decide +kernel
theorem dX11_room_15 : decode cX11_room 15 = .ok (.lookupswitch 44 #[(0, 25), (1, 35)], 25) := by decide +kernel
theorem dX11_room_40 : decode cX11_room 40 = .ok (.aload_n 0, 1) := by decide +kernel
theorem dX11_room_41 : decode cX11_room 41 = .ok (.getfield 33, 3) := by decide +kernel
theorem dX11_room_44 : decode cX11_room 44 = .ok (.getfield 195, 3) := by decide +kernel
theorem dX11_room_47 : decode cX11_room 47 = .ok (.iload_n 1, 1) := by decide +kernel
theorem dX11_room_48 : decode cX11_room 48 = .ok (.iaload, 1) := by decide +kernel
theorem dX11_room_49 : decode cX11_room 49 = .ok (.ireturn, 1) := by decide +kernel
theorem dX11_room_50 : decode cX11_room 50 = .ok (.aload_n 0, 1) := by decide +kernel
theorem dX11_room_51 : decode cX11_room 51 = .ok (.getfield 33, 3) := by decide +kernel
theorem dX11_room_54 : decode cX11_room 54 = .ok (.iload_n 1, 1) := by decide +kernel
theorem dX11_room_55 : decode cX11_room 55 = .ok (.invokevirtual 234, 3) := by decide +kernel
theorem dX11_room_58 : decode cX11_room 58 = .ok (.ireturn, 1) := by decide +kernel
theorem dX11_room_59 : decode cX11_room 59 = .ok (.ldc 75, 2) := by decide +kernel
theorem dX11_room_61 : decode cX11_room 61 = .ok (.ireturn, 1) := by decide +kernel
theorem dX11_would_0 : decode cX11_would 0 = .ok (.aload_n 0, 1) := by decide +kernel
theorem dX11_would_1 : decode cX11_would 1 = .ok (.getfield 33, 3) := by decide +kernel
theorem dX11_would_4 : decode cX11_would 4 = .ok (.invokevirtual 161, 3) := by decide +kernel
theorem dX11_would_7 : decode cX11_would 7 = .ok (.ifCond .ne 6, 3) := by decide +kernel
theorem dX11_would_10 : decode cX11_would 10 = .ok (.ldc 157, 2) := by decide +kernel
theorem dX11_would_12 : decode cX11_would 12 = .ok (.ireturn, 1) := by decide +kernel
theorem dX11_would_13 : decode cX11_would 13 = .ok (.iload_n 1, 1) := by decide +kernel
theorem dX11_would_14 : decode cX11_would 14 = .ok (.iload_n 3, 1) := by decide +kernel
theorem dX11_would_15 : decode cX11_would 15 = .ok (.invokestatic 164, 3) := by decide +kernel
theorem dX11_would_18 : decode cX11_would 18 = .ok (.ifCond .ne 14, 3) := by decide +kernel
theorem dX11_would_21 : decode cX11_would 21 = .ok (.iload 4, 2) := by decide +kernel
theorem dX11_would_23 : decode cX11_would 23 = .ok (.ifCond .lt 9, 3) := by decide +kernel
theorem dX11_would_26 : decode cX11_would 26 = .ok (.iload 4, 2) := by decide +kernel
theorem dX11_would_28 : decode cX11_would 28 = .ok (.iconst 4, 1) := by decide +kernel
theorem dX11_would_29 : decode cX11_would 29 = .ok (.if_icmp .le 6, 3) := by decide +kernel
theorem dX11_would_32 : decode cX11_would 32 = .ok (.ldc 75, 2) := by decide +kernel
theorem dX11_would_34 : decode cX11_would 34 = .ok (.ireturn, 1) := by decide +kernel
theorem dX11_would_35 : decode cX11_would 35 = .ok (.aload_n 0, 1) := by decide +kernel
theorem dX11_would_36 : decode cX11_would 36 = .ok (.iload_n 1, 1) := by decide +kernel
theorem dX11_would_37 : decode cX11_would 37 = .ok (.iload_n 2, 1) := by decide +kernel
theorem dX11_would_38 : decode cX11_would 38 = .ok (.iload_n 3, 1) := by decide +kernel
theorem dX11_would_39 : decode cX11_would 39 = .ok (.invokevirtual 167, 3) := by decide +kernel
theorem dX11_would_42 : decode cX11_would 42 = .ok (.istore 5, 2) := by decide +kernel
theorem dX11_would_44 : decode cX11_would 44 = .ok (.iload 5, 2) := by decide +kernel
theorem dX11_would_46 : decode cX11_would 46 = .ok (.ifCond .eq 10, 3) := by decide +kernel
theorem dX11_would_49 : decode cX11_would 49 = .ok (.aload_n 0, 1) := by decide +kernel
theorem dX11_would_50 : decode cX11_would 50 = .ok (.iload 5, 2) := by decide +kernel
theorem dX11_would_52 : decode cX11_would 52 = .ok (.invokevirtual 76, 3) := by decide +kernel
theorem dX11_would_55 : decode cX11_would 55 = .ok (.ireturn, 1) := by decide +kernel
theorem dX11_would_56 : decode cX11_would 56 = .ok (.aload_n 0, 1) := by decide +kernel
theorem dX11_would_57 : decode cX11_would 57 = .ok (.aload_n 0, 1) := by decide +kernel
theorem dX11_would_58 : decode cX11_would 58 = .ok (.getfield 11, 3) := by decide +kernel
theorem dX11_would_61 : decode cX11_would 61 = .ok (.iload_n 1, 1) := by decide +kernel
theorem dX11_would_62 : decode cX11_would 62 = .ok (.aaload, 1) := by decide +kernel
theorem dX11_would_63 : decode cX11_would 63 = .ok (.getfield 103, 3) := by decide +kernel
theorem dX11_would_66 : decode cX11_would 66 = .ok (.iload_n 2, 1) := by decide +kernel
theorem dX11_would_67 : decode cX11_would 67 = .ok (.iload_n 3, 1) := by decide +kernel
theorem dX11_would_68 : decode cX11_would 68 = .ok (.invokevirtual 237, 3) := by decide +kernel
theorem dX11_would_71 : decode cX11_would 71 = .ok (.iload 4, 2) := by decide +kernel
theorem dX11_would_73 : decode cX11_would 73 = .ok (.tableswitch 79 0 3 #[31, 43, 55, 67], 31) := by decide +kernel
theorem dX11_would_104 : decode cX11_would 104 = .ok (.aload_n 0, 1) := by decide +kernel
theorem dX11_would_105 : decode cX11_would 105 = .ok (.aload_n 0, 1) := by decide +kernel
theorem dX11_would_106 : decode cX11_would 106 = .ok (.getfield 39, 3) := by decide +kernel
theorem dX11_would_109 : decode cX11_would 109 = .ok (.invokevirtual 240, 3) := by decide +kernel
theorem dX11_would_112 : decode cX11_would 112 = .ok (.invokevirtual 84, 3) := by decide +kernel
theorem dX11_would_115 : decode cX11_would 115 = .ok (.ireturn, 1) := by decide +kernel
theorem dX11_would_116 : decode cX11_would 116 = .ok (.aload_n 0, 1) := by decide +kernel
theorem dX11_would_117 : decode cX11_would 117 = .ok (.aload_n 0, 1) := by decide +kernel
theorem dX11_would_118 : decode cX11_would 118 = .ok (.getfield 39, 3) := by decide +kernel
theorem dX11_would_121 : decode cX11_would 121 = .ok (.getfield 243, 3) := by decide +kernel
theorem dX11_would_124 : decode cX11_would 124 = .ok (.invokevirtual 84, 3) := by decide +kernel
theorem dX11_would_127 : decode cX11_would 127 = .ok (.ireturn, 1) := by decide +kernel
theorem dX11_would_128 : decode cX11_would 128 = .ok (.aload_n 0, 1) := by decide +kernel
theorem dX11_would_129 : decode cX11_would 129 = .ok (.aload_n 0, 1) := by decide +kernel
theorem dX11_would_130 : decode cX11_would 130 = .ok (.getfield 39, 3) := by decide +kernel
theorem dX11_would_133 : decode cX11_would 133 = .ok (.getfield 246, 3) := by decide +kernel
theorem dX11_would_136 : decode cX11_would 136 = .ok (.invokevirtual 84, 3) := by decide +kernel
theorem dX11_would_139 : decode cX11_would 139 = .ok (.ireturn, 1) := by decide +kernel
theorem dX11_would_140 : decode cX11_would 140 = .ok (.aload_n 0, 1) := by decide +kernel
theorem dX11_would_141 : decode cX11_would 141 = .ok (.aload_n 0, 1) := by decide +kernel
theorem dX11_would_142 : decode cX11_would 142 = .ok (.getfield 39, 3) := by decide +kernel
theorem dX11_would_145 : decode cX11_would 145 = .ok (.getfield 249, 3) := by decide +kernel
theorem dX11_would_148 : decode cX11_would 148 = .ok (.invokevirtual 84, 3) := by decide +kernel
theorem dX11_would_151 : decode cX11_would 151 = .ok (.ireturn, 1) := by decide +kernel
theorem dX11_would_152 : decode cX11_would 152 = .ok (.aload_n 0, 1) := by decide +kernel
theorem dX11_would_153 : decode cX11_would 153 = .ok (.aload_n 0, 1) := by decide +kernel
theorem dX11_would_154 : decode cX11_would 154 = .ok (.getfield 39, 3) := by decide +kernel
theorem dX11_would_157 : decode cX11_would 157 = .ok (.getfield 252, 3) := by decide +kernel
theorem dX11_would_160 : decode cX11_would 160 = .ok (.invokevirtual 84, 3) := by decide +kernel
theorem dX11_would_163 : decode cX11_would 163 = .ok (.ireturn, 1) := by decide +kernel
theorem dX11_way_0 : decode cX11_way 0 = .ok (.aload_n 0, 1) := by decide +kernel
theorem dX11_way_1 : decode cX11_way 1 = .ok (.getfield 33, 3) := by decide +kernel
theorem dX11_way_4 : decode cX11_way 4 = .ok (.iload_n 1, 1) := by decide +kernel
theorem dX11_way_5 : decode cX11_way 5 = .ok (.invokevirtual 192, 3) := by decide +kernel
theorem dX11_way_8 : decode cX11_way 8 = .ok (.ifCond .ne 8, 3) := by decide +kernel
theorem dX11_way_11 : decode cX11_way 11 = .ok (.iload_n 2, 1) := by decide +kernel
theorem dX11_way_12 : decode cX11_way 12 = .ok (.iconst (-1), 1) := by decide +kernel
theorem dX11_way_13 : decode cX11_way 13 = .ok (.if_icmp .ge 6, 3) := by decide +kernel
theorem dX11_way_16 : decode cX11_way 16 = .ok (.ldc 75, 2) := by decide +kernel
theorem dX11_way_18 : decode cX11_way 18 = .ok (.ireturn, 1) := by decide +kernel
theorem dX11_way_19 : decode cX11_way 19 = .ok (.iconst 0, 1) := by decide +kernel
theorem dX11_way_20 : decode cX11_way 20 = .ok (.istore_n 3, 1) := by decide +kernel
theorem dX11_way_21 : decode cX11_way 21 = .ok (.iload_n 3, 1) := by decide +kernel
theorem dX11_way_22 : decode cX11_way 22 = .ok (.iconst 3, 1) := by decide +kernel
theorem dX11_way_23 : decode cX11_way 23 = .ok (.if_icmp .gt 54, 3) := by decide +kernel
theorem dX11_way_26 : decode cX11_way 26 = .ok (.aload_n 0, 1) := by decide +kernel
theorem dX11_way_27 : decode cX11_way 27 = .ok (.iconst 0, 1) := by decide +kernel
theorem dX11_way_28 : decode cX11_way 28 = .ok (.iload_n 1, 1) := by decide +kernel
theorem dX11_way_29 : decode cX11_way 29 = .ok (.iconst 0, 1) := by decide +kernel
theorem dX11_way_30 : decode cX11_way 30 = .ok (.iload_n 3, 1) := by decide +kernel
theorem dX11_way_31 : decode cX11_way 31 = .ok (.invokevirtual 255, 3) := by decide +kernel
theorem dX11_way_34 : decode cX11_way 34 = .ok (.ifCond .eq 37, 3) := by decide +kernel
theorem dX11_way_37 : decode cX11_way 37 = .ok (.iload_n 2, 1) := by decide +kernel
theorem dX11_way_38 : decode cX11_way 38 = .ok (.iconst (-1), 1) := by decide +kernel
theorem dX11_way_39 : decode cX11_way 39 = .ok (.if_icmp .ne 5, 3) := by decide +kernel
theorem dX11_way_42 : decode cX11_way 42 = .ok (.iload_n 3, 1) := by decide +kernel
theorem dX11_way_43 : decode cX11_way 43 = .ok (.ireturn, 1) := by decide +kernel
theorem dX11_way_44 : decode cX11_way 44 = .ok (.iload_n 2, 1) := by decide +kernel
theorem dX11_way_45 : decode cX11_way 45 = .ok (.iload_n 3, 1) := by decide +kernel
theorem dX11_way_46 : decode cX11_way 46 = .ok (.if_icmp .ge 21, 3) := by decide +kernel
theorem dX11_way_49 : decode cX11_way 49 = .ok (.iload_n 2, 1) := by decide +kernel
theorem dX11_way_50 : decode cX11_way 50 = .ok (.aload_n 0, 1) := by decide +kernel
theorem dX11_way_51 : decode cX11_way 51 = .ok (.getfield 65, 3) := by decide +kernel
theorem dX11_way_54 : decode cX11_way 54 = .ok (.arraylength, 1) := by decide +kernel
theorem dX11_way_55 : decode cX11_way 55 = .ok (.if_icmp .ge 12, 3) := by decide +kernel
theorem dX11_way_58 : decode cX11_way 58 = .ok (.aload_n 0, 1) := by decide +kernel
theorem dX11_way_59 : decode cX11_way 59 = .ok (.getfield 65, 3) := by decide +kernel
theorem dX11_way_62 : decode cX11_way 62 = .ok (.iload_n 2, 1) := by decide +kernel
theorem dX11_way_63 : decode cX11_way 63 = .ok (.iaload, 1) := by decide +kernel
theorem dX11_way_64 : decode cX11_way 64 = .ok (.goto 6, 3) := by decide +kernel
theorem dX11_way_67 : decode cX11_way 67 = .ok (.ldc_w 259, 3) := by decide +kernel
theorem dX11_way_70 : decode cX11_way 70 = .ok (.ireturn, 1) := by decide +kernel
theorem dX11_way_71 : decode cX11_way 71 = .ok (.iinc 3 1, 3) := by decide +kernel
theorem dX11_way_74 : decode cX11_way 74 = .ok (.goto (-53), 3) := by decide +kernel
theorem dX11_way_77 : decode cX11_way 77 = .ok (.ldc_w 259, 3) := by decide +kernel
theorem dX11_way_80 : decode cX11_way 80 = .ok (.ireturn, 1) := by decide +kernel
theorem dX11_needs_0 : decode cX11_needs 0 = .ok (.aload_n 0, 1) := by decide +kernel
theorem dX11_needs_1 : decode cX11_needs 1 = .ok (.getfield 33, 3) := by decide +kernel
theorem dX11_needs_4 : decode cX11_needs 4 = .ok (.invokevirtual 161, 3) := by decide +kernel
theorem dX11_needs_7 : decode cX11_needs 7 = .ok (.ifCond .ne 6, 3) := by decide +kernel
theorem dX11_needs_10 : decode cX11_needs 10 = .ok (.ldc 157, 2) := by decide +kernel
theorem dX11_needs_12 : decode cX11_needs 12 = .ok (.ireturn, 1) := by decide +kernel
theorem dX11_needs_13 : decode cX11_needs 13 = .ok (.iload_n 1, 1) := by decide +kernel
theorem dX11_needs_14 : decode cX11_needs 14 = .ok (.iload_n 3, 1) := by decide +kernel
theorem dX11_needs_15 : decode cX11_needs 15 = .ok (.invokestatic 164, 3) := by decide +kernel
theorem dX11_needs_18 : decode cX11_needs 18 = .ok (.ifCond .ne 14, 3) := by decide +kernel
theorem dX11_needs_21 : decode cX11_needs 21 = .ok (.iload 4, 2) := by decide +kernel
theorem dX11_needs_23 : decode cX11_needs 23 = .ok (.ifCond .lt 9, 3) := by decide +kernel
theorem dX11_needs_26 : decode cX11_needs 26 = .ok (.iload 4, 2) := by decide +kernel
theorem dX11_needs_28 : decode cX11_needs 28 = .ok (.iconst 2, 1) := by decide +kernel
theorem dX11_needs_29 : decode cX11_needs 29 = .ok (.if_icmp .le 6, 3) := by decide +kernel
theorem dX11_needs_32 : decode cX11_needs 32 = .ok (.ldc 75, 2) := by decide +kernel
theorem dX11_needs_34 : decode cX11_needs 34 = .ok (.ireturn, 1) := by decide +kernel
theorem dX11_needs_35 : decode cX11_needs 35 = .ok (.aload_n 0, 1) := by decide +kernel
theorem dX11_needs_36 : decode cX11_needs 36 = .ok (.iload_n 1, 1) := by decide +kernel
theorem dX11_needs_37 : decode cX11_needs 37 = .ok (.iload_n 2, 1) := by decide +kernel
theorem dX11_needs_38 : decode cX11_needs 38 = .ok (.iload_n 3, 1) := by decide +kernel
theorem dX11_needs_39 : decode cX11_needs 39 = .ok (.invokevirtual 167, 3) := by decide +kernel
theorem dX11_needs_42 : decode cX11_needs 42 = .ok (.istore 5, 2) := by decide +kernel
theorem dX11_needs_44 : decode cX11_needs 44 = .ok (.iload 5, 2) := by decide +kernel
theorem dX11_needs_46 : decode cX11_needs 46 = .ok (.ifCond .eq 10, 3) := by decide +kernel
theorem dX11_needs_49 : decode cX11_needs 49 = .ok (.aload_n 0, 1) := by decide +kernel
theorem dX11_needs_50 : decode cX11_needs 50 = .ok (.iload 5, 2) := by decide +kernel
theorem dX11_needs_52 : decode cX11_needs 52 = .ok (.invokevirtual 76, 3) := by decide +kernel
theorem dX11_needs_55 : decode cX11_needs 55 = .ok (.ireturn, 1) := by decide +kernel
theorem dX11_needs_56 : decode cX11_needs 56 = .ok (.aload_n 0, 1) := by decide +kernel
theorem dX11_needs_57 : decode cX11_needs 57 = .ok (.getfield 42, 3) := by decide +kernel
theorem dX11_needs_60 : decode cX11_needs 60 = .ok (.aload_n 0, 1) := by decide +kernel
theorem dX11_needs_61 : decode cX11_needs 61 = .ok (.getfield 33, 3) := by decide +kernel
theorem dX11_needs_64 : decode cX11_needs 64 = .ok (.invokevirtual 141, 3) := by decide +kernel
theorem dX11_needs_67 : decode cX11_needs 67 = .ok (.iload 4, 2) := by decide +kernel
theorem dX11_needs_69 : decode cX11_needs 69 = .ok (.iconst 2, 1) := by decide +kernel
theorem dX11_needs_70 : decode cX11_needs 70 = .ok (.if_icmp .ne 15, 3) := by decide +kernel
theorem dX11_needs_73 : decode cX11_needs 73 = .ok (.aload_n 0, 1) := by decide +kernel
theorem dX11_needs_74 : decode cX11_needs 74 = .ok (.getfield 42, 3) := by decide +kernel
theorem dX11_needs_77 : decode cX11_needs 77 = .ok (.bipush 60, 2) := by decide +kernel
theorem dX11_needs_79 : decode cX11_needs 79 = .ok (.putfield 210, 3) := by decide +kernel
theorem dX11_needs_82 : decode cX11_needs 82 = .ok (.goto 12, 3) := by decide +kernel
theorem dX11_needs_85 : decode cX11_needs 85 = .ok (.aload_n 0, 1) := by decide +kernel
theorem dX11_needs_86 : decode cX11_needs 86 = .ok (.getfield 42, 3) := by decide +kernel
theorem dX11_needs_89 : decode cX11_needs 89 = .ok (.bipush 63, 2) := by decide +kernel
theorem dX11_needs_91 : decode cX11_needs 91 = .ok (.putfield 204, 3) := by decide +kernel
theorem dX11_needs_94 : decode cX11_needs 94 = .ok (.aload_n 0, 1) := by decide +kernel
theorem dX11_needs_95 : decode cX11_needs 95 = .ok (.getfield 39, 3) := by decide +kernel
theorem dX11_needs_98 : decode cX11_needs 98 = .ok (.aload_n 0, 1) := by decide +kernel
theorem dX11_needs_99 : decode cX11_needs 99 = .ok (.getfield 11, 3) := by decide +kernel
theorem dX11_needs_102 : decode cX11_needs 102 = .ok (.iload_n 1, 1) := by decide +kernel
theorem dX11_needs_103 : decode cX11_needs 103 = .ok (.aaload, 1) := by decide +kernel
theorem dX11_needs_104 : decode cX11_needs 104 = .ok (.getfield 103, 3) := by decide +kernel
theorem dX11_needs_107 : decode cX11_needs 107 = .ok (.iload_n 2, 1) := by decide +kernel
theorem dX11_needs_108 : decode cX11_needs 108 = .ok (.iload_n 3, 1) := by decide +kernel
theorem dX11_needs_109 : decode cX11_needs 109 = .ok (.invokevirtual 174, 3) := by decide +kernel
theorem dX11_needs_112 : decode cX11_needs 112 = .ok (.aload_n 0, 1) := by decide +kernel
theorem dX11_needs_113 : decode cX11_needs 113 = .ok (.getfield 39, 3) := by decide +kernel
theorem dX11_needs_116 : decode cX11_needs 116 = .ok (.getfield 178, 3) := by decide +kernel
theorem dX11_needs_119 : decode cX11_needs 119 = .ok (.ifCond .eq 11, 3) := by decide +kernel
theorem dX11_needs_122 : decode cX11_needs 122 = .ok (.aload_n 0, 1) := by decide +kernel
theorem dX11_needs_123 : decode cX11_needs 123 = .ok (.ldc_w 259, 3) := by decide +kernel
theorem dX11_needs_126 : decode cX11_needs 126 = .ok (.invokevirtual 84, 3) := by decide +kernel
theorem dX11_needs_129 : decode cX11_needs 129 = .ok (.ireturn, 1) := by decide +kernel
theorem dX11_needs_130 : decode cX11_needs 130 = .ok (.iload 4, 2) := by decide +kernel
theorem dX11_needs_132 : decode cX11_needs 132 = .ok (.iconst 2, 1) := by decide +kernel
theorem dX11_needs_133 : decode cX11_needs 133 = .ok (.if_icmp .ne 19, 3) := by decide +kernel
theorem dX11_needs_136 : decode cX11_needs 136 = .ok (.aload_n 0, 1) := by decide +kernel
theorem dX11_needs_137 : decode cX11_needs 137 = .ok (.iconst 1, 1) := by decide +kernel
theorem dX11_needs_138 : decode cX11_needs 138 = .ok (.aload_n 0, 1) := by decide +kernel
theorem dX11_needs_139 : decode cX11_needs 139 = .ok (.getfield 39, 3) := by decide +kernel
theorem dX11_needs_142 : decode cX11_needs 142 = .ok (.getfield 243, 3) := by decide +kernel
theorem dX11_needs_145 : decode cX11_needs 145 = .ok (.invokestatic 260, 3) := by decide +kernel
theorem dX11_needs_148 : decode cX11_needs 148 = .ok (.invokevirtual 84, 3) := by decide +kernel
theorem dX11_needs_151 : decode cX11_needs 151 = .ok (.ireturn, 1) := by decide +kernel
theorem dX11_needs_152 : decode cX11_needs 152 = .ok (.aload_n 0, 1) := by decide +kernel
theorem dX11_needs_153 : decode cX11_needs 153 = .ok (.iload 4, 2) := by decide +kernel
theorem dX11_needs_155 : decode cX11_needs 155 = .ok (.iconst 1, 1) := by decide +kernel
theorem dX11_needs_156 : decode cX11_needs 156 = .ok (.if_icmp .ne 13, 3) := by decide +kernel
theorem dX11_needs_159 : decode cX11_needs 159 = .ok (.aload_n 0, 1) := by decide +kernel
theorem dX11_needs_160 : decode cX11_needs 160 = .ok (.getfield 39, 3) := by decide +kernel
theorem dX11_needs_163 : decode cX11_needs 163 = .ok (.getfield 265, 3) := by decide +kernel
theorem dX11_needs_166 : decode cX11_needs 166 = .ok (.goto 13, 3) := by decide +kernel
theorem dX11_needs_169 : decode cX11_needs 169 = .ok (.aload_n 0, 1) := by decide +kernel
theorem dX11_needs_170 : decode cX11_needs 170 = .ok (.getfield 39, 3) := by decide +kernel
theorem dX11_needs_173 : decode cX11_needs 173 = .ok (.getfield 265, 3) := by decide +kernel
theorem dX11_needs_176 : decode cX11_needs 176 = .ok (.invokestatic 268, 3) := by decide +kernel
theorem dX11_needs_179 : decode cX11_needs 179 = .ok (.invokevirtual 84, 3) := by decide +kernel
theorem dX11_needs_182 : decode cX11_needs 182 = .ok (.ireturn, 1) := by decide +kernel
theorem dX11_sets_0 : decode cX11_sets 0 = .ok (.aload_n 0, 1) := by decide +kernel
theorem dX11_sets_1 : decode cX11_sets 1 = .ok (.getfield 33, 3) := by decide +kernel
theorem dX11_sets_4 : decode cX11_sets 4 = .ok (.invokevirtual 161, 3) := by decide +kernel
theorem dX11_sets_7 : decode cX11_sets 7 = .ok (.ifCond .ne 6, 3) := by decide +kernel
theorem dX11_sets_10 : decode cX11_sets 10 = .ok (.ldc 157, 2) := by decide +kernel
theorem dX11_sets_12 : decode cX11_sets 12 = .ok (.ireturn, 1) := by decide +kernel
theorem dX11_sets_13 : decode cX11_sets 13 = .ok (.iload_n 1, 1) := by decide +kernel
theorem dX11_sets_14 : decode cX11_sets 14 = .ok (.ifCond .lt 19, 3) := by decide +kernel
theorem dX11_sets_17 : decode cX11_sets 17 = .ok (.iload_n 1, 1) := by decide +kernel
theorem dX11_sets_18 : decode cX11_sets 18 = .ok (.sipush 160, 3) := by decide +kernel
theorem dX11_sets_21 : decode cX11_sets 21 = .ok (.if_icmp .gt 12, 3) := by decide +kernel
theorem dX11_sets_24 : decode cX11_sets 24 = .ok (.iload_n 2, 1) := by decide +kernel
theorem dX11_sets_25 : decode cX11_sets 25 = .ok (.ifCond .lt 8, 3) := by decide +kernel
theorem dX11_sets_28 : decode cX11_sets 28 = .ok (.iload_n 2, 1) := by decide +kernel
theorem dX11_sets_29 : decode cX11_sets 29 = .ok (.iconst 2, 1) := by decide +kernel
theorem dX11_sets_30 : decode cX11_sets 30 = .ok (.if_icmp .le 6, 3) := by decide +kernel
theorem dX11_sets_33 : decode cX11_sets 33 = .ok (.ldc 75, 2) := by decide +kernel
theorem dX11_sets_35 : decode cX11_sets 35 = .ok (.ireturn, 1) := by decide +kernel
theorem dX11_sets_36 : decode cX11_sets 36 = .ok (.aload_n 0, 1) := by decide +kernel
theorem dX11_sets_37 : decode cX11_sets 37 = .ok (.getfield 33, 3) := by decide +kernel
theorem dX11_sets_40 : decode cX11_sets 40 = .ok (.invokevirtual 273, 3) := by decide +kernel
theorem dX11_sets_43 : decode cX11_sets 43 = .ok (.istore_n 3, 1) := by decide +kernel
theorem dX11_sets_44 : decode cX11_sets 44 = .ok (.iconst 0, 1) := by decide +kernel
theorem dX11_sets_45 : decode cX11_sets 45 = .ok (.istore 4, 2) := by decide +kernel
theorem dX11_sets_47 : decode cX11_sets 47 = .ok (.iload_n 3, 1) := by decide +kernel
theorem dX11_sets_48 : decode cX11_sets 48 = .ok (.istore 5, 2) := by decide +kernel
theorem dX11_sets_50 : decode cX11_sets 50 = .ok (.iconst 0, 1) := by decide +kernel
theorem dX11_sets_51 : decode cX11_sets 51 = .ok (.istore 6, 2) := by decide +kernel
theorem dX11_sets_53 : decode cX11_sets 53 = .ok (.iconst 0, 1) := by decide +kernel
theorem dX11_sets_54 : decode cX11_sets 54 = .ok (.istore 7, 2) := by decide +kernel
theorem dX11_sets_56 : decode cX11_sets 56 = .ok (.iload 7, 2) := by decide +kernel
theorem dX11_sets_58 : decode cX11_sets 58 = .ok (.sipush 256, 3) := by decide +kernel
theorem dX11_sets_61 : decode cX11_sets 61 = .ok (.if_icmp .ge 48, 3) := by decide +kernel
theorem dX11_sets_64 : decode cX11_sets 64 = .ok (.iload 7, 2) := by decide +kernel
theorem dX11_sets_66 : decode cX11_sets 66 = .ok (.iload_n 3, 1) := by decide +kernel
theorem dX11_sets_67 : decode cX11_sets 67 = .ok (.iconst (-1), 1) := by decide +kernel
theorem dX11_sets_68 : decode cX11_sets 68 = .ok (.ixor, 1) := by decide +kernel
theorem dX11_sets_69 : decode cX11_sets 69 = .ok (.iand, 1) := by decide +kernel
theorem dX11_sets_70 : decode cX11_sets 70 = .ok (.ifCond .ne 33, 3) := by decide +kernel
theorem dX11_sets_73 : decode cX11_sets 73 = .ok (.aload_n 0, 1) := by decide +kernel
theorem dX11_sets_74 : decode cX11_sets 74 = .ok (.getfield 33, 3) := by decide +kernel
theorem dX11_sets_77 : decode cX11_sets 77 = .ok (.iload 7, 2) := by decide +kernel
theorem dX11_sets_79 : decode cX11_sets 79 = .ok (.invokevirtual 276, 3) := by decide +kernel
theorem dX11_sets_82 : decode cX11_sets 82 = .ok (.iload_n 1, 1) := by decide +kernel
theorem dX11_sets_83 : decode cX11_sets 83 = .ok (.if_icmp .ne 20, 3) := by decide +kernel
theorem dX11_sets_86 : decode cX11_sets 86 = .ok (.iinc 4 1, 3) := by decide +kernel
theorem dX11_sets_89 : decode cX11_sets 89 = .ok (.iload 5, 2) := by decide +kernel
theorem dX11_sets_91 : decode cX11_sets 91 = .ok (.iload 7, 2) := by decide +kernel
theorem dX11_sets_93 : decode cX11_sets 93 = .ok (.iand, 1) := by decide +kernel
theorem dX11_sets_94 : decode cX11_sets 94 = .ok (.istore 5, 2) := by decide +kernel
theorem dX11_sets_96 : decode cX11_sets 96 = .ok (.iload 6, 2) := by decide +kernel
theorem dX11_sets_98 : decode cX11_sets 98 = .ok (.iload 7, 2) := by decide +kernel
theorem dX11_sets_100 : decode cX11_sets 100 = .ok (.ior, 1) := by decide +kernel
theorem dX11_sets_101 : decode cX11_sets 101 = .ok (.istore 6, 2) := by decide +kernel
theorem dX11_sets_103 : decode cX11_sets 103 = .ok (.iinc 7 1, 3) := by decide +kernel
theorem dX11_sets_106 : decode cX11_sets 106 = .ok (.goto (-50), 3) := by decide +kernel
theorem dX11_sets_109 : decode cX11_sets 109 = .ok (.iload_n 2, 1) := by decide +kernel
theorem dX11_sets_110 : decode cX11_sets 110 = .ok (.ifCond .ne 6, 3) := by decide +kernel
theorem dX11_sets_113 : decode cX11_sets 113 = .ok (.iload 4, 2) := by decide +kernel
theorem dX11_sets_115 : decode cX11_sets 115 = .ok (.ireturn, 1) := by decide +kernel
theorem dX11_sets_116 : decode cX11_sets 116 = .ok (.iload_n 2, 1) := by decide +kernel
theorem dX11_sets_117 : decode cX11_sets 117 = .ok (.iconst 2, 1) := by decide +kernel
theorem dX11_sets_118 : decode cX11_sets 118 = .ok (.if_icmp .ne 6, 3) := by decide +kernel
theorem dX11_sets_121 : decode cX11_sets 121 = .ok (.iload 6, 2) := by decide +kernel
theorem dX11_sets_123 : decode cX11_sets 123 = .ok (.ireturn, 1) := by decide +kernel
theorem dX11_sets_124 : decode cX11_sets 124 = .ok (.iload 4, 2) := by decide +kernel
theorem dX11_sets_126 : decode cX11_sets 126 = .ok (.ifCond .ne 7, 3) := by decide +kernel
theorem dX11_sets_129 : decode cX11_sets 129 = .ok (.iconst 0, 1) := by decide +kernel
theorem dX11_sets_130 : decode cX11_sets 130 = .ok (.goto 5, 3) := by decide +kernel
theorem dX11_sets_133 : decode cX11_sets 133 = .ok (.iload 5, 2) := by decide +kernel
theorem dX11_sets_135 : decode cX11_sets 135 = .ok (.ireturn, 1) := by decide +kernel
theorem dX11_share_0 : decode cX11_share 0 = .ok (.aload_n 0, 1) := by decide +kernel
theorem dX11_share_1 : decode cX11_share 1 = .ok (.getfield 33, 3) := by decide +kernel
theorem dX11_share_4 : decode cX11_share 4 = .ok (.iload_n 1, 1) := by decide +kernel
theorem dX11_share_5 : decode cX11_share 5 = .ok (.invokevirtual 192, 3) := by decide +kernel
theorem dX11_share_8 : decode cX11_share 8 = .ok (.ifCond .ne 14, 3) := by decide +kernel
theorem dX11_share_11 : decode cX11_share 11 = .ok (.iload_n 2, 1) := by decide +kernel
theorem dX11_share_12 : decode cX11_share 12 = .ok (.ifCond .lt 10, 3) := by decide +kernel
theorem dX11_share_15 : decode cX11_share 15 = .ok (.iload_n 2, 1) := by decide +kernel
theorem dX11_share_16 : decode cX11_share 16 = .ok (.sipush 999, 3) := by decide +kernel
theorem dX11_share_19 : decode cX11_share 19 = .ok (.if_icmp .le 6, 3) := by decide +kernel
theorem dX11_share_22 : decode cX11_share 22 = .ok (.ldc 75, 2) := by decide +kernel
theorem dX11_share_24 : decode cX11_share 24 = .ok (.ireturn, 1) := by decide +kernel
theorem dX11_share_25 : decode cX11_share 25 = .ok (.aload_n 0, 1) := by decide +kernel
theorem dX11_share_26 : decode cX11_share 26 = .ok (.getfield 33, 3) := by decide +kernel
theorem dX11_share_29 : decode cX11_share 29 = .ok (.invokevirtual 197, 3) := by decide +kernel
theorem dX11_share_32 : decode cX11_share 32 = .ok (.istore_n 3, 1) := by decide +kernel
theorem dX11_share_33 : decode cX11_share 33 = .ok (.iload_n 3, 1) := by decide +kernel
theorem dX11_share_34 : decode cX11_share 34 = .ok (.ifCond .eq 15, 3) := by decide +kernel
theorem dX11_share_37 : decode cX11_share 37 = .ok (.aload_n 0, 1) := by decide +kernel
theorem dX11_share_38 : decode cX11_share 38 = .ok (.getfield 33, 3) := by decide +kernel
theorem dX11_share_41 : decode cX11_share 41 = .ok (.getfield 195, 3) := by decide +kernel
theorem dX11_share_44 : decode cX11_share 44 = .ok (.iload_n 1, 1) := by decide +kernel
theorem dX11_share_45 : decode cX11_share 45 = .ok (.iaload, 1) := by decide +kernel
theorem dX11_share_46 : decode cX11_share 46 = .ok (.ifCond .ne 5, 3) := by decide +kernel
theorem dX11_share_49 : decode cX11_share 49 = .ok (.iconst 0, 1) := by decide +kernel
theorem dX11_share_50 : decode cX11_share 50 = .ok (.ireturn, 1) := by decide +kernel
theorem dX11_share_51 : decode cX11_share 51 = .ok (.iload_n 2, 1) := by decide +kernel
theorem dX11_share_52 : decode cX11_share 52 = .ok (.istore 4, 2) := by decide +kernel
theorem dX11_share_54 : decode cX11_share 54 = .ok (.iconst 0, 1) := by decide +kernel
theorem dX11_share_55 : decode cX11_share 55 = .ok (.istore 5, 2) := by decide +kernel
theorem dX11_share_57 : decode cX11_share 57 = .ok (.iconst 0, 1) := by decide +kernel
theorem dX11_share_58 : decode cX11_share 58 = .ok (.istore 6, 2) := by decide +kernel
theorem dX11_share_60 : decode cX11_share 60 = .ok (.iload 6, 2) := by decide +kernel
theorem dX11_share_62 : decode cX11_share 62 = .ok (.aload_n 0, 1) := by decide +kernel
theorem dX11_share_63 : decode cX11_share 63 = .ok (.getfield 33, 3) := by decide +kernel
theorem dX11_share_66 : decode cX11_share 66 = .ok (.getfield 279, 3) := by decide +kernel
theorem dX11_share_69 : decode cX11_share 69 = .ok (.if_icmp .ge 50, 3) := by decide +kernel
theorem dX11_share_72 : decode cX11_share 72 = .ok (.iload 4, 2) := by decide +kernel
theorem dX11_share_74 : decode cX11_share 74 = .ok (.iload_n 2, 1) := by decide +kernel
theorem dX11_share_75 : decode cX11_share 75 = .ok (.aload_n 0, 1) := by decide +kernel
theorem dX11_share_76 : decode cX11_share 76 = .ok (.getfield 33, 3) := by decide +kernel
theorem dX11_share_79 : decode cX11_share 79 = .ok (.getfield 195, 3) := by decide +kernel
theorem dX11_share_82 : decode cX11_share 82 = .ok (.iload 6, 2) := by decide +kernel
theorem dX11_share_84 : decode cX11_share 84 = .ok (.iaload, 1) := by decide +kernel
theorem dX11_share_85 : decode cX11_share 85 = .ok (.imul, 1) := by decide +kernel
theorem dX11_share_86 : decode cX11_share 86 = .ok (.iload_n 3, 1) := by decide +kernel
theorem dX11_share_87 : decode cX11_share 87 = .ok (.idiv, 1) := by decide +kernel
theorem dX11_share_88 : decode cX11_share 88 = .ok (.isub, 1) := by decide +kernel
theorem dX11_share_89 : decode cX11_share 89 = .ok (.istore 4, 2) := by decide +kernel
theorem dX11_share_91 : decode cX11_share 91 = .ok (.iload 6, 2) := by decide +kernel
theorem dX11_share_93 : decode cX11_share 93 = .ok (.iload_n 1, 1) := by decide +kernel
theorem dX11_share_94 : decode cX11_share 94 = .ok (.if_icmp .ge 19, 3) := by decide +kernel
theorem dX11_share_97 : decode cX11_share 97 = .ok (.aload_n 0, 1) := by decide +kernel
theorem dX11_share_98 : decode cX11_share 98 = .ok (.getfield 33, 3) := by decide +kernel
theorem dX11_share_101 : decode cX11_share 101 = .ok (.getfield 195, 3) := by decide +kernel
theorem dX11_share_104 : decode cX11_share 104 = .ok (.iload 6, 2) := by decide +kernel
theorem dX11_share_106 : decode cX11_share 106 = .ok (.iaload, 1) := by decide +kernel
theorem dX11_share_107 : decode cX11_share 107 = .ok (.ifCond .eq 6, 3) := by decide +kernel
theorem dX11_share_110 : decode cX11_share 110 = .ok (.iinc 5 1, 3) := by decide +kernel
theorem dX11_share_113 : decode cX11_share 113 = .ok (.iinc 6 1, 3) := by decide +kernel
theorem dX11_share_116 : decode cX11_share 116 = .ok (.goto (-56), 3) := by decide +kernel
theorem dX11_share_119 : decode cX11_share 119 = .ok (.iload_n 2, 1) := by decide +kernel
theorem dX11_share_120 : decode cX11_share 120 = .ok (.aload_n 0, 1) := by decide +kernel
theorem dX11_share_121 : decode cX11_share 121 = .ok (.getfield 33, 3) := by decide +kernel
theorem dX11_share_124 : decode cX11_share 124 = .ok (.getfield 195, 3) := by decide +kernel
theorem dX11_share_127 : decode cX11_share 127 = .ok (.iload_n 1, 1) := by decide +kernel
theorem dX11_share_128 : decode cX11_share 128 = .ok (.iaload, 1) := by decide +kernel
theorem dX11_share_129 : decode cX11_share 129 = .ok (.imul, 1) := by decide +kernel
theorem dX11_share_130 : decode cX11_share 130 = .ok (.iload_n 3, 1) := by decide +kernel
theorem dX11_share_131 : decode cX11_share 131 = .ok (.idiv, 1) := by decide +kernel
theorem dX11_share_132 : decode cX11_share 132 = .ok (.istore 6, 2) := by decide +kernel
theorem dX11_share_134 : decode cX11_share 134 = .ok (.iload 5, 2) := by decide +kernel
theorem dX11_share_136 : decode cX11_share 136 = .ok (.iload 4, 2) := by decide +kernel
theorem dX11_share_138 : decode cX11_share 138 = .ok (.if_icmp .ge 10, 3) := by decide +kernel
theorem dX11_share_141 : decode cX11_share 141 = .ok (.iload 6, 2) := by decide +kernel
theorem dX11_share_143 : decode cX11_share 143 = .ok (.iconst 1, 1) := by decide +kernel
theorem dX11_share_144 : decode cX11_share 144 = .ok (.iadd, 1) := by decide +kernel
theorem dX11_share_145 : decode cX11_share 145 = .ok (.goto 5, 3) := by decide +kernel
theorem dX11_share_148 : decode cX11_share 148 = .ok (.iload 6, 2) := by decide +kernel
theorem dX11_share_150 : decode cX11_share 150 = .ok (.ireturn, 1) := by decide +kernel
theorem dX11_byTurns_0 : decode cX11_byTurns 0 = .ok (.aload_n 0, 1) := by decide +kernel
theorem dX11_byTurns_1 : decode cX11_byTurns 1 = .ok (.getfield 33, 3) := by decide +kernel
theorem dX11_byTurns_4 : decode cX11_byTurns 4 = .ok (.invokevirtual 161, 3) := by decide +kernel
theorem dX11_byTurns_7 : decode cX11_byTurns 7 = .ok (.ifCond .ne 6, 3) := by decide +kernel
theorem dX11_byTurns_10 : decode cX11_byTurns 10 = .ok (.ldc 157, 2) := by decide +kernel
theorem dX11_byTurns_12 : decode cX11_byTurns 12 = .ok (.ireturn, 1) := by decide +kernel
theorem dX11_byTurns_13 : decode cX11_byTurns 13 = .ok (.iload_n 1, 1) := by decide +kernel
theorem dX11_byTurns_14 : decode cX11_byTurns 14 = .ok (.ifCond .lt 8, 3) := by decide +kernel
theorem dX11_byTurns_17 : decode cX11_byTurns 17 = .ok (.iload_n 1, 1) := by decide +kernel
theorem dX11_byTurns_18 : decode cX11_byTurns 18 = .ok (.iconst 3, 1) := by decide +kernel
theorem dX11_byTurns_19 : decode cX11_byTurns 19 = .ok (.if_icmp .le 6, 3) := by decide +kernel
theorem dX11_byTurns_22 : decode cX11_byTurns 22 = .ok (.ldc 75, 2) := by decide +kernel
theorem dX11_byTurns_24 : decode cX11_byTurns 24 = .ok (.ireturn, 1) := by decide +kernel
theorem dX11_byTurns_25 : decode cX11_byTurns 25 = .ok (.aload_n 0, 1) := by decide +kernel
theorem dX11_byTurns_26 : decode cX11_byTurns 26 = .ok (.getfield 42, 3) := by decide +kernel
theorem dX11_byTurns_29 : decode cX11_byTurns 29 = .ok (.aload_n 0, 1) := by decide +kernel
theorem dX11_byTurns_30 : decode cX11_byTurns 30 = .ok (.getfield 33, 3) := by decide +kernel
theorem dX11_byTurns_33 : decode cX11_byTurns 33 = .ok (.invokevirtual 141, 3) := by decide +kernel
theorem dX11_byTurns_36 : decode cX11_byTurns 36 = .ok (.aload_n 0, 1) := by decide +kernel
theorem dX11_byTurns_37 : decode cX11_byTurns 37 = .ok (.iconst 0, 1) := by decide +kernel
theorem dX11_byTurns_38 : decode cX11_byTurns 38 = .ok (.iload_n 1, 1) := by decide +kernel
theorem dX11_byTurns_39 : decode cX11_byTurns 39 = .ok (.invokevirtual 282, 3) := by decide +kernel
theorem dX11_byTurns_42 : decode cX11_byTurns 42 = .ok (.ireturn, 1) := by decide +kernel
theorem dX11_who_0 : decode cX11_who 0 = .ok (.aload_n 0, 1) := by decide +kernel
theorem dX11_who_1 : decode cX11_who 1 = .ok (.getfield 33, 3) := by decide +kernel
theorem dX11_who_4 : decode cX11_who 4 = .ok (.iload_n 1, 1) := by decide +kernel
theorem dX11_who_5 : decode cX11_who 5 = .ok (.invokevirtual 186, 3) := by decide +kernel
theorem dX11_who_8 : decode cX11_who 8 = .ok (.ifCond .ne 12, 3) := by decide +kernel
theorem dX11_who_11 : decode cX11_who 11 = .ok (.iload_n 2, 1) := by decide +kernel
theorem dX11_who_12 : decode cX11_who 12 = .ok (.ifCond .lt 8, 3) := by decide +kernel
theorem dX11_who_15 : decode cX11_who 15 = .ok (.iload_n 2, 1) := by decide +kernel
theorem dX11_who_16 : decode cX11_who 16 = .ok (.iconst 3, 1) := by decide +kernel
theorem dX11_who_17 : decode cX11_who 17 = .ok (.if_icmp .le 6, 3) := by decide +kernel
theorem dX11_who_20 : decode cX11_who 20 = .ok (.ldc 75, 2) := by decide +kernel
theorem dX11_who_22 : decode cX11_who 22 = .ok (.ireturn, 1) := by decide +kernel
theorem dX11_who_23 : decode cX11_who 23 = .ok (.iload_n 3, 1) := by decide +kernel
theorem dX11_who_24 : decode cX11_who 24 = .ok (.iload 5, 2) := by decide +kernel
theorem dX11_who_26 : decode cX11_who 26 = .ok (.invokestatic 164, 3) := by decide +kernel
theorem dX11_who_29 : decode cX11_who 29 = .ok (.ifCond .ne 11, 3) := by decide +kernel
theorem dX11_who_32 : decode cX11_who 32 = .ok (.iload 6, 2) := by decide +kernel
theorem dX11_who_34 : decode cX11_who 34 = .ok (.invokestatic 285, 3) := by decide +kernel
theorem dX11_who_37 : decode cX11_who 37 = .ok (.ifCond .ne 6, 3) := by decide +kernel
theorem dX11_who_40 : decode cX11_who 40 = .ok (.ldc 75, 2) := by decide +kernel
theorem dX11_who_42 : decode cX11_who 42 = .ok (.ireturn, 1) := by decide +kernel
theorem dX11_who_43 : decode cX11_who 43 = .ok (.aload_n 0, 1) := by decide +kernel
theorem dX11_who_44 : decode cX11_who 44 = .ok (.iload_n 3, 1) := by decide +kernel
theorem dX11_who_45 : decode cX11_who 45 = .ok (.iload 4, 2) := by decide +kernel
theorem dX11_who_47 : decode cX11_who 47 = .ok (.iload 5, 2) := by decide +kernel
theorem dX11_who_49 : decode cX11_who 49 = .ok (.invokevirtual 167, 3) := by decide +kernel
theorem dX11_who_52 : decode cX11_who 52 = .ok (.istore 7, 2) := by decide +kernel
theorem dX11_who_54 : decode cX11_who 54 = .ok (.iload 7, 2) := by decide +kernel
theorem dX11_who_56 : decode cX11_who 56 = .ok (.ifCond .eq 10, 3) := by decide +kernel
theorem dX11_who_59 : decode cX11_who 59 = .ok (.aload_n 0, 1) := by decide +kernel
theorem dX11_who_60 : decode cX11_who 60 = .ok (.iload 7, 2) := by decide +kernel
theorem dX11_who_62 : decode cX11_who 62 = .ok (.invokevirtual 76, 3) := by decide +kernel
theorem dX11_who_65 : decode cX11_who 65 = .ok (.ireturn, 1) := by decide +kernel
theorem dX11_who_66 : decode cX11_who 66 = .ok (.aload_n 0, 1) := by decide +kernel
theorem dX11_who_67 : decode cX11_who 67 = .ok (.getfield 11, 3) := by decide +kernel
theorem dX11_who_70 : decode cX11_who 70 = .ok (.iload_n 3, 1) := by decide +kernel
theorem dX11_who_71 : decode cX11_who 71 = .ok (.aaload, 1) := by decide +kernel
theorem dX11_who_72 : decode cX11_who 72 = .ok (.getfield 103, 3) := by decide +kernel
theorem dX11_who_75 : decode cX11_who 75 = .ok (.astore 8, 2) := by decide +kernel
theorem dX11_who_77 : decode cX11_who 77 = .ok (.iload_n 2, 1) := by decide +kernel
theorem dX11_who_78 : decode cX11_who 78 = .ok (.ifCond .ne 21, 3) := by decide +kernel
theorem dX11_who_81 : decode cX11_who 81 = .ok (.aload_n 0, 1) := by decide +kernel
theorem dX11_who_82 : decode cX11_who 82 = .ok (.aload_n 0, 1) := by decide +kernel
theorem dX11_who_83 : decode cX11_who 83 = .ok (.iload_n 1, 1) := by decide +kernel
theorem dX11_who_84 : decode cX11_who 84 = .ok (.aload 8, 2) := by decide +kernel
theorem dX11_who_86 : decode cX11_who 86 = .ok (.iload 4, 2) := by decide +kernel
theorem dX11_who_88 : decode cX11_who 88 = .ok (.iload 5, 2) := by decide +kernel
theorem dX11_who_90 : decode cX11_who 90 = .ok (.iload 6, 2) := by decide +kernel
theorem dX11_who_92 : decode cX11_who 92 = .ok (.invokevirtual 288, 3) := by decide +kernel
theorem dX11_who_95 : decode cX11_who 95 = .ok (.invokevirtual 84, 3) := by decide +kernel
theorem dX11_who_98 : decode cX11_who 98 = .ok (.ireturn, 1) := by decide +kernel
theorem dX11_who_99 : decode cX11_who 99 = .ok (.iload_n 2, 1) := by decide +kernel
theorem dX11_who_100 : decode cX11_who 100 = .ok (.iconst 1, 1) := by decide +kernel
theorem dX11_who_101 : decode cX11_who 101 = .ok (.if_icmp .ne 21, 3) := by decide +kernel
theorem dX11_who_104 : decode cX11_who 104 = .ok (.aload_n 0, 1) := by decide +kernel
theorem dX11_who_105 : decode cX11_who 105 = .ok (.aload_n 0, 1) := by decide +kernel
theorem dX11_who_106 : decode cX11_who 106 = .ok (.iload_n 1, 1) := by decide +kernel
theorem dX11_who_107 : decode cX11_who 107 = .ok (.aload 8, 2) := by decide +kernel
theorem dX11_who_109 : decode cX11_who 109 = .ok (.iload 4, 2) := by decide +kernel
theorem dX11_who_111 : decode cX11_who 111 = .ok (.iload 5, 2) := by decide +kernel
theorem dX11_who_113 : decode cX11_who 113 = .ok (.iload 6, 2) := by decide +kernel
theorem dX11_who_115 : decode cX11_who 115 = .ok (.invokevirtual 292, 3) := by decide +kernel
theorem dX11_who_118 : decode cX11_who 118 = .ok (.invokevirtual 84, 3) := by decide +kernel
theorem dX11_who_121 : decode cX11_who 121 = .ok (.ireturn, 1) := by decide +kernel
theorem dX11_who_122 : decode cX11_who 122 = .ok (.aload_n 0, 1) := by decide +kernel
theorem dX11_who_123 : decode cX11_who 123 = .ok (.aload_n 0, 1) := by decide +kernel
theorem dX11_who_124 : decode cX11_who 124 = .ok (.iload_n 2, 1) := by decide +kernel
theorem dX11_who_125 : decode cX11_who 125 = .ok (.iconst 3, 1) := by decide +kernel
theorem dX11_who_126 : decode cX11_who 126 = .ok (.if_icmp .ne 7, 3) := by decide +kernel
theorem dX11_who_129 : decode cX11_who 129 = .ok (.iconst 1, 1) := by decide +kernel
theorem dX11_who_130 : decode cX11_who 130 = .ok (.goto 4, 3) := by decide +kernel
theorem dX11_who_133 : decode cX11_who 133 = .ok (.iconst 0, 1) := by decide +kernel
theorem dX11_who_134 : decode cX11_who 134 = .ok (.aload 8, 2) := by decide +kernel
theorem dX11_who_136 : decode cX11_who 136 = .ok (.iload 4, 2) := by decide +kernel
theorem dX11_who_138 : decode cX11_who 138 = .ok (.iload 5, 2) := by decide +kernel
theorem dX11_who_140 : decode cX11_who 140 = .ok (.iload 6, 2) := by decide +kernel
theorem dX11_who_142 : decode cX11_who 142 = .ok (.invokevirtual 295, 3) := by decide +kernel
theorem dX11_who_145 : decode cX11_who 145 = .ok (.invokevirtual 84, 3) := by decide +kernel
theorem dX11_who_148 : decode cX11_who 148 = .ok (.ireturn, 1) := by decide +kernel
theorem dX11_sticks_0 : decode cX11_sticks 0 = .ok (.aload_n 0, 1) := by decide +kernel
theorem dX11_sticks_1 : decode cX11_sticks 1 = .ok (.getfield 33, 3) := by decide +kernel
theorem dX11_sticks_4 : decode cX11_sticks 4 = .ok (.invokevirtual 161, 3) := by decide +kernel
theorem dX11_sticks_7 : decode cX11_sticks 7 = .ok (.ifCond .ne 7, 3) := by decide +kernel
theorem dX11_sticks_10 : decode cX11_sticks 10 = .ok (.ldc2_w 299, 3) := by decide +kernel
theorem dX11_sticks_13 : decode cX11_sticks 13 = .ok (.lreturn, 1) := by decide +kernel
theorem dX11_sticks_14 : decode cX11_sticks 14 = .ok (.iload_n 1, 1) := by decide +kernel
theorem dX11_sticks_15 : decode cX11_sticks 15 = .ok (.iload_n 3, 1) := by decide +kernel
theorem dX11_sticks_16 : decode cX11_sticks 16 = .ok (.invokestatic 164, 3) := by decide +kernel
theorem dX11_sticks_19 : decode cX11_sticks 19 = .ok (.ifCond .ne 26, 3) := by decide +kernel
theorem dX11_sticks_22 : decode cX11_sticks 22 = .ok (.iload 4, 2) := by decide +kernel
theorem dX11_sticks_24 : decode cX11_sticks 24 = .ok (.ifCond .lt 21, 3) := by decide +kernel
theorem dX11_sticks_27 : decode cX11_sticks 27 = .ok (.iload 4, 2) := by decide +kernel
theorem dX11_sticks_29 : decode cX11_sticks 29 = .ok (.bipush 10, 2) := by decide +kernel
theorem dX11_sticks_31 : decode cX11_sticks 31 = .ok (.if_icmp .gt 14, 3) := by decide +kernel
theorem dX11_sticks_34 : decode cX11_sticks 34 = .ok (.iload 5, 2) := by decide +kernel
theorem dX11_sticks_36 : decode cX11_sticks 36 = .ok (.ifCond .lt 9, 3) := by decide +kernel
theorem dX11_sticks_39 : decode cX11_sticks 39 = .ok (.iload 5, 2) := by decide +kernel
theorem dX11_sticks_41 : decode cX11_sticks 41 = .ok (.iconst 1, 1) := by decide +kernel
theorem dX11_sticks_42 : decode cX11_sticks 42 = .ok (.if_icmp .le 7, 3) := by decide +kernel
theorem dX11_sticks_45 : decode cX11_sticks 45 = .ok (.ldc2_w 301, 3) := by decide +kernel
theorem dX11_sticks_48 : decode cX11_sticks 48 = .ok (.lreturn, 1) := by decide +kernel
theorem dX11_sticks_49 : decode cX11_sticks 49 = .ok (.aload_n 0, 1) := by decide +kernel
theorem dX11_sticks_50 : decode cX11_sticks 50 = .ok (.iload_n 1, 1) := by decide +kernel
theorem dX11_sticks_51 : decode cX11_sticks 51 = .ok (.iload_n 2, 1) := by decide +kernel
theorem dX11_sticks_52 : decode cX11_sticks 52 = .ok (.iload_n 3, 1) := by decide +kernel
theorem dX11_sticks_53 : decode cX11_sticks 53 = .ok (.invokevirtual 167, 3) := by decide +kernel
theorem dX11_sticks_56 : decode cX11_sticks 56 = .ok (.istore 6, 2) := by decide +kernel
theorem dX11_sticks_58 : decode cX11_sticks 58 = .ok (.iload 6, 2) := by decide +kernel
theorem dX11_sticks_60 : decode cX11_sticks 60 = .ok (.ifCond .eq 11, 3) := by decide +kernel
theorem dX11_sticks_63 : decode cX11_sticks 63 = .ok (.aload_n 0, 1) := by decide +kernel
theorem dX11_sticks_64 : decode cX11_sticks 64 = .ok (.iload 6, 2) := by decide +kernel
theorem dX11_sticks_66 : decode cX11_sticks 66 = .ok (.invokevirtual 76, 3) := by decide +kernel
theorem dX11_sticks_69 : decode cX11_sticks 69 = .ok (.i2l, 1) := by decide +kernel
theorem dX11_sticks_70 : decode cX11_sticks 70 = .ok (.lreturn, 1) := by decide +kernel
theorem dX11_sticks_71 : decode cX11_sticks 71 = .ok (.aload_n 0, 1) := by decide +kernel
theorem dX11_sticks_72 : decode cX11_sticks 72 = .ok (.aload_n 0, 1) := by decide +kernel
theorem dX11_sticks_73 : decode cX11_sticks 73 = .ok (.getfield 11, 3) := by decide +kernel
theorem dX11_sticks_76 : decode cX11_sticks 76 = .ok (.iload_n 1, 1) := by decide +kernel
theorem dX11_sticks_77 : decode cX11_sticks 77 = .ok (.aaload, 1) := by decide +kernel
theorem dX11_sticks_78 : decode cX11_sticks 78 = .ok (.getfield 103, 3) := by decide +kernel
theorem dX11_sticks_81 : decode cX11_sticks 81 = .ok (.iload_n 2, 1) := by decide +kernel
theorem dX11_sticks_82 : decode cX11_sticks 82 = .ok (.iload_n 3, 1) := by decide +kernel
theorem dX11_sticks_83 : decode cX11_sticks 83 = .ok (.invokevirtual 237, 3) := by decide +kernel
theorem dX11_sticks_86 : decode cX11_sticks 86 = .ok (.aload_n 0, 1) := by decide +kernel
theorem dX11_sticks_87 : decode cX11_sticks 87 = .ok (.iconst 0, 1) := by decide +kernel
theorem dX11_sticks_88 : decode cX11_sticks 88 = .ok (.invokevirtual 84, 3) := by decide +kernel
theorem dX11_sticks_91 : decode cX11_sticks 91 = .ok (.pop, 1) := by decide +kernel
theorem dX11_sticks_92 : decode cX11_sticks 92 = .ok (.bipush 10, 2) := by decide +kernel
theorem dX11_sticks_94 : decode cX11_sticks 94 = .ok (.iload 4, 2) := by decide +kernel
theorem dX11_sticks_96 : decode cX11_sticks 96 = .ok (.isub, 1) := by decide +kernel
theorem dX11_sticks_97 : decode cX11_sticks 97 = .ok (.bipush 10, 2) := by decide +kernel
theorem dX11_sticks_99 : decode cX11_sticks 99 = .ok (.invokestatic 303, 3) := by decide +kernel
theorem dX11_sticks_102 : decode cX11_sticks 102 = .ok (.istore 7, 2) := by decide +kernel
theorem dX11_sticks_104 : decode cX11_sticks 104 = .ok (.aload_n 0, 1) := by decide +kernel
theorem dX11_sticks_105 : decode cX11_sticks 105 = .ok (.getfield 39, 3) := by decide +kernel
theorem dX11_sticks_108 : decode cX11_sticks 108 = .ok (.getfield 178, 3) := by decide +kernel
theorem dX11_sticks_111 : decode cX11_sticks 111 = .ok (.ifCond .ne 8, 3) := by decide +kernel
theorem dX11_sticks_114 : decode cX11_sticks 114 = .ok (.iload 7, 2) := by decide +kernel
theorem dX11_sticks_116 : decode cX11_sticks 116 = .ok (.ifCond .ne 7, 3) := by decide +kernel
theorem dX11_sticks_119 : decode cX11_sticks 119 = .ok (.iload 5, 2) := by decide +kernel
theorem dX11_sticks_121 : decode cX11_sticks 121 = .ok (.i2l, 1) := by decide +kernel
theorem dX11_sticks_122 : decode cX11_sticks 122 = .ok (.lreturn, 1) := by decide +kernel
theorem dX11_sticks_123 : decode cX11_sticks 123 = .ok (.iload 5, 2) := by decide +kernel
theorem dX11_sticks_125 : decode cX11_sticks 125 = .ok (.ifCond .ne 14, 3) := by decide +kernel
theorem dX11_sticks_128 : decode cX11_sticks 128 = .ok (.bipush 10, 2) := by decide +kernel
theorem dX11_sticks_130 : decode cX11_sticks 130 = .ok (.iload 4, 2) := by decide +kernel
theorem dX11_sticks_132 : decode cX11_sticks 132 = .ok (.isub, 1) := by decide +kernel
theorem dX11_sticks_133 : decode cX11_sticks 133 = .ok (.iload 7, 2) := by decide +kernel
theorem dX11_sticks_135 : decode cX11_sticks 135 = .ok (.idiv, 1) := by decide +kernel
theorem dX11_sticks_136 : decode cX11_sticks 136 = .ok (.goto 8, 3) := by decide +kernel
theorem dX11_sticks_139 : decode cX11_sticks 139 = .ok (.bipush 10, 2) := by decide +kernel
theorem dX11_sticks_141 : decode cX11_sticks 141 = .ok (.iload 7, 2) := by decide +kernel
theorem dX11_sticks_143 : decode cX11_sticks 143 = .ok (.idiv, 1) := by decide +kernel
theorem dX11_sticks_144 : decode cX11_sticks 144 = .ok (.aload_n 0, 1) := by decide +kernel
theorem dX11_sticks_145 : decode cX11_sticks 145 = .ok (.getfield 39, 3) := by decide +kernel
theorem dX11_sticks_148 : decode cX11_sticks 148 = .ok (.getfield 249, 3) := by decide +kernel
theorem dX11_sticks_151 : decode cX11_sticks 151 = .ok (.invokestatic 306, 3) := by decide +kernel
theorem dX11_sticks_154 : decode cX11_sticks 154 = .ok (.lreturn, 1) := by decide +kernel
theorem dX11_drawn_0 : decode cX11_drawn 0 = .ok (.aload_n 0, 1) := by decide +kernel
theorem dX11_drawn_1 : decode cX11_drawn 1 = .ok (.getfield 33, 3) := by decide +kernel
theorem dX11_drawn_4 : decode cX11_drawn 4 = .ok (.invokevirtual 161, 3) := by decide +kernel
theorem dX11_drawn_7 : decode cX11_drawn 7 = .ok (.ifCond .ne 6, 3) := by decide +kernel
theorem dX11_drawn_10 : decode cX11_drawn 10 = .ok (.ldc 157, 2) := by decide +kernel
theorem dX11_drawn_12 : decode cX11_drawn 12 = .ok (.ireturn, 1) := by decide +kernel
theorem dX11_drawn_13 : decode cX11_drawn 13 = .ok (.iload_n 1, 1) := by decide +kernel
theorem dX11_drawn_14 : decode cX11_drawn 14 = .ok (.ifCond .lt 30, 3) := by decide +kernel
theorem dX11_drawn_17 : decode cX11_drawn 17 = .ok (.iload_n 1, 1) := by decide +kernel
theorem dX11_drawn_18 : decode cX11_drawn 18 = .ok (.bipush 60, 2) := by decide +kernel
theorem dX11_drawn_20 : decode cX11_drawn 20 = .ok (.if_icmp .gt 24, 3) := by decide +kernel
theorem dX11_drawn_23 : decode cX11_drawn 23 = .ok (.iload_n 2, 1) := by decide +kernel
theorem dX11_drawn_24 : decode cX11_drawn 24 = .ok (.iconst 1, 1) := by decide +kernel
theorem dX11_drawn_25 : decode cX11_drawn 25 = .ok (.if_icmp .lt 19, 3) := by decide +kernel
theorem dX11_drawn_28 : decode cX11_drawn 28 = .ok (.iload_n 2, 1) := by decide +kernel
theorem dX11_drawn_29 : decode cX11_drawn 29 = .ok (.ldc_w 310, 3) := by decide +kernel
theorem dX11_drawn_32 : decode cX11_drawn 32 = .ok (.if_icmp .gt 12, 3) := by decide +kernel
theorem dX11_drawn_35 : decode cX11_drawn 35 = .ok (.iload_n 3, 1) := by decide +kernel
theorem dX11_drawn_36 : decode cX11_drawn 36 = .ok (.ifCond .lt 8, 3) := by decide +kernel
theorem dX11_drawn_39 : decode cX11_drawn 39 = .ok (.iload_n 3, 1) := by decide +kernel
theorem dX11_drawn_40 : decode cX11_drawn 40 = .ok (.iconst 1, 1) := by decide +kernel
theorem dX11_drawn_41 : decode cX11_drawn 41 = .ok (.if_icmp .le 6, 3) := by decide +kernel
theorem dX11_drawn_44 : decode cX11_drawn 44 = .ok (.ldc 75, 2) := by decide +kernel
theorem dX11_drawn_46 : decode cX11_drawn 46 = .ok (.ireturn, 1) := by decide +kernel
theorem dX11_drawn_47 : decode cX11_drawn 47 = .ok (.aload_n 0, 1) := by decide +kernel
theorem dX11_drawn_48 : decode cX11_drawn 48 = .ok (.getfield 42, 3) := by decide +kernel
theorem dX11_drawn_51 : decode cX11_drawn 51 = .ok (.aload_n 0, 1) := by decide +kernel
theorem dX11_drawn_52 : decode cX11_drawn 52 = .ok (.getfield 33, 3) := by decide +kernel
theorem dX11_drawn_55 : decode cX11_drawn 55 = .ok (.invokevirtual 141, 3) := by decide +kernel
theorem dX11_drawn_58 : decode cX11_drawn 58 = .ok (.iconst 0, 1) := by decide +kernel
theorem dX11_drawn_59 : decode cX11_drawn 59 = .ok (.istore 4, 2) := by decide +kernel
theorem dX11_drawn_61 : decode cX11_drawn 61 = .ok (.iconst 0, 1) := by decide +kernel
theorem dX11_drawn_62 : decode cX11_drawn 62 = .ok (.istore 5, 2) := by decide +kernel
theorem dX11_drawn_64 : decode cX11_drawn 64 = .ok (.iload_n 2, 1) := by decide +kernel
theorem dX11_drawn_65 : decode cX11_drawn 65 = .ok (.i2l, 1) := by decide +kernel
theorem dX11_drawn_66 : decode cX11_drawn 66 = .ok (.lstore 6, 2) := by decide +kernel
theorem dX11_drawn_68 : decode cX11_drawn 68 = .ok (.iconst 0, 1) := by decide +kernel
theorem dX11_drawn_69 : decode cX11_drawn 69 = .ok (.istore 8, 2) := by decide +kernel
theorem dX11_drawn_71 : decode cX11_drawn 71 = .ok (.iload 8, 2) := by decide +kernel
theorem dX11_drawn_73 : decode cX11_drawn 73 = .ok (.iload_n 1, 1) := by decide +kernel
theorem dX11_drawn_74 : decode cX11_drawn 74 = .ok (.if_icmp .ge 52, 3) := by decide +kernel
theorem dX11_drawn_77 : decode cX11_drawn 77 = .ok (.lload 6, 2) := by decide +kernel
theorem dX11_drawn_79 : decode cX11_drawn 79 = .ok (.ldc2_w 311, 3) := by decide +kernel
theorem dX11_drawn_82 : decode cX11_drawn 82 = .ok (.lmul, 1) := by decide +kernel
theorem dX11_drawn_83 : decode cX11_drawn 83 = .ok (.ldc2_w 313, 3) := by decide +kernel
theorem dX11_drawn_86 : decode cX11_drawn 86 = .ok (.lrem, 1) := by decide +kernel
theorem dX11_drawn_87 : decode cX11_drawn 87 = .ok (.lstore 6, 2) := by decide +kernel
theorem dX11_drawn_89 : decode cX11_drawn 89 = .ok (.aload_n 0, 1) := by decide +kernel
theorem dX11_drawn_90 : decode cX11_drawn 90 = .ok (.lload 6, 2) := by decide +kernel
theorem dX11_drawn_92 : decode cX11_drawn 92 = .ok (.invokevirtual 315, 3) := by decide +kernel
theorem dX11_drawn_95 : decode cX11_drawn 95 = .ok (.aload_n 0, 1) := by decide +kernel
theorem dX11_drawn_96 : decode cX11_drawn 96 = .ok (.getfield 39, 3) := by decide +kernel
theorem dX11_drawn_99 : decode cX11_drawn 99 = .ok (.getfield 178, 3) := by decide +kernel
theorem dX11_drawn_102 : decode cX11_drawn 102 = .ok (.ifCond .ne 18, 3) := by decide +kernel
theorem dX11_drawn_105 : decode cX11_drawn 105 = .ok (.iload 4, 2) := by decide +kernel
theorem dX11_drawn_107 : decode cX11_drawn 107 = .ok (.aload_n 0, 1) := by decide +kernel
theorem dX11_drawn_108 : decode cX11_drawn 108 = .ok (.getfield 39, 3) := by decide +kernel
theorem dX11_drawn_111 : decode cX11_drawn 111 = .ok (.getfield 181, 3) := by decide +kernel
theorem dX11_drawn_114 : decode cX11_drawn 114 = .ok (.iadd, 1) := by decide +kernel
theorem dX11_drawn_115 : decode cX11_drawn 115 = .ok (.istore 4, 2) := by decide +kernel
theorem dX11_drawn_117 : decode cX11_drawn 117 = .ok (.iinc 5 1, 3) := by decide +kernel
theorem dX11_drawn_120 : decode cX11_drawn 120 = .ok (.iinc 8 1, 3) := by decide +kernel
theorem dX11_drawn_123 : decode cX11_drawn 123 = .ok (.goto (-52), 3) := by decide +kernel
theorem dX11_drawn_126 : decode cX11_drawn 126 = .ok (.iload_n 3, 1) := by decide +kernel
theorem dX11_drawn_127 : decode cX11_drawn 127 = .ok (.ifCond .ne 8, 3) := by decide +kernel
theorem dX11_drawn_130 : decode cX11_drawn 130 = .ok (.iload 4, 2) := by decide +kernel
theorem dX11_drawn_132 : decode cX11_drawn 132 = .ok (.goto 5, 3) := by decide +kernel
theorem dX11_drawn_135 : decode cX11_drawn 135 = .ok (.iload 5, 2) := by decide +kernel
theorem dX11_drawn_137 : decode cX11_drawn 137 = .ok (.ireturn, 1) := by decide +kernel
theorem dX11_image_0 : decode cX11_image 0 = .ok (.iload_n 1, 1) := by decide +kernel
theorem dX11_image_1 : decode cX11_image 1 = .ok (.ifCond .lt 8, 3) := by decide +kernel
theorem dX11_image_4 : decode cX11_image 4 = .ok (.iload_n 1, 1) := by decide +kernel
theorem dX11_image_5 : decode cX11_image 5 = .ok (.iconst 2, 1) := by decide +kernel
theorem dX11_image_6 : decode cX11_image 6 = .ok (.if_icmp .lt 6, 3) := by decide +kernel
theorem dX11_image_9 : decode cX11_image 9 = .ok (.ldc 75, 2) := by decide +kernel
theorem dX11_image_11 : decode cX11_image 11 = .ok (.ireturn, 1) := by decide +kernel
theorem dX11_image_12 : decode cX11_image 12 = .ok (.aload_n 0, 1) := by decide +kernel
theorem dX11_image_13 : decode cX11_image 13 = .ok (.getfield 33, 3) := by decide +kernel
theorem dX11_image_16 : decode cX11_image 16 = .ok (.invokevirtual 161, 3) := by decide +kernel
theorem dX11_image_19 : decode cX11_image 19 = .ok (.ifCond .ne 6, 3) := by decide +kernel
theorem dX11_image_22 : decode cX11_image 22 = .ok (.ldc 157, 2) := by decide +kernel
theorem dX11_image_24 : decode cX11_image 24 = .ok (.ireturn, 1) := by decide +kernel
theorem dX11_image_25 : decode cX11_image 25 = .ok (.aload_n 0, 1) := by decide +kernel
theorem dX11_image_26 : decode cX11_image 26 = .ok (.getfield 51, 3) := by decide +kernel
theorem dX11_image_29 : decode cX11_image 29 = .ok (.iload_n 1, 1) := by decide +kernel
theorem dX11_image_30 : decode cX11_image 30 = .ok (.aaload, 1) := by decide +kernel
theorem dX11_image_31 : decode cX11_image 31 = .ok (.aload_n 0, 1) := by decide +kernel
theorem dX11_image_32 : decode cX11_image 32 = .ok (.getfield 33, 3) := by decide +kernel
theorem dX11_image_35 : decode cX11_image 35 = .ok (.invokevirtual 141, 3) := by decide +kernel
theorem dX11_image_38 : decode cX11_image 38 = .ok (.iconst 1, 1) := by decide +kernel
theorem dX11_image_39 : decode cX11_image 39 = .ok (.ireturn, 1) := by decide +kernel
theorem dX11_restore_0 : decode cX11_restore 0 = .ok (.iload_n 1, 1) := by decide +kernel
theorem dX11_restore_1 : decode cX11_restore 1 = .ok (.ifCond .lt 8, 3) := by decide +kernel
theorem dX11_restore_4 : decode cX11_restore 4 = .ok (.iload_n 1, 1) := by decide +kernel
theorem dX11_restore_5 : decode cX11_restore 5 = .ok (.iconst 2, 1) := by decide +kernel
theorem dX11_restore_6 : decode cX11_restore 6 = .ok (.if_icmp .lt 6, 3) := by decide +kernel
theorem dX11_restore_9 : decode cX11_restore 9 = .ok (.ldc 75, 2) := by decide +kernel
theorem dX11_restore_11 : decode cX11_restore 11 = .ok (.ireturn, 1) := by decide +kernel
theorem dX11_restore_12 : decode cX11_restore 12 = .ok (.aload_n 0, 1) := by decide +kernel
theorem dX11_restore_13 : decode cX11_restore 13 = .ok (.getfield 51, 3) := by decide +kernel
theorem dX11_restore_16 : decode cX11_restore 16 = .ok (.iload_n 1, 1) := by decide +kernel
theorem dX11_restore_17 : decode cX11_restore 17 = .ok (.aaload, 1) := by decide +kernel
theorem dX11_restore_18 : decode cX11_restore 18 = .ok (.invokevirtual 161, 3) := by decide +kernel
theorem dX11_restore_21 : decode cX11_restore 21 = .ok (.ifCond .ne 6, 3) := by decide +kernel
theorem dX11_restore_24 : decode cX11_restore 24 = .ok (.ldc 157, 2) := by decide +kernel
theorem dX11_restore_26 : decode cX11_restore 26 = .ok (.ireturn, 1) := by decide +kernel
theorem dX11_restore_27 : decode cX11_restore 27 = .ok (.aload_n 0, 1) := by decide +kernel
theorem dX11_restore_28 : decode cX11_restore 28 = .ok (.getfield 33, 3) := by decide +kernel
theorem dX11_restore_31 : decode cX11_restore 31 = .ok (.aload_n 0, 1) := by decide +kernel
theorem dX11_restore_32 : decode cX11_restore 32 = .ok (.getfield 51, 3) := by decide +kernel
theorem dX11_restore_35 : decode cX11_restore 35 = .ok (.iload_n 1, 1) := by decide +kernel
theorem dX11_restore_36 : decode cX11_restore 36 = .ok (.aaload, 1) := by decide +kernel
theorem dX11_restore_37 : decode cX11_restore 37 = .ok (.invokevirtual 141, 3) := by decide +kernel
theorem dX11_restore_40 : decode cX11_restore 40 = .ok (.aload_n 0, 1) := by decide +kernel
theorem dX11_restore_41 : decode cX11_restore 41 = .ok (.invokevirtual 145, 3) := by decide +kernel
theorem dX11_restore_44 : decode cX11_restore 44 = .ok (.iconst 1, 1) := by decide +kernel
theorem dX11_restore_45 : decode cX11_restore 45 = .ok (.ireturn, 1) := by decide +kernel
theorem dX11_kind_0 : decode cX11_kind 0 = .ok (.aload_n 0, 1) := by decide +kernel
theorem dX11_kind_1 : decode cX11_kind 1 = .ok (.getfield 33, 3) := by decide +kernel
theorem dX11_kind_4 : decode cX11_kind 4 = .ok (.iload_n 1, 1) := by decide +kernel
theorem dX11_kind_5 : decode cX11_kind 5 = .ok (.invokevirtual 213, 3) := by decide +kernel
theorem dX11_kind_8 : decode cX11_kind 8 = .ok (.astore_n 2, 1) := by decide +kernel
theorem dX11_kind_9 : decode cX11_kind 9 = .ok (.aload_n 2, 1) := by decide +kernel
theorem dX11_kind_10 : decode cX11_kind 10 = .ok (.ifnonnull 8, 3) := by decide +kernel
theorem dX11_kind_13 : decode cX11_kind 13 = .ok (.ldc 75, 2) := by decide +kernel
theorem dX11_kind_15 : decode cX11_kind 15 = .ok (.goto 7, 3) := by decide +kernel
theorem dX11_kind_18 : decode cX11_kind 18 = .ok (.aload_n 2, 1) := by decide +kernel
theorem dX11_kind_19 : decode cX11_kind 19 = .ok (.invokevirtual 319, 3) := by decide +kernel
theorem dX11_kind_22 : decode cX11_kind 22 = .ok (.ireturn, 1) := by decide +kernel
theorem dX11_as_0 : decode cX11_as 0 = .ok (.aload_n 0, 1) := by decide +kernel
theorem dX11_as_1 : decode cX11_as 1 = .ok (.getfield 33, 3) := by decide +kernel
theorem dX11_as_4 : decode cX11_as 4 = .ok (.iload_n 1, 1) := by decide +kernel
theorem dX11_as_5 : decode cX11_as 5 = .ok (.invokevirtual 213, 3) := by decide +kernel
theorem dX11_as_8 : decode cX11_as 8 = .ok (.astore_n 3, 1) := by decide +kernel
theorem dX11_as_9 : decode cX11_as 9 = .ok (.aload_n 3, 1) := by decide +kernel
theorem dX11_as_10 : decode cX11_as 10 = .ok (.ifnull 12, 3) := by decide +kernel
theorem dX11_as_13 : decode cX11_as 13 = .ok (.iload_n 2, 1) := by decide +kernel
theorem dX11_as_14 : decode cX11_as 14 = .ok (.ifCond .lt 8, 3) := by decide +kernel
theorem dX11_as_17 : decode cX11_as 17 = .ok (.iload_n 2, 1) := by decide +kernel
theorem dX11_as_18 : decode cX11_as 18 = .ok (.iconst 5, 1) := by decide +kernel
theorem dX11_as_19 : decode cX11_as 19 = .ok (.if_icmp .le 6, 3) := by decide +kernel
theorem dX11_as_22 : decode cX11_as 22 = .ok (.ldc 75, 2) := by decide +kernel
theorem dX11_as_24 : decode cX11_as 24 = .ok (.ireturn, 1) := by decide +kernel
theorem dX11_as_25 : decode cX11_as 25 = .ok (.aload_n 3, 1) := by decide +kernel
theorem dX11_as_26 : decode cX11_as 26 = .ok (.iload_n 2, 1) := by decide +kernel
theorem dX11_as_27 : decode cX11_as 27 = .ok (.invokevirtual 322, 3) := by decide +kernel
theorem dX11_as_30 : decode cX11_as 30 = .ok (.ifCond .eq 14, 3) := by decide +kernel
theorem dX11_as_33 : decode cX11_as 33 = .ok (.aload_n 0, 1) := by decide +kernel
theorem dX11_as_34 : decode cX11_as 34 = .ok (.aload_n 3, 1) := by decide +kernel
theorem dX11_as_35 : decode cX11_as 35 = .ok (.getfield 325, 3) := by decide +kernel
theorem dX11_as_38 : decode cX11_as 38 = .ok (.invokevirtual 84, 3) := by decide +kernel
theorem dX11_as_41 : decode cX11_as 41 = .ok (.goto 8, 3) := by decide +kernel
theorem dX11_as_44 : decode cX11_as 44 = .ok (.aload_n 0, 1) := by decide +kernel
theorem dX11_as_45 : decode cX11_as 45 = .ok (.iconst 3, 1) := by decide +kernel
theorem dX11_as_46 : decode cX11_as 46 = .ok (.invokevirtual 76, 3) := by decide +kernel
theorem dX11_as_49 : decode cX11_as 49 = .ok (.ireturn, 1) := by decide +kernel
theorem dX11_ask_0 : decode cX11_ask 0 = .ok (.aload_n 0, 1) := by decide +kernel
theorem dX11_ask_1 : decode cX11_ask 1 = .ok (.getfield 33, 3) := by decide +kernel
theorem dX11_ask_4 : decode cX11_ask 4 = .ok (.iload_n 1, 1) := by decide +kernel
theorem dX11_ask_5 : decode cX11_ask 5 = .ok (.invokevirtual 213, 3) := by decide +kernel
theorem dX11_ask_8 : decode cX11_ask 8 = .ok (.astore_n 3, 1) := by decide +kernel
theorem dX11_ask_9 : decode cX11_ask 9 = .ok (.aload_n 3, 1) := by decide +kernel
theorem dX11_ask_10 : decode cX11_ask 10 = .ok (.ifnull 23, 3) := by decide +kernel
theorem dX11_ask_13 : decode cX11_ask 13 = .ok (.aload_n 0, 1) := by decide +kernel
theorem dX11_ask_14 : decode cX11_ask 14 = .ok (.getfield 33, 3) := by decide +kernel
theorem dX11_ask_17 : decode cX11_ask 17 = .ok (.iload_n 1, 1) := by decide +kernel
theorem dX11_ask_18 : decode cX11_ask 18 = .ok (.invokevirtual 186, 3) := by decide +kernel
theorem dX11_ask_21 : decode cX11_ask 21 = .ok (.ifCond .ne 12, 3) := by decide +kernel
theorem dX11_ask_24 : decode cX11_ask 24 = .ok (.iload_n 2, 1) := by decide +kernel
theorem dX11_ask_25 : decode cX11_ask 25 = .ok (.ifCond .lt 8, 3) := by decide +kernel
theorem dX11_ask_28 : decode cX11_ask 28 = .ok (.iload_n 2, 1) := by decide +kernel
theorem dX11_ask_29 : decode cX11_ask 29 = .ok (.iconst 1, 1) := by decide +kernel
theorem dX11_ask_30 : decode cX11_ask 30 = .ok (.if_icmp .le 6, 3) := by decide +kernel
theorem dX11_ask_33 : decode cX11_ask 33 = .ok (.ldc 75, 2) := by decide +kernel
theorem dX11_ask_35 : decode cX11_ask 35 = .ok (.ireturn, 1) := by decide +kernel
theorem dX11_ask_36 : decode cX11_ask 36 = .ok (.aload_n 0, 1) := by decide +kernel
theorem dX11_ask_37 : decode cX11_ask 37 = .ok (.getfield 59, 3) := by decide +kernel
theorem dX11_ask_40 : decode cX11_ask 40 = .ok (.invokevirtual 148, 3) := by decide +kernel
theorem dX11_ask_43 : decode cX11_ask 43 = .ok (.aload_n 0, 1) := by decide +kernel
theorem dX11_ask_44 : decode cX11_ask 44 = .ok (.getfield 33, 3) := by decide +kernel
theorem dX11_ask_47 : decode cX11_ask 47 = .ok (.getfield 189, 3) := by decide +kernel
theorem dX11_ask_50 : decode cX11_ask 50 = .ok (.iload_n 1, 1) := by decide +kernel
theorem dX11_ask_51 : decode cX11_ask 51 = .ok (.iaload, 1) := by decide +kernel
theorem dX11_ask_52 : decode cX11_ask 52 = .ok (.istore 4, 2) := by decide +kernel
theorem dX11_ask_54 : decode cX11_ask 54 = .ok (.iload_n 2, 1) := by decide +kernel
theorem dX11_ask_55 : decode cX11_ask 55 = .ok (.ifCond .ne 16, 3) := by decide +kernel
theorem dX11_ask_58 : decode cX11_ask 58 = .ok (.aload_n 3, 1) := by decide +kernel
theorem dX11_ask_59 : decode cX11_ask 59 = .ok (.iload 4, 2) := by decide +kernel
theorem dX11_ask_61 : decode cX11_ask 61 = .ok (.aload_n 0, 1) := by decide +kernel
theorem dX11_ask_62 : decode cX11_ask 62 = .ok (.getfield 59, 3) := by decide +kernel
theorem dX11_ask_65 : decode cX11_ask 65 = .ok (.invokevirtual 328, 3) := by decide +kernel
theorem dX11_ask_68 : decode cX11_ask 68 = .ok (.goto 13, 3) := by decide +kernel
theorem dX11_ask_71 : decode cX11_ask 71 = .ok (.aload_n 3, 1) := by decide +kernel
theorem dX11_ask_72 : decode cX11_ask 72 = .ok (.iload 4, 2) := by decide +kernel
theorem dX11_ask_74 : decode cX11_ask 74 = .ok (.aload_n 0, 1) := by decide +kernel
theorem dX11_ask_75 : decode cX11_ask 75 = .ok (.getfield 59, 3) := by decide +kernel
theorem dX11_ask_78 : decode cX11_ask 78 = .ok (.invokevirtual 332, 3) := by decide +kernel
theorem dX11_ask_81 : decode cX11_ask 81 = .ok (.ireturn, 1) := by decide +kernel
theorem dX11_trace_0 : decode cX11_trace 0 = .ok (.aload_n 0, 1) := by decide +kernel
theorem dX11_trace_1 : decode cX11_trace 1 = .ok (.getfield 59, 3) := by decide +kernel
theorem dX11_trace_4 : decode cX11_trace 4 = .ok (.iload_n 1, 1) := by decide +kernel
theorem dX11_trace_5 : decode cX11_trace 5 = .ok (.invokevirtual 184, 3) := by decide +kernel
theorem dX11_trace_8 : decode cX11_trace 8 = .ok (.ireturn, 1) := by decide +kernel
theorem dX11_count_0 : decode cX11_count 0 = .ok (.iload_n 1, 1) := by decide +kernel
theorem dX11_count_1 : decode cX11_count 1 = .ok (.tableswitch 117 0 8 #[51, 56, 64, 72, 80, 88, 96, 104, 109], 51) := by decide +kernel
theorem dX11_count_52 : decode cX11_count 52 = .ok (.aload_n 0, 1) := by decide +kernel
theorem dX11_count_53 : decode cX11_count 53 = .ok (.invokevirtual 335, 3) := by decide +kernel
theorem dX11_count_56 : decode cX11_count 56 = .ok (.ireturn, 1) := by decide +kernel
theorem dX11_count_57 : decode cX11_count 57 = .ok (.aload_n 0, 1) := by decide +kernel
theorem dX11_count_58 : decode cX11_count 58 = .ok (.getfield 33, 3) := by decide +kernel
theorem dX11_count_61 : decode cX11_count 61 = .ok (.getfield 151, 3) := by decide +kernel
theorem dX11_count_64 : decode cX11_count 64 = .ok (.ireturn, 1) := by decide +kernel
theorem dX11_count_65 : decode cX11_count 65 = .ok (.aload_n 0, 1) := by decide +kernel
theorem dX11_count_66 : decode cX11_count 66 = .ok (.getfield 33, 3) := by decide +kernel
theorem dX11_count_69 : decode cX11_count 69 = .ok (.getfield 279, 3) := by decide +kernel
theorem dX11_count_72 : decode cX11_count 72 = .ok (.ireturn, 1) := by decide +kernel
theorem dX11_count_73 : decode cX11_count 73 = .ok (.aload_n 0, 1) := by decide +kernel
theorem dX11_count_74 : decode cX11_count 74 = .ok (.getfield 33, 3) := by decide +kernel
theorem dX11_count_77 : decode cX11_count 77 = .ok (.invokevirtual 197, 3) := by decide +kernel
theorem dX11_count_80 : decode cX11_count 80 = .ok (.ireturn, 1) := by decide +kernel
theorem dX11_count_81 : decode cX11_count 81 = .ok (.aload_n 0, 1) := by decide +kernel
theorem dX11_count_82 : decode cX11_count 82 = .ok (.getfield 33, 3) := by decide +kernel
theorem dX11_count_85 : decode cX11_count 85 = .ok (.getfield 338, 3) := by decide +kernel
theorem dX11_count_88 : decode cX11_count 88 = .ok (.ireturn, 1) := by decide +kernel
theorem dX11_count_89 : decode cX11_count 89 = .ok (.aload_n 0, 1) := by decide +kernel
theorem dX11_count_90 : decode cX11_count 90 = .ok (.getfield 33, 3) := by decide +kernel
theorem dX11_count_93 : decode cX11_count 93 = .ok (.invokevirtual 341, 3) := by decide +kernel
theorem dX11_count_96 : decode cX11_count 96 = .ok (.ireturn, 1) := by decide +kernel
theorem dX11_count_97 : decode cX11_count 97 = .ok (.aload_n 0, 1) := by decide +kernel
theorem dX11_count_98 : decode cX11_count 98 = .ok (.getfield 38, 3) := by decide +kernel
theorem dX11_count_101 : decode cX11_count 101 = .ok (.getfield 344, 3) := by decide +kernel
theorem dX11_count_104 : decode cX11_count 104 = .ok (.ireturn, 1) := by decide +kernel
theorem dX11_count_105 : decode cX11_count 105 = .ok (.aload_n 0, 1) := by decide +kernel
theorem dX11_count_106 : decode cX11_count 106 = .ok (.getfield 154, 3) := by decide +kernel
theorem dX11_count_109 : decode cX11_count 109 = .ok (.ireturn, 1) := by decide +kernel
theorem dX11_count_110 : decode cX11_count 110 = .ok (.aload_n 0, 1) := by decide +kernel
theorem dX11_count_111 : decode cX11_count 111 = .ok (.getfield 18, 3) := by decide +kernel
theorem dX11_count_114 : decode cX11_count 114 = .ok (.getfield 345, 3) := by decide +kernel
theorem dX11_count_117 : decode cX11_count 117 = .ok (.ireturn, 1) := by decide +kernel
theorem dX11_count_118 : decode cX11_count 118 = .ok (.ldc 75, 2) := by decide +kernel
theorem dX11_count_120 : decode cX11_count 120 = .ok (.ireturn, 1) := by decide +kernel
theorem dX11_status_0 : decode cX11_status 0 = .ok (.aload_n 0, 1) := by decide +kernel
theorem dX11_status_1 : decode cX11_status 1 = .ok (.getfield 346, 3) := by decide +kernel
theorem dX11_status_4 : decode cX11_status 4 = .ok (.ireturn, 1) := by decide +kernel
theorem dX11_found_0 : decode cX11_found 0 = .ok (.aload_n 0, 1) := by decide +kernel
theorem dX11_found_1 : decode cX11_found 1 = .ok (.iload_n 1, 1) := by decide +kernel
theorem dX11_found_2 : decode cX11_found 2 = .ok (.putfield 346, 3) := by decide +kernel
theorem dX11_found_5 : decode cX11_found 5 = .ok (.ldc_w 349, 3) := by decide +kernel
theorem dX11_found_8 : decode cX11_found 8 = .ok (.iload_n 1, 1) := by decide +kernel
theorem dX11_found_9 : decode cX11_found 9 = .ok (.isub, 1) := by decide +kernel
theorem dX11_found_10 : decode cX11_found 10 = .ok (.ireturn, 1) := by decide +kernel
theorem dX11_well_0 : decode cX11_well 0 = .ok (.aload_n 0, 1) := by decide +kernel
theorem dX11_well_1 : decode cX11_well 1 = .ok (.iconst 0, 1) := by decide +kernel
theorem dX11_well_2 : decode cX11_well 2 = .ok (.putfield 346, 3) := by decide +kernel
theorem dX11_well_5 : decode cX11_well 5 = .ok (.iload_n 1, 1) := by decide +kernel
theorem dX11_well_6 : decode cX11_well 6 = .ok (.ireturn, 1) := by decide +kernel
theorem dX11_lacksRow_0 : decode cX11_lacksRow 0 = .ok (.iload_n 0, 1) := by decide +kernel
theorem dX11_lacksRow_1 : decode cX11_lacksRow 1 = .ok (.ifCond .lt 9, 3) := by decide +kernel
theorem dX11_lacksRow_4 : decode cX11_lacksRow 4 = .ok (.iload_n 0, 1) := by decide +kernel
theorem dX11_lacksRow_5 : decode cX11_lacksRow 5 = .ok (.bipush 8, 2) := by decide +kernel
theorem dX11_lacksRow_7 : decode cX11_lacksRow 7 = .ok (.if_icmp .lt 7, 3) := by decide +kernel
theorem dX11_lacksRow_10 : decode cX11_lacksRow 10 = .ok (.iconst 1, 1) := by decide +kernel
theorem dX11_lacksRow_11 : decode cX11_lacksRow 11 = .ok (.goto 4, 3) := by decide +kernel
theorem dX11_lacksRow_14 : decode cX11_lacksRow 14 = .ok (.iconst 0, 1) := by decide +kernel
theorem dX11_lacksRow_15 : decode cX11_lacksRow 15 = .ok (.ireturn, 1) := by decide +kernel
theorem dX11_isBadRoute_0 : decode cX11_isBadRoute 0 = .ok (.iload_n 0, 1) := by decide +kernel
theorem dX11_isBadRoute_1 : decode cX11_isBadRoute 1 = .ok (.invokestatic 71, 3) := by decide +kernel
theorem dX11_isBadRoute_4 : decode cX11_isBadRoute 4 = .ok (.ifCond .ne 13, 3) := by decide +kernel
theorem dX11_isBadRoute_7 : decode cX11_isBadRoute 7 = .ok (.iload_n 1, 1) := by decide +kernel
theorem dX11_isBadRoute_8 : decode cX11_isBadRoute 8 = .ok (.ifCond .lt 9, 3) := by decide +kernel
theorem dX11_isBadRoute_11 : decode cX11_isBadRoute 11 = .ok (.iload_n 1, 1) := by decide +kernel
theorem dX11_isBadRoute_12 : decode cX11_isBadRoute 12 = .ok (.bipush 8, 2) := by decide +kernel
theorem dX11_isBadRoute_14 : decode cX11_isBadRoute 14 = .ok (.if_icmp .le 7, 3) := by decide +kernel
theorem dX11_isBadRoute_17 : decode cX11_isBadRoute 17 = .ok (.iconst 1, 1) := by decide +kernel
theorem dX11_isBadRoute_18 : decode cX11_isBadRoute 18 = .ok (.goto 4, 3) := by decide +kernel
theorem dX11_isBadRoute_21 : decode cX11_isBadRoute 21 = .ok (.iconst 0, 1) := by decide +kernel
theorem dX11_isBadRoute_22 : decode cX11_isBadRoute 22 = .ok (.ireturn, 1) := by decide +kernel
theorem dX11_lackOfRoute_0 : decode cX11_lackOfRoute 0 = .ok (.iload_n 1, 1) := by decide +kernel
theorem dX11_lackOfRoute_1 : decode cX11_lackOfRoute 1 = .ok (.invokestatic 71, 3) := by decide +kernel
theorem dX11_lackOfRoute_4 : decode cX11_lackOfRoute 4 = .ok (.ifCond .ne 15, 3) := by decide +kernel
theorem dX11_lackOfRoute_7 : decode cX11_lackOfRoute 7 = .ok (.aload_n 0, 1) := by decide +kernel
theorem dX11_lackOfRoute_8 : decode cX11_lackOfRoute 8 = .ok (.getfield 11, 3) := by decide +kernel
theorem dX11_lackOfRoute_11 : decode cX11_lackOfRoute 11 = .ok (.iload_n 1, 1) := by decide +kernel
theorem dX11_lackOfRoute_12 : decode cX11_lackOfRoute 12 = .ok (.aaload, 1) := by decide +kernel
theorem dX11_lackOfRoute_13 : decode cX11_lackOfRoute 13 = .ok (.invokevirtual 87, 3) := by decide +kernel
theorem dX11_lackOfRoute_16 : decode cX11_lackOfRoute 16 = .ok (.ifCond .eq 5, 3) := by decide +kernel
theorem dX11_lackOfRoute_19 : decode cX11_lackOfRoute 19 = .ok (.iconst 1, 1) := by decide +kernel
theorem dX11_lackOfRoute_20 : decode cX11_lackOfRoute 20 = .ok (.ireturn, 1) := by decide +kernel
theorem dX11_lackOfRoute_21 : decode cX11_lackOfRoute 21 = .ok (.aload_n 0, 1) := by decide +kernel
theorem dX11_lackOfRoute_22 : decode cX11_lackOfRoute 22 = .ok (.getfield 11, 3) := by decide +kernel
theorem dX11_lackOfRoute_25 : decode cX11_lackOfRoute 25 = .ok (.iload_n 1, 1) := by decide +kernel
theorem dX11_lackOfRoute_26 : decode cX11_lackOfRoute 26 = .ok (.aaload, 1) := by decide +kernel
theorem dX11_lackOfRoute_27 : decode cX11_lackOfRoute 27 = .ok (.iload_n 2, 1) := by decide +kernel
theorem dX11_lackOfRoute_28 : decode cX11_lackOfRoute 28 = .ok (.iload_n 3, 1) := by decide +kernel
theorem dX11_lackOfRoute_29 : decode cX11_lackOfRoute 29 = .ok (.invokevirtual 91, 3) := by decide +kernel
theorem dX11_lackOfRoute_32 : decode cX11_lackOfRoute 32 = .ok (.ifCond .eq 7, 3) := by decide +kernel
theorem dX11_lackOfRoute_35 : decode cX11_lackOfRoute 35 = .ok (.iconst 0, 1) := by decide +kernel
theorem dX11_lackOfRoute_36 : decode cX11_lackOfRoute 36 = .ok (.goto 4, 3) := by decide +kernel
theorem dX11_lackOfRoute_39 : decode cX11_lackOfRoute 39 = .ok (.iconst 2, 1) := by decide +kernel
theorem dX11_lackOfRoute_40 : decode cX11_lackOfRoute 40 = .ok (.ireturn, 1) := by decide +kernel
theorem dX11_isRule_0 : decode cX11_isRule 0 = .ok (.iload_n 0, 1) := by decide +kernel
theorem dX11_isRule_1 : decode cX11_isRule 1 = .ok (.tableswitch 77 0 2 #[27, 43, 60], 27) := by decide +kernel
theorem dX11_isRule_28 : decode cX11_isRule 28 = .ok (.iload_n 1, 1) := by decide +kernel
theorem dX11_isRule_29 : decode cX11_isRule 29 = .ok (.ifCond .lt 13, 3) := by decide +kernel
theorem dX11_isRule_32 : decode cX11_isRule 32 = .ok (.iload_n 1, 1) := by decide +kernel
theorem dX11_isRule_33 : decode cX11_isRule 33 = .ok (.bipush 63, 2) := by decide +kernel
theorem dX11_isRule_35 : decode cX11_isRule 35 = .ok (.if_icmp .gt 7, 3) := by decide +kernel
theorem dX11_isRule_38 : decode cX11_isRule 38 = .ok (.iconst 1, 1) := by decide +kernel
theorem dX11_isRule_39 : decode cX11_isRule 39 = .ok (.goto 4, 3) := by decide +kernel
theorem dX11_isRule_42 : decode cX11_isRule 42 = .ok (.iconst 0, 1) := by decide +kernel
theorem dX11_isRule_43 : decode cX11_isRule 43 = .ok (.ireturn, 1) := by decide +kernel
theorem dX11_isRule_44 : decode cX11_isRule 44 = .ok (.iload_n 1, 1) := by decide +kernel
theorem dX11_isRule_45 : decode cX11_isRule 45 = .ok (.iconst 1, 1) := by decide +kernel
theorem dX11_isRule_46 : decode cX11_isRule 46 = .ok (.if_icmp .lt 13, 3) := by decide +kernel
theorem dX11_isRule_49 : decode cX11_isRule 49 = .ok (.iload_n 1, 1) := by decide +kernel
theorem dX11_isRule_50 : decode cX11_isRule 50 = .ok (.bipush 9, 2) := by decide +kernel
theorem dX11_isRule_52 : decode cX11_isRule 52 = .ok (.if_icmp .gt 7, 3) := by decide +kernel
theorem dX11_isRule_55 : decode cX11_isRule 55 = .ok (.iconst 1, 1) := by decide +kernel
theorem dX11_isRule_56 : decode cX11_isRule 56 = .ok (.goto 4, 3) := by decide +kernel
theorem dX11_isRule_59 : decode cX11_isRule 59 = .ok (.iconst 0, 1) := by decide +kernel
theorem dX11_isRule_60 : decode cX11_isRule 60 = .ok (.ireturn, 1) := by decide +kernel
theorem dX11_isRule_61 : decode cX11_isRule 61 = .ok (.iload_n 1, 1) := by decide +kernel
theorem dX11_isRule_62 : decode cX11_isRule 62 = .ok (.iconst 1, 1) := by decide +kernel
theorem dX11_isRule_63 : decode cX11_isRule 63 = .ok (.if_icmp .lt 13, 3) := by decide +kernel
theorem dX11_isRule_66 : decode cX11_isRule 66 = .ok (.iload_n 1, 1) := by decide +kernel
theorem dX11_isRule_67 : decode cX11_isRule 67 = .ok (.bipush 60, 2) := by decide +kernel
theorem dX11_isRule_69 : decode cX11_isRule 69 = .ok (.if_icmp .gt 7, 3) := by decide +kernel
theorem dX11_isRule_72 : decode cX11_isRule 72 = .ok (.iconst 1, 1) := by decide +kernel
theorem dX11_isRule_73 : decode cX11_isRule 73 = .ok (.goto 4, 3) := by decide +kernel
theorem dX11_isRule_76 : decode cX11_isRule 76 = .ok (.iconst 0, 1) := by decide +kernel
theorem dX11_isRule_77 : decode cX11_isRule 77 = .ok (.ireturn, 1) := by decide +kernel
theorem dX11_isRule_78 : decode cX11_isRule 78 = .ok (.iconst 0, 1) := by decide +kernel
theorem dX11_isRule_79 : decode cX11_isRule 79 = .ok (.ireturn, 1) := by decide +kernel
theorem dX11_isOutcome_0 : decode cX11_isOutcome 0 = .ok (.iload_n 0, 1) := by decide +kernel
theorem dX11_isOutcome_1 : decode cX11_isOutcome 1 = .ok (.ifCond .lt 10, 3) := by decide +kernel
theorem dX11_isOutcome_4 : decode cX11_isOutcome 4 = .ok (.iload_n 0, 1) := by decide +kernel
theorem dX11_isOutcome_5 : decode cX11_isOutcome 5 = .ok (.sipush 160, 3) := by decide +kernel
theorem dX11_isOutcome_8 : decode cX11_isOutcome 8 = .ok (.if_icmp .le 17, 3) := by decide +kernel
theorem dX11_isOutcome_11 : decode cX11_isOutcome 11 = .ok (.iload_n 0, 1) := by decide +kernel
theorem dX11_isOutcome_12 : decode cX11_isOutcome 12 = .ok (.sipush 1006, 3) := by decide +kernel
theorem dX11_isOutcome_15 : decode cX11_isOutcome 15 = .ok (.if_icmp .lt 14, 3) := by decide +kernel
theorem dX11_isOutcome_18 : decode cX11_isOutcome 18 = .ok (.iload_n 0, 1) := by decide +kernel
theorem dX11_isOutcome_19 : decode cX11_isOutcome 19 = .ok (.sipush 1011, 3) := by decide +kernel
theorem dX11_isOutcome_22 : decode cX11_isOutcome 22 = .ok (.if_icmp .gt 7, 3) := by decide +kernel
theorem dX11_isOutcome_25 : decode cX11_isOutcome 25 = .ok (.iconst 1, 1) := by decide +kernel
theorem dX11_isOutcome_26 : decode cX11_isOutcome 26 = .ok (.goto 4, 3) := by decide +kernel
theorem dX11_isOutcome_29 : decode cX11_isOutcome 29 = .ok (.iconst 0, 1) := by decide +kernel
theorem dX11_isOutcome_30 : decode cX11_isOutcome 30 = .ok (.ireturn, 1) := by decide +kernel
theorem dX11_rowsThere_0 : decode cX11_rowsThere 0 = .ok (.iconst 0, 1) := by decide +kernel
theorem dX11_rowsThere_1 : decode cX11_rowsThere 1 = .ok (.istore_n 1, 1) := by decide +kernel
theorem dX11_rowsThere_2 : decode cX11_rowsThere 2 = .ok (.iconst 0, 1) := by decide +kernel
theorem dX11_rowsThere_3 : decode cX11_rowsThere 3 = .ok (.istore_n 2, 1) := by decide +kernel
theorem dX11_rowsThere_4 : decode cX11_rowsThere 4 = .ok (.iload_n 2, 1) := by decide +kernel
theorem dX11_rowsThere_5 : decode cX11_rowsThere 5 = .ok (.aload_n 0, 1) := by decide +kernel
theorem dX11_rowsThere_6 : decode cX11_rowsThere 6 = .ok (.getfield 11, 3) := by decide +kernel
theorem dX11_rowsThere_9 : decode cX11_rowsThere 9 = .ok (.arraylength, 1) := by decide +kernel
theorem dX11_rowsThere_10 : decode cX11_rowsThere 10 = .ok (.if_icmp .ge 24, 3) := by decide +kernel
theorem dX11_rowsThere_13 : decode cX11_rowsThere 13 = .ok (.aload_n 0, 1) := by decide +kernel
theorem dX11_rowsThere_14 : decode cX11_rowsThere 14 = .ok (.getfield 11, 3) := by decide +kernel
theorem dX11_rowsThere_17 : decode cX11_rowsThere 17 = .ok (.iload_n 2, 1) := by decide +kernel
theorem dX11_rowsThere_18 : decode cX11_rowsThere 18 = .ok (.aaload, 1) := by decide +kernel
theorem dX11_rowsThere_19 : decode cX11_rowsThere 19 = .ok (.invokevirtual 87, 3) := by decide +kernel
theorem dX11_rowsThere_22 : decode cX11_rowsThere 22 = .ok (.ifCond .ne 6, 3) := by decide +kernel
theorem dX11_rowsThere_25 : decode cX11_rowsThere 25 = .ok (.iinc 1 1, 3) := by decide +kernel
theorem dX11_rowsThere_28 : decode cX11_rowsThere 28 = .ok (.iinc 2 1, 3) := by decide +kernel
theorem dX11_rowsThere_31 : decode cX11_rowsThere 31 = .ok (.goto (-27), 3) := by decide +kernel
theorem dX11_rowsThere_34 : decode cX11_rowsThere 34 = .ok (.iload_n 1, 1) := by decide +kernel
theorem dX11_rowsThere_35 : decode cX11_rowsThere 35 = .ok (.ireturn, 1) := by decide +kernel
theorem dX11_keepAct_0 : decode cX11_keepAct 0 = .ok (.aload_n 0, 1) := by decide +kernel
theorem dX11_keepAct_1 : decode cX11_keepAct 1 = .ok (.getfield 47, 3) := by decide +kernel
theorem dX11_keepAct_4 : decode cX11_keepAct 4 = .ok (.aload_n 0, 1) := by decide +kernel
theorem dX11_keepAct_5 : decode cX11_keepAct 5 = .ok (.getfield 158, 3) := by decide +kernel
theorem dX11_keepAct_8 : decode cX11_keepAct 8 = .ok (.aload_n 0, 1) := by decide +kernel
theorem dX11_keepAct_9 : decode cX11_keepAct 9 = .ok (.getfield 154, 3) := by decide +kernel
theorem dX11_keepAct_12 : decode cX11_keepAct 12 = .ok (.iadd, 1) := by decide +kernel
theorem dX11_keepAct_13 : decode cX11_keepAct 13 = .ok (.bipush 24, 2) := by decide +kernel
theorem dX11_keepAct_15 : decode cX11_keepAct 15 = .ok (.irem, 1) := by decide +kernel
theorem dX11_keepAct_16 : decode cX11_keepAct 16 = .ok (.aaload, 1) := by decide +kernel
theorem dX11_keepAct_17 : decode cX11_keepAct 17 = .ok (.aload_n 0, 1) := by decide +kernel
theorem dX11_keepAct_18 : decode cX11_keepAct 18 = .ok (.getfield 33, 3) := by decide +kernel
theorem dX11_keepAct_21 : decode cX11_keepAct 21 = .ok (.invokevirtual 141, 3) := by decide +kernel
theorem dX11_keepAct_24 : decode cX11_keepAct 24 = .ok (.aload_n 0, 1) := by decide +kernel
theorem dX11_keepAct_25 : decode cX11_keepAct 25 = .ok (.getfield 154, 3) := by decide +kernel
theorem dX11_keepAct_28 : decode cX11_keepAct 28 = .ok (.bipush 24, 2) := by decide +kernel
theorem dX11_keepAct_30 : decode cX11_keepAct 30 = .ok (.if_icmp .ge 16, 3) := by decide +kernel
theorem dX11_keepAct_33 : decode cX11_keepAct 33 = .ok (.aload_n 0, 1) := by decide +kernel
theorem dX11_keepAct_34 : decode cX11_keepAct 34 = .ok (.dup, 1) := by decide +kernel
theorem dX11_keepAct_35 : decode cX11_keepAct 35 = .ok (.getfield 154, 3) := by decide +kernel
theorem dX11_keepAct_38 : decode cX11_keepAct 38 = .ok (.iconst 1, 1) := by decide +kernel
theorem dX11_keepAct_39 : decode cX11_keepAct 39 = .ok (.iadd, 1) := by decide +kernel
theorem dX11_keepAct_40 : decode cX11_keepAct 40 = .ok (.putfield 154, 3) := by decide +kernel
theorem dX11_keepAct_43 : decode cX11_keepAct 43 = .ok (.goto 16, 3) := by decide +kernel
theorem dX11_keepAct_46 : decode cX11_keepAct 46 = .ok (.aload_n 0, 1) := by decide +kernel
theorem dX11_keepAct_47 : decode cX11_keepAct 47 = .ok (.aload_n 0, 1) := by decide +kernel
theorem dX11_keepAct_48 : decode cX11_keepAct 48 = .ok (.getfield 158, 3) := by decide +kernel
theorem dX11_keepAct_51 : decode cX11_keepAct 51 = .ok (.iconst 1, 1) := by decide +kernel
theorem dX11_keepAct_52 : decode cX11_keepAct 52 = .ok (.iadd, 1) := by decide +kernel
theorem dX11_keepAct_53 : decode cX11_keepAct 53 = .ok (.bipush 24, 2) := by decide +kernel
theorem dX11_keepAct_55 : decode cX11_keepAct 55 = .ok (.irem, 1) := by decide +kernel
theorem dX11_keepAct_56 : decode cX11_keepAct 56 = .ok (.putfield 158, 3) := by decide +kernel
theorem dX11_keepAct_59 : decode cX11_keepAct 59 = .ok (.return_, 1) := by decide +kernel
theorem dX11_forgetActs_0 : decode cX11_forgetActs 0 = .ok (.aload_n 0, 1) := by decide +kernel
theorem dX11_forgetActs_1 : decode cX11_forgetActs 1 = .ok (.iconst 0, 1) := by decide +kernel
theorem dX11_forgetActs_2 : decode cX11_forgetActs 2 = .ok (.putfield 154, 3) := by decide +kernel
theorem dX11_forgetActs_5 : decode cX11_forgetActs 5 = .ok (.return_, 1) := by decide +kernel
theorem dX11_foretell_0 : decode cX11_foretell 0 = .ok (.aload_n 0, 1) := by decide +kernel
theorem dX11_foretell_1 : decode cX11_foretell 1 = .ok (.getfield 42, 3) := by decide +kernel
theorem dX11_foretell_4 : decode cX11_foretell 4 = .ok (.aload_n 0, 1) := by decide +kernel
theorem dX11_foretell_5 : decode cX11_foretell 5 = .ok (.getfield 33, 3) := by decide +kernel
theorem dX11_foretell_8 : decode cX11_foretell 8 = .ok (.invokevirtual 141, 3) := by decide +kernel
theorem dX11_foretell_11 : decode cX11_foretell 11 = .ok (.aload_n 0, 1) := by decide +kernel
theorem dX11_foretell_12 : decode cX11_foretell 12 = .ok (.getfield 39, 3) := by decide +kernel
theorem dX11_foretell_15 : decode cX11_foretell 15 = .ok (.aload_n 1, 1) := by decide +kernel
theorem dX11_foretell_16 : decode cX11_foretell 16 = .ok (.iload_n 2, 1) := by decide +kernel
theorem dX11_foretell_17 : decode cX11_foretell 17 = .ok (.iload_n 3, 1) := by decide +kernel
theorem dX11_foretell_18 : decode cX11_foretell 18 = .ok (.invokevirtual 174, 3) := by decide +kernel
theorem dX11_foretell_21 : decode cX11_foretell 21 = .ok (.return_, 1) := by decide +kernel
theorem dX11_findWay_0 : decode cX11_findWay 0 = .ok (.iload_n 3, 1) := by decide +kernel
theorem dX11_findWay_1 : decode cX11_findWay 1 = .ok (.iload 4, 2) := by decide +kernel
theorem dX11_findWay_3 : decode cX11_findWay 3 = .ok (.if_icmp .ge 12, 3) := by decide +kernel
theorem dX11_findWay_6 : decode cX11_findWay 6 = .ok (.iload_n 3, 1) := by decide +kernel
theorem dX11_findWay_7 : decode cX11_findWay 7 = .ok (.aload_n 0, 1) := by decide +kernel
theorem dX11_findWay_8 : decode cX11_findWay 8 = .ok (.getfield 65, 3) := by decide +kernel
theorem dX11_findWay_11 : decode cX11_findWay 11 = .ok (.arraylength, 1) := by decide +kernel
theorem dX11_findWay_12 : decode cX11_findWay 12 = .ok (.if_icmp .lt 36, 3) := by decide +kernel
theorem dX11_findWay_15 : decode cX11_findWay 15 = .ok (.iload_n 1, 1) := by decide +kernel
theorem dX11_findWay_16 : decode cX11_findWay 16 = .ok (.iload_n 2, 1) := by decide +kernel
theorem dX11_findWay_17 : decode cX11_findWay 17 = .ok (.if_icmp .eq 5, 3) := by decide +kernel
theorem dX11_findWay_20 : decode cX11_findWay 20 = .ok (.iconst 0, 1) := by decide +kernel
theorem dX11_findWay_21 : decode cX11_findWay 21 = .ok (.ireturn, 1) := by decide +kernel
theorem dX11_findWay_22 : decode cX11_findWay 22 = .ok (.aload_n 0, 1) := by decide +kernel
theorem dX11_findWay_23 : decode cX11_findWay 23 = .ok (.aload_n 0, 1) := by decide +kernel
theorem dX11_findWay_24 : decode cX11_findWay 24 = .ok (.getfield 65, 3) := by decide +kernel
theorem dX11_findWay_27 : decode cX11_findWay 27 = .ok (.iconst 0, 1) := by decide +kernel
theorem dX11_findWay_28 : decode cX11_findWay 28 = .ok (.iload_n 3, 1) := by decide +kernel
theorem dX11_findWay_29 : decode cX11_findWay 29 = .ok (.invokevirtual 237, 3) := by decide +kernel
theorem dX11_findWay_32 : decode cX11_findWay 32 = .ok (.aload_n 0, 1) := by decide +kernel
theorem dX11_findWay_33 : decode cX11_findWay 33 = .ok (.getfield 39, 3) := by decide +kernel
theorem dX11_findWay_36 : decode cX11_findWay 36 = .ok (.getfield 178, 3) := by decide +kernel
theorem dX11_findWay_39 : decode cX11_findWay 39 = .ok (.ifCond .ne 7, 3) := by decide +kernel
theorem dX11_findWay_42 : decode cX11_findWay 42 = .ok (.iconst 1, 1) := by decide +kernel
theorem dX11_findWay_43 : decode cX11_findWay 43 = .ok (.goto 4, 3) := by decide +kernel
theorem dX11_findWay_46 : decode cX11_findWay 46 = .ok (.iconst 0, 1) := by decide +kernel
theorem dX11_findWay_47 : decode cX11_findWay 47 = .ok (.ireturn, 1) := by decide +kernel
theorem dX11_findWay_48 : decode cX11_findWay 48 = .ok (.iconst 0, 1) := by decide +kernel
theorem dX11_findWay_49 : decode cX11_findWay 49 = .ok (.istore 5, 2) := by decide +kernel
theorem dX11_findWay_51 : decode cX11_findWay 51 = .ok (.iload 5, 2) := by decide +kernel
theorem dX11_findWay_53 : decode cX11_findWay 53 = .ok (.aload_n 0, 1) := by decide +kernel
theorem dX11_findWay_54 : decode cX11_findWay 54 = .ok (.getfield 33, 3) := by decide +kernel
theorem dX11_findWay_57 : decode cX11_findWay 57 = .ok (.getfield 151, 3) := by decide +kernel
theorem dX11_findWay_60 : decode cX11_findWay 60 = .ok (.if_icmp .ge 63, 3) := by decide +kernel
theorem dX11_findWay_63 : decode cX11_findWay 63 = .ok (.aload_n 0, 1) := by decide +kernel
theorem dX11_findWay_64 : decode cX11_findWay 64 = .ok (.getfield 33, 3) := by decide +kernel
theorem dX11_findWay_67 : decode cX11_findWay 67 = .ok (.iload 5, 2) := by decide +kernel
theorem dX11_findWay_69 : decode cX11_findWay 69 = .ok (.invokevirtual 213, 3) := by decide +kernel
theorem dX11_findWay_72 : decode cX11_findWay 72 = .ok (.astore 6, 2) := by decide +kernel
theorem dX11_findWay_74 : decode cX11_findWay 74 = .ok (.aload 6, 2) := by decide +kernel
theorem dX11_findWay_76 : decode cX11_findWay 76 = .ok (.ifnull 41, 3) := by decide +kernel
theorem dX11_findWay_79 : decode cX11_findWay 79 = .ok (.aload 6, 2) := by decide +kernel
theorem dX11_findWay_81 : decode cX11_findWay 81 = .ok (.iload_n 1, 1) := by decide +kernel
theorem dX11_findWay_82 : decode cX11_findWay 82 = .ok (.invokevirtual 350, 3) := by decide +kernel
theorem dX11_findWay_85 : decode cX11_findWay 85 = .ok (.ifCond .eq 32, 3) := by decide +kernel
theorem dX11_findWay_88 : decode cX11_findWay 88 = .ok (.aload_n 0, 1) := by decide +kernel
theorem dX11_findWay_89 : decode cX11_findWay 89 = .ok (.getfield 65, 3) := by decide +kernel
theorem dX11_findWay_92 : decode cX11_findWay 92 = .ok (.iload_n 3, 1) := by decide +kernel
theorem dX11_findWay_93 : decode cX11_findWay 93 = .ok (.iload 5, 2) := by decide +kernel
theorem dX11_findWay_95 : decode cX11_findWay 95 = .ok (.iastore, 1) := by decide +kernel
theorem dX11_findWay_96 : decode cX11_findWay 96 = .ok (.aload_n 0, 1) := by decide +kernel
theorem dX11_findWay_97 : decode cX11_findWay 97 = .ok (.aload 6, 2) := by decide +kernel
theorem dX11_findWay_99 : decode cX11_findWay 99 = .ok (.iload_n 1, 1) := by decide +kernel
theorem dX11_findWay_100 : decode cX11_findWay 100 = .ok (.invokevirtual 353, 3) := by decide +kernel
theorem dX11_findWay_103 : decode cX11_findWay 103 = .ok (.iload_n 2, 1) := by decide +kernel
theorem dX11_findWay_104 : decode cX11_findWay 104 = .ok (.iload_n 3, 1) := by decide +kernel
theorem dX11_findWay_105 : decode cX11_findWay 105 = .ok (.iconst 1, 1) := by decide +kernel
theorem dX11_findWay_106 : decode cX11_findWay 106 = .ok (.iadd, 1) := by decide +kernel
theorem dX11_findWay_107 : decode cX11_findWay 107 = .ok (.iload 4, 2) := by decide +kernel
theorem dX11_findWay_109 : decode cX11_findWay 109 = .ok (.invokevirtual 255, 3) := by decide +kernel
theorem dX11_findWay_112 : decode cX11_findWay 112 = .ok (.ifCond .eq 5, 3) := by decide +kernel
theorem dX11_findWay_115 : decode cX11_findWay 115 = .ok (.iconst 1, 1) := by decide +kernel
theorem dX11_findWay_116 : decode cX11_findWay 116 = .ok (.ireturn, 1) := by decide +kernel
theorem dX11_findWay_117 : decode cX11_findWay 117 = .ok (.iinc 5 1, 3) := by decide +kernel
theorem dX11_findWay_120 : decode cX11_findWay 120 = .ok (.goto (-69), 3) := by decide +kernel
theorem dX11_findWay_123 : decode cX11_findWay 123 = .ok (.iconst 0, 1) := by decide +kernel
theorem dX11_findWay_124 : decode cX11_findWay 124 = .ok (.ireturn, 1) := by decide +kernel
theorem dX11_playTurns_0 : decode cX11_playTurns 0 = .ok (.iload_n 1, 1) := by decide +kernel
theorem dX11_playTurns_1 : decode cX11_playTurns 1 = .ok (.iload_n 2, 1) := by decide +kernel
theorem dX11_playTurns_2 : decode cX11_playTurns 2 = .ok (.if_icmp .ge 12, 3) := by decide +kernel
theorem dX11_playTurns_5 : decode cX11_playTurns 5 = .ok (.iload_n 1, 1) := by decide +kernel
theorem dX11_playTurns_6 : decode cX11_playTurns 6 = .ok (.aload_n 0, 1) := by decide +kernel
theorem dX11_playTurns_7 : decode cX11_playTurns 7 = .ok (.getfield 62, 3) := by decide +kernel
theorem dX11_playTurns_10 : decode cX11_playTurns 10 = .ok (.arraylength, 1) := by decide +kernel
theorem dX11_playTurns_11 : decode cX11_playTurns 11 = .ok (.if_icmp .lt 5, 3) := by decide +kernel
theorem dX11_playTurns_14 : decode cX11_playTurns 14 = .ok (.iconst 0, 1) := by decide +kernel
theorem dX11_playTurns_15 : decode cX11_playTurns 15 = .ok (.ireturn, 1) := by decide +kernel
theorem dX11_playTurns_16 : decode cX11_playTurns 16 = .ok (.aload_n 0, 1) := by decide +kernel
theorem dX11_playTurns_17 : decode cX11_playTurns 17 = .ok (.getfield 62, 3) := by decide +kernel
theorem dX11_playTurns_20 : decode cX11_playTurns 20 = .ok (.iload_n 1, 1) := by decide +kernel
theorem dX11_playTurns_21 : decode cX11_playTurns 21 = .ok (.aaload, 1) := by decide +kernel
theorem dX11_playTurns_22 : decode cX11_playTurns 22 = .ok (.astore_n 3, 1) := by decide +kernel
theorem dX11_playTurns_23 : decode cX11_playTurns 23 = .ok (.aload_n 3, 1) := by decide +kernel
theorem dX11_playTurns_24 : decode cX11_playTurns 24 = .ok (.aload_n 0, 1) := by decide +kernel
theorem dX11_playTurns_25 : decode cX11_playTurns 25 = .ok (.getfield 42, 3) := by decide +kernel
theorem dX11_playTurns_28 : decode cX11_playTurns 28 = .ok (.invokevirtual 141, 3) := by decide +kernel
theorem dX11_playTurns_31 : decode cX11_playTurns 31 = .ok (.iload_n 1, 1) := by decide +kernel
theorem dX11_playTurns_32 : decode cX11_playTurns 32 = .ok (.iconst 2, 1) := by decide +kernel
theorem dX11_playTurns_33 : decode cX11_playTurns 33 = .ok (.irem, 1) := by decide +kernel
theorem dX11_playTurns_34 : decode cX11_playTurns 34 = .ok (.ifCond .ne 7, 3) := by decide +kernel
theorem dX11_playTurns_37 : decode cX11_playTurns 37 = .ok (.iconst 1, 1) := by decide +kernel
theorem dX11_playTurns_38 : decode cX11_playTurns 38 = .ok (.goto 4, 3) := by decide +kernel
theorem dX11_playTurns_41 : decode cX11_playTurns 41 = .ok (.iconst 0, 1) := by decide +kernel
theorem dX11_playTurns_42 : decode cX11_playTurns 42 = .ok (.istore 4, 2) := by decide +kernel
theorem dX11_playTurns_44 : decode cX11_playTurns 44 = .ok (.aload_n 0, 1) := by decide +kernel
theorem dX11_playTurns_45 : decode cX11_playTurns 45 = .ok (.iload_n 1, 1) := by decide +kernel
theorem dX11_playTurns_46 : decode cX11_playTurns 46 = .ok (.iconst 1, 1) := by decide +kernel
theorem dX11_playTurns_47 : decode cX11_playTurns 47 = .ok (.iadd, 1) := by decide +kernel
theorem dX11_playTurns_48 : decode cX11_playTurns 48 = .ok (.iload_n 2, 1) := by decide +kernel
theorem dX11_playTurns_49 : decode cX11_playTurns 49 = .ok (.invokevirtual 282, 3) := by decide +kernel
theorem dX11_playTurns_52 : decode cX11_playTurns 52 = .ok (.istore 5, 2) := by decide +kernel
theorem dX11_playTurns_54 : decode cX11_playTurns 54 = .ok (.iconst 0, 1) := by decide +kernel
theorem dX11_playTurns_55 : decode cX11_playTurns 55 = .ok (.istore 6, 2) := by decide +kernel
theorem dX11_playTurns_57 : decode cX11_playTurns 57 = .ok (.iload 6, 2) := by decide +kernel
theorem dX11_playTurns_59 : decode cX11_playTurns 59 = .ok (.aload_n 3, 1) := by decide +kernel
theorem dX11_playTurns_60 : decode cX11_playTurns 60 = .ok (.getfield 151, 3) := by decide +kernel
theorem dX11_playTurns_63 : decode cX11_playTurns 63 = .ok (.if_icmp .ge 131, 3) := by decide +kernel
theorem dX11_playTurns_66 : decode cX11_playTurns 66 = .ok (.aload_n 3, 1) := by decide +kernel
theorem dX11_playTurns_67 : decode cX11_playTurns 67 = .ok (.iload 6, 2) := by decide +kernel
theorem dX11_playTurns_69 : decode cX11_playTurns 69 = .ok (.invokevirtual 213, 3) := by decide +kernel
theorem dX11_playTurns_72 : decode cX11_playTurns 72 = .ok (.astore 7, 2) := by decide +kernel
theorem dX11_playTurns_74 : decode cX11_playTurns 74 = .ok (.aload 7, 2) := by decide +kernel
theorem dX11_playTurns_76 : decode cX11_playTurns 76 = .ok (.ifnull 112, 3) := by decide +kernel
theorem dX11_playTurns_79 : decode cX11_playTurns 79 = .ok (.aload 7, 2) := by decide +kernel
theorem dX11_playTurns_81 : decode cX11_playTurns 81 = .ok (.iconst 0, 1) := by decide +kernel
theorem dX11_playTurns_82 : decode cX11_playTurns 82 = .ok (.invokevirtual 350, 3) := by decide +kernel
theorem dX11_playTurns_85 : decode cX11_playTurns 85 = .ok (.ifCond .eq 103, 3) := by decide +kernel
theorem dX11_playTurns_88 : decode cX11_playTurns 88 = .ok (.aload_n 0, 1) := by decide +kernel
theorem dX11_playTurns_89 : decode cX11_playTurns 89 = .ok (.getfield 42, 3) := by decide +kernel
theorem dX11_playTurns_92 : decode cX11_playTurns 92 = .ok (.aload_n 3, 1) := by decide +kernel
theorem dX11_playTurns_93 : decode cX11_playTurns 93 = .ok (.invokevirtual 141, 3) := by decide +kernel
theorem dX11_playTurns_96 : decode cX11_playTurns 96 = .ok (.aload_n 0, 1) := by decide +kernel
theorem dX11_playTurns_97 : decode cX11_playTurns 97 = .ok (.getfield 65, 3) := by decide +kernel
theorem dX11_playTurns_100 : decode cX11_playTurns 100 = .ok (.iconst 0, 1) := by decide +kernel
theorem dX11_playTurns_101 : decode cX11_playTurns 101 = .ok (.iload 6, 2) := by decide +kernel
theorem dX11_playTurns_103 : decode cX11_playTurns 103 = .ok (.iastore, 1) := by decide +kernel
theorem dX11_playTurns_104 : decode cX11_playTurns 104 = .ok (.aload_n 0, 1) := by decide +kernel
theorem dX11_playTurns_105 : decode cX11_playTurns 105 = .ok (.getfield 39, 3) := by decide +kernel
theorem dX11_playTurns_108 : decode cX11_playTurns 108 = .ok (.aload_n 0, 1) := by decide +kernel
theorem dX11_playTurns_109 : decode cX11_playTurns 109 = .ok (.getfield 65, 3) := by decide +kernel
theorem dX11_playTurns_112 : decode cX11_playTurns 112 = .ok (.iconst 0, 1) := by decide +kernel
theorem dX11_playTurns_113 : decode cX11_playTurns 113 = .ok (.iconst 1, 1) := by decide +kernel
theorem dX11_playTurns_114 : decode cX11_playTurns 114 = .ok (.invokevirtual 174, 3) := by decide +kernel
theorem dX11_playTurns_117 : decode cX11_playTurns 117 = .ok (.aload_n 0, 1) := by decide +kernel
theorem dX11_playTurns_118 : decode cX11_playTurns 118 = .ok (.getfield 39, 3) := by decide +kernel
theorem dX11_playTurns_121 : decode cX11_playTurns 121 = .ok (.getfield 178, 3) := by decide +kernel
theorem dX11_playTurns_124 : decode cX11_playTurns 124 = .ok (.ifCond .ne 13, 3) := by decide +kernel
theorem dX11_playTurns_127 : decode cX11_playTurns 127 = .ok (.aload_n 0, 1) := by decide +kernel
theorem dX11_playTurns_128 : decode cX11_playTurns 128 = .ok (.getfield 39, 3) := by decide +kernel
theorem dX11_playTurns_131 : decode cX11_playTurns 131 = .ok (.getfield 181, 3) := by decide +kernel
theorem dX11_playTurns_134 : decode cX11_playTurns 134 = .ok (.goto 4, 3) := by decide +kernel
theorem dX11_playTurns_137 : decode cX11_playTurns 137 = .ok (.iconst 0, 1) := by decide +kernel
theorem dX11_playTurns_138 : decode cX11_playTurns 138 = .ok (.istore 8, 2) := by decide +kernel
theorem dX11_playTurns_140 : decode cX11_playTurns 140 = .ok (.iload 4, 2) := by decide +kernel
theorem dX11_playTurns_142 : decode cX11_playTurns 142 = .ok (.ifCond .eq 8, 3) := by decide +kernel
theorem dX11_playTurns_145 : decode cX11_playTurns 145 = .ok (.iload 8, 2) := by decide +kernel
theorem dX11_playTurns_147 : decode cX11_playTurns 147 = .ok (.goto 6, 3) := by decide +kernel
theorem dX11_playTurns_150 : decode cX11_playTurns 150 = .ok (.iload 8, 2) := by decide +kernel
theorem dX11_playTurns_152 : decode cX11_playTurns 152 = .ok (.ineg, 1) := by decide +kernel
theorem dX11_playTurns_153 : decode cX11_playTurns 153 = .ok (.aload_n 0, 1) := by decide +kernel
theorem dX11_playTurns_154 : decode cX11_playTurns 154 = .ok (.iload_n 1, 1) := by decide +kernel
theorem dX11_playTurns_155 : decode cX11_playTurns 155 = .ok (.iconst 1, 1) := by decide +kernel
theorem dX11_playTurns_156 : decode cX11_playTurns 156 = .ok (.iadd, 1) := by decide +kernel
theorem dX11_playTurns_157 : decode cX11_playTurns 157 = .ok (.iload_n 2, 1) := by decide +kernel
theorem dX11_playTurns_158 : decode cX11_playTurns 158 = .ok (.invokevirtual 282, 3) := by decide +kernel
theorem dX11_playTurns_161 : decode cX11_playTurns 161 = .ok (.iadd, 1) := by decide +kernel
theorem dX11_playTurns_162 : decode cX11_playTurns 162 = .ok (.istore 9, 2) := by decide +kernel
theorem dX11_playTurns_164 : decode cX11_playTurns 164 = .ok (.iload 4, 2) := by decide +kernel
theorem dX11_playTurns_166 : decode cX11_playTurns 166 = .ok (.ifCond .eq 13, 3) := by decide +kernel
theorem dX11_playTurns_169 : decode cX11_playTurns 169 = .ok (.iload 5, 2) := by decide +kernel
theorem dX11_playTurns_171 : decode cX11_playTurns 171 = .ok (.iload 9, 2) := by decide +kernel
theorem dX11_playTurns_173 : decode cX11_playTurns 173 = .ok (.invokestatic 260, 3) := by decide +kernel
theorem dX11_playTurns_176 : decode cX11_playTurns 176 = .ok (.goto 10, 3) := by decide +kernel
theorem dX11_playTurns_179 : decode cX11_playTurns 179 = .ok (.iload 5, 2) := by decide +kernel
theorem dX11_playTurns_181 : decode cX11_playTurns 181 = .ok (.iload 9, 2) := by decide +kernel
theorem dX11_playTurns_183 : decode cX11_playTurns 183 = .ok (.invokestatic 356, 3) := by decide +kernel
theorem dX11_playTurns_186 : decode cX11_playTurns 186 = .ok (.istore 5, 2) := by decide +kernel
theorem dX11_playTurns_188 : decode cX11_playTurns 188 = .ok (.iinc 6 1, 3) := by decide +kernel
theorem dX11_playTurns_191 : decode cX11_playTurns 191 = .ok (.goto (-134), 3) := by decide +kernel
theorem dX11_playTurns_194 : decode cX11_playTurns 194 = .ok (.iload 5, 2) := by decide +kernel
theorem dX11_playTurns_196 : decode cX11_playTurns 196 = .ok (.ireturn, 1) := by decide +kernel
theorem dX11_kindsFor_0 : decode cX11_kindsFor 0 = .ok (.iconst 0, 1) := by decide +kernel
theorem dX11_kindsFor_1 : decode cX11_kindsFor 1 = .ok (.istore 6, 2) := by decide +kernel
theorem dX11_kindsFor_3 : decode cX11_kindsFor 3 = .ok (.iconst 1, 1) := by decide +kernel
theorem dX11_kindsFor_4 : decode cX11_kindsFor 4 = .ok (.istore 7, 2) := by decide +kernel
theorem dX11_kindsFor_6 : decode cX11_kindsFor 6 = .ok (.iload 7, 2) := by decide +kernel
theorem dX11_kindsFor_8 : decode cX11_kindsFor 8 = .ok (.iconst 5, 1) := by decide +kernel
theorem dX11_kindsFor_9 : decode cX11_kindsFor 9 = .ok (.if_icmp .gt 70, 3) := by decide +kernel
theorem dX11_kindsFor_12 : decode cX11_kindsFor 12 = .ok (.aload_n 0, 1) := by decide +kernel
theorem dX11_kindsFor_13 : decode cX11_kindsFor 13 = .ok (.getfield 42, 3) := by decide +kernel
theorem dX11_kindsFor_16 : decode cX11_kindsFor 16 = .ok (.aload_n 0, 1) := by decide +kernel
theorem dX11_kindsFor_17 : decode cX11_kindsFor 17 = .ok (.getfield 33, 3) := by decide +kernel
theorem dX11_kindsFor_20 : decode cX11_kindsFor 20 = .ok (.invokevirtual 141, 3) := by decide +kernel
theorem dX11_kindsFor_23 : decode cX11_kindsFor 23 = .ok (.aload_n 0, 1) := by decide +kernel
theorem dX11_kindsFor_24 : decode cX11_kindsFor 24 = .ok (.getfield 42, 3) := by decide +kernel
theorem dX11_kindsFor_27 : decode cX11_kindsFor 27 = .ok (.iload_n 1, 1) := by decide +kernel
theorem dX11_kindsFor_28 : decode cX11_kindsFor 28 = .ok (.iload 7, 2) := by decide +kernel
theorem dX11_kindsFor_30 : decode cX11_kindsFor 30 = .ok (.aload_n 0, 1) := by decide +kernel
theorem dX11_kindsFor_31 : decode cX11_kindsFor 31 = .ok (.getfield 42, 3) := by decide +kernel
theorem dX11_kindsFor_34 : decode cX11_kindsFor 34 = .ok (.iload_n 1, 1) := by decide +kernel
theorem dX11_kindsFor_35 : decode cX11_kindsFor 35 = .ok (.invokevirtual 359, 3) := by decide +kernel
theorem dX11_kindsFor_38 : decode cX11_kindsFor 38 = .ok (.invokevirtual 362, 3) := by decide +kernel
theorem dX11_kindsFor_41 : decode cX11_kindsFor 41 = .ok (.aload_n 0, 1) := by decide +kernel
theorem dX11_kindsFor_42 : decode cX11_kindsFor 42 = .ok (.getfield 39, 3) := by decide +kernel
theorem dX11_kindsFor_45 : decode cX11_kindsFor 45 = .ok (.aload_n 2, 1) := by decide +kernel
theorem dX11_kindsFor_46 : decode cX11_kindsFor 46 = .ok (.iload_n 3, 1) := by decide +kernel
theorem dX11_kindsFor_47 : decode cX11_kindsFor 47 = .ok (.iload 4, 2) := by decide +kernel
theorem dX11_kindsFor_49 : decode cX11_kindsFor 49 = .ok (.invokevirtual 174, 3) := by decide +kernel
theorem dX11_kindsFor_52 : decode cX11_kindsFor 52 = .ok (.aload_n 0, 1) := by decide +kernel
theorem dX11_kindsFor_53 : decode cX11_kindsFor 53 = .ok (.getfield 39, 3) := by decide +kernel
theorem dX11_kindsFor_56 : decode cX11_kindsFor 56 = .ok (.invokevirtual 240, 3) := by decide +kernel
theorem dX11_kindsFor_59 : decode cX11_kindsFor 59 = .ok (.iload 5, 2) := by decide +kernel
theorem dX11_kindsFor_61 : decode cX11_kindsFor 61 = .ok (.if_icmp .ne 12, 3) := by decide +kernel
theorem dX11_kindsFor_64 : decode cX11_kindsFor 64 = .ok (.iload 6, 2) := by decide +kernel
theorem dX11_kindsFor_66 : decode cX11_kindsFor 66 = .ok (.iconst 1, 1) := by decide +kernel
theorem dX11_kindsFor_67 : decode cX11_kindsFor 67 = .ok (.iload 7, 2) := by decide +kernel
theorem dX11_kindsFor_69 : decode cX11_kindsFor 69 = .ok (.ishl, 1) := by decide +kernel
theorem dX11_kindsFor_70 : decode cX11_kindsFor 70 = .ok (.ior, 1) := by decide +kernel
theorem dX11_kindsFor_71 : decode cX11_kindsFor 71 = .ok (.istore 6, 2) := by decide +kernel
theorem dX11_kindsFor_73 : decode cX11_kindsFor 73 = .ok (.iinc 7 1, 3) := by decide +kernel
theorem dX11_kindsFor_76 : decode cX11_kindsFor 76 = .ok (.goto (-70), 3) := by decide +kernel
theorem dX11_kindsFor_79 : decode cX11_kindsFor 79 = .ok (.iload 6, 2) := by decide +kernel
theorem dX11_kindsFor_81 : decode cX11_kindsFor 81 = .ok (.ireturn, 1) := by decide +kernel
theorem dX11_numbersFor_0 : decode cX11_numbersFor 0 = .ok (.iconst 0, 1) := by decide +kernel
theorem dX11_numbersFor_1 : decode cX11_numbersFor 1 = .ok (.istore 6, 2) := by decide +kernel
theorem dX11_numbersFor_3 : decode cX11_numbersFor 3 = .ok (.iconst 0, 1) := by decide +kernel
theorem dX11_numbersFor_4 : decode cX11_numbersFor 4 = .ok (.istore 7, 2) := by decide +kernel
theorem dX11_numbersFor_6 : decode cX11_numbersFor 6 = .ok (.iload 7, 2) := by decide +kernel
theorem dX11_numbersFor_8 : decode cX11_numbersFor 8 = .ok (.bipush 9, 2) := by decide +kernel
theorem dX11_numbersFor_10 : decode cX11_numbersFor 10 = .ok (.if_icmp .gt 70, 3) := by decide +kernel
theorem dX11_numbersFor_13 : decode cX11_numbersFor 13 = .ok (.aload_n 0, 1) := by decide +kernel
theorem dX11_numbersFor_14 : decode cX11_numbersFor 14 = .ok (.getfield 42, 3) := by decide +kernel
theorem dX11_numbersFor_17 : decode cX11_numbersFor 17 = .ok (.aload_n 0, 1) := by decide +kernel
theorem dX11_numbersFor_18 : decode cX11_numbersFor 18 = .ok (.getfield 33, 3) := by decide +kernel
theorem dX11_numbersFor_21 : decode cX11_numbersFor 21 = .ok (.invokevirtual 141, 3) := by decide +kernel
theorem dX11_numbersFor_24 : decode cX11_numbersFor 24 = .ok (.aload_n 0, 1) := by decide +kernel
theorem dX11_numbersFor_25 : decode cX11_numbersFor 25 = .ok (.getfield 42, 3) := by decide +kernel
theorem dX11_numbersFor_28 : decode cX11_numbersFor 28 = .ok (.iload_n 1, 1) := by decide +kernel
theorem dX11_numbersFor_29 : decode cX11_numbersFor 29 = .ok (.aload_n 0, 1) := by decide +kernel
theorem dX11_numbersFor_30 : decode cX11_numbersFor 30 = .ok (.getfield 42, 3) := by decide +kernel
theorem dX11_numbersFor_33 : decode cX11_numbersFor 33 = .ok (.iload_n 1, 1) := by decide +kernel
theorem dX11_numbersFor_34 : decode cX11_numbersFor 34 = .ok (.invokevirtual 366, 3) := by decide +kernel
theorem dX11_numbersFor_37 : decode cX11_numbersFor 37 = .ok (.iload 7, 2) := by decide +kernel
theorem dX11_numbersFor_39 : decode cX11_numbersFor 39 = .ok (.invokevirtual 362, 3) := by decide +kernel
theorem dX11_numbersFor_42 : decode cX11_numbersFor 42 = .ok (.aload_n 0, 1) := by decide +kernel
theorem dX11_numbersFor_43 : decode cX11_numbersFor 43 = .ok (.getfield 39, 3) := by decide +kernel
theorem dX11_numbersFor_46 : decode cX11_numbersFor 46 = .ok (.aload_n 2, 1) := by decide +kernel
theorem dX11_numbersFor_47 : decode cX11_numbersFor 47 = .ok (.iload_n 3, 1) := by decide +kernel
theorem dX11_numbersFor_48 : decode cX11_numbersFor 48 = .ok (.iload 4, 2) := by decide +kernel
theorem dX11_numbersFor_50 : decode cX11_numbersFor 50 = .ok (.invokevirtual 174, 3) := by decide +kernel
theorem dX11_numbersFor_53 : decode cX11_numbersFor 53 = .ok (.aload_n 0, 1) := by decide +kernel
theorem dX11_numbersFor_54 : decode cX11_numbersFor 54 = .ok (.getfield 39, 3) := by decide +kernel
theorem dX11_numbersFor_57 : decode cX11_numbersFor 57 = .ok (.invokevirtual 240, 3) := by decide +kernel
theorem dX11_numbersFor_60 : decode cX11_numbersFor 60 = .ok (.iload 5, 2) := by decide +kernel
theorem dX11_numbersFor_62 : decode cX11_numbersFor 62 = .ok (.if_icmp .ne 12, 3) := by decide +kernel
theorem dX11_numbersFor_65 : decode cX11_numbersFor 65 = .ok (.iload 6, 2) := by decide +kernel
theorem dX11_numbersFor_67 : decode cX11_numbersFor 67 = .ok (.iconst 1, 1) := by decide +kernel
theorem dX11_numbersFor_68 : decode cX11_numbersFor 68 = .ok (.iload 7, 2) := by decide +kernel
theorem dX11_numbersFor_70 : decode cX11_numbersFor 70 = .ok (.ishl, 1) := by decide +kernel
theorem dX11_numbersFor_71 : decode cX11_numbersFor 71 = .ok (.ior, 1) := by decide +kernel
theorem dX11_numbersFor_72 : decode cX11_numbersFor 72 = .ok (.istore 6, 2) := by decide +kernel
theorem dX11_numbersFor_74 : decode cX11_numbersFor 74 = .ok (.iinc 7 1, 3) := by decide +kernel
theorem dX11_numbersFor_77 : decode cX11_numbersFor 77 = .ok (.goto (-71), 3) := by decide +kernel
theorem dX11_numbersFor_80 : decode cX11_numbersFor 80 = .ok (.iload 6, 2) := by decide +kernel
theorem dX11_numbersFor_82 : decode cX11_numbersFor 82 = .ok (.ireturn, 1) := by decide +kernel
theorem dX11_keysFor_0 : decode cX11_keysFor 0 = .ok (.iconst 0, 1) := by decide +kernel
theorem dX11_keysFor_1 : decode cX11_keysFor 1 = .ok (.istore 6, 2) := by decide +kernel
theorem dX11_keysFor_3 : decode cX11_keysFor 3 = .ok (.iconst 0, 1) := by decide +kernel
theorem dX11_keysFor_4 : decode cX11_keysFor 4 = .ok (.istore 7, 2) := by decide +kernel
theorem dX11_keysFor_6 : decode cX11_keysFor 6 = .ok (.iload 7, 2) := by decide +kernel
theorem dX11_keysFor_8 : decode cX11_keysFor 8 = .ok (.bipush 63, 2) := by decide +kernel
theorem dX11_keysFor_10 : decode cX11_keysFor 10 = .ok (.if_icmp .gt 62, 3) := by decide +kernel
theorem dX11_keysFor_13 : decode cX11_keysFor 13 = .ok (.aload_n 0, 1) := by decide +kernel
theorem dX11_keysFor_14 : decode cX11_keysFor 14 = .ok (.getfield 42, 3) := by decide +kernel
theorem dX11_keysFor_17 : decode cX11_keysFor 17 = .ok (.aload_n 0, 1) := by decide +kernel
theorem dX11_keysFor_18 : decode cX11_keysFor 18 = .ok (.getfield 33, 3) := by decide +kernel
theorem dX11_keysFor_21 : decode cX11_keysFor 21 = .ok (.invokevirtual 141, 3) := by decide +kernel
theorem dX11_keysFor_24 : decode cX11_keysFor 24 = .ok (.aload_n 0, 1) := by decide +kernel
theorem dX11_keysFor_25 : decode cX11_keysFor 25 = .ok (.getfield 42, 3) := by decide +kernel
theorem dX11_keysFor_28 : decode cX11_keysFor 28 = .ok (.iload 7, 2) := by decide +kernel
theorem dX11_keysFor_30 : decode cX11_keysFor 30 = .ok (.putfield 204, 3) := by decide +kernel
theorem dX11_keysFor_33 : decode cX11_keysFor 33 = .ok (.aload_n 0, 1) := by decide +kernel
theorem dX11_keysFor_34 : decode cX11_keysFor 34 = .ok (.getfield 39, 3) := by decide +kernel
theorem dX11_keysFor_37 : decode cX11_keysFor 37 = .ok (.aload_n 2, 1) := by decide +kernel
theorem dX11_keysFor_38 : decode cX11_keysFor 38 = .ok (.iload_n 3, 1) := by decide +kernel
theorem dX11_keysFor_39 : decode cX11_keysFor 39 = .ok (.iload 4, 2) := by decide +kernel
theorem dX11_keysFor_41 : decode cX11_keysFor 41 = .ok (.invokevirtual 174, 3) := by decide +kernel
theorem dX11_keysFor_44 : decode cX11_keysFor 44 = .ok (.aload_n 0, 1) := by decide +kernel
theorem dX11_keysFor_45 : decode cX11_keysFor 45 = .ok (.getfield 39, 3) := by decide +kernel
theorem dX11_keysFor_48 : decode cX11_keysFor 48 = .ok (.invokevirtual 240, 3) := by decide +kernel
theorem dX11_keysFor_51 : decode cX11_keysFor 51 = .ok (.iload 5, 2) := by decide +kernel
theorem dX11_keysFor_53 : decode cX11_keysFor 53 = .ok (.if_icmp .ne 13, 3) := by decide +kernel
theorem dX11_keysFor_56 : decode cX11_keysFor 56 = .ok (.iload_n 1, 1) := by decide +kernel
theorem dX11_keysFor_57 : decode cX11_keysFor 57 = .ok (.ifCond .eq 6, 3) := by decide +kernel
theorem dX11_keysFor_60 : decode cX11_keysFor 60 = .ok (.iload 7, 2) := by decide +kernel
theorem dX11_keysFor_62 : decode cX11_keysFor 62 = .ok (.ireturn, 1) := by decide +kernel
theorem dX11_keysFor_63 : decode cX11_keysFor 63 = .ok (.iinc 6 1, 3) := by decide +kernel
theorem dX11_keysFor_66 : decode cX11_keysFor 66 = .ok (.iinc 7 1, 3) := by decide +kernel
theorem dX11_keysFor_69 : decode cX11_keysFor 69 = .ok (.goto (-63), 3) := by decide +kernel
theorem dX11_keysFor_72 : decode cX11_keysFor 72 = .ok (.iload_n 1, 1) := by decide +kernel
theorem dX11_keysFor_73 : decode cX11_keysFor 73 = .ok (.ifCond .eq 9, 3) := by decide +kernel
theorem dX11_keysFor_76 : decode cX11_keysFor 76 = .ok (.ldc_w 259, 3) := by decide +kernel
theorem dX11_keysFor_79 : decode cX11_keysFor 79 = .ok (.goto 5, 3) := by decide +kernel
theorem dX11_keysFor_82 : decode cX11_keysFor 82 = .ok (.iload 6, 2) := by decide +kernel
theorem dX11_keysFor_84 : decode cX11_keysFor 84 = .ok (.ireturn, 1) := by decide +kernel
theorem dX11_goDrawn_0 : decode cX11_goDrawn 0 = .ok (.aload_n 0, 1) := by decide +kernel
theorem dX11_goDrawn_1 : decode cX11_goDrawn 1 = .ok (.getfield 42, 3) := by decide +kernel
theorem dX11_goDrawn_4 : decode cX11_goDrawn 4 = .ok (.getfield 279, 3) := by decide +kernel
theorem dX11_goDrawn_7 : decode cX11_goDrawn 7 = .ok (.istore_n 3, 1) := by decide +kernel
theorem dX11_goDrawn_8 : decode cX11_goDrawn 8 = .ok (.aload_n 0, 1) := by decide +kernel
theorem dX11_goDrawn_9 : decode cX11_goDrawn 9 = .ok (.getfield 42, 3) := by decide +kernel
theorem dX11_goDrawn_12 : decode cX11_goDrawn 12 = .ok (.getfield 151, 3) := by decide +kernel
theorem dX11_goDrawn_15 : decode cX11_goDrawn 15 = .ok (.istore 4, 2) := by decide +kernel
theorem dX11_goDrawn_17 : decode cX11_goDrawn 17 = .ok (.iload_n 3, 1) := by decide +kernel
theorem dX11_goDrawn_18 : decode cX11_goDrawn 18 = .ok (.ifCond .eq 8, 3) := by decide +kernel
theorem dX11_goDrawn_21 : decode cX11_goDrawn 21 = .ok (.iload 4, 2) := by decide +kernel
theorem dX11_goDrawn_23 : decode cX11_goDrawn 23 = .ok (.ifCond .ne 4, 3) := by decide +kernel
theorem dX11_goDrawn_26 : decode cX11_goDrawn 26 = .ok (.return_, 1) := by decide +kernel
theorem dX11_goDrawn_27 : decode cX11_goDrawn 27 = .ok (.lload_n 1, 1) := by decide +kernel
theorem dX11_goDrawn_28 : decode cX11_goDrawn 28 = .ok (.iload_n 3, 1) := by decide +kernel
theorem dX11_goDrawn_29 : decode cX11_goDrawn 29 = .ok (.i2l, 1) := by decide +kernel
theorem dX11_goDrawn_30 : decode cX11_goDrawn 30 = .ok (.lrem, 1) := by decide +kernel
theorem dX11_goDrawn_31 : decode cX11_goDrawn 31 = .ok (.l2i, 1) := by decide +kernel
theorem dX11_goDrawn_32 : decode cX11_goDrawn 32 = .ok (.istore 5, 2) := by decide +kernel
theorem dX11_goDrawn_34 : decode cX11_goDrawn 34 = .ok (.lload_n 1, 1) := by decide +kernel
theorem dX11_goDrawn_35 : decode cX11_goDrawn 35 = .ok (.ldc2_w 369, 3) := by decide +kernel
theorem dX11_goDrawn_38 : decode cX11_goDrawn 38 = .ok (.lrem, 1) := by decide +kernel
theorem dX11_goDrawn_39 : decode cX11_goDrawn 39 = .ok (.lconst 0, 1) := by decide +kernel
theorem dX11_goDrawn_40 : decode cX11_goDrawn 40 = .ok (.lcmp, 1) := by decide +kernel
theorem dX11_goDrawn_41 : decode cX11_goDrawn 41 = .ok (.ifCond .ne 39, 3) := by decide +kernel
theorem dX11_goDrawn_44 : decode cX11_goDrawn 44 = .ok (.aload_n 0, 1) := by decide +kernel
theorem dX11_goDrawn_45 : decode cX11_goDrawn 45 = .ok (.getfield 42, 3) := by decide +kernel
theorem dX11_goDrawn_48 : decode cX11_goDrawn 48 = .ok (.iload 5, 2) := by decide +kernel
theorem dX11_goDrawn_50 : decode cX11_goDrawn 50 = .ok (.invokevirtual 192, 3) := by decide +kernel
theorem dX11_goDrawn_53 : decode cX11_goDrawn 53 = .ok (.ifCond .ne 27, 3) := by decide +kernel
theorem dX11_goDrawn_56 : decode cX11_goDrawn 56 = .ok (.aload_n 0, 1) := by decide +kernel
theorem dX11_goDrawn_57 : decode cX11_goDrawn 57 = .ok (.getfield 42, 3) := by decide +kernel
theorem dX11_goDrawn_60 : decode cX11_goDrawn 60 = .ok (.getfield 195, 3) := by decide +kernel
theorem dX11_goDrawn_63 : decode cX11_goDrawn 63 = .ok (.iload 5, 2) := by decide +kernel
theorem dX11_goDrawn_65 : decode cX11_goDrawn 65 = .ok (.iaload, 1) := by decide +kernel
theorem dX11_goDrawn_66 : decode cX11_goDrawn 66 = .ok (.ifCond .ne 14, 3) := by decide +kernel
theorem dX11_goDrawn_69 : decode cX11_goDrawn 69 = .ok (.aload_n 0, 1) := by decide +kernel
theorem dX11_goDrawn_70 : decode cX11_goDrawn 70 = .ok (.getfield 42, 3) := by decide +kernel
theorem dX11_goDrawn_73 : decode cX11_goDrawn 73 = .ok (.getfield 195, 3) := by decide +kernel
theorem dX11_goDrawn_76 : decode cX11_goDrawn 76 = .ok (.iload 5, 2) := by decide +kernel
theorem dX11_goDrawn_78 : decode cX11_goDrawn 78 = .ok (.iconst 5, 1) := by decide +kernel
theorem dX11_goDrawn_79 : decode cX11_goDrawn 79 = .ok (.iastore, 1) := by decide +kernel
theorem dX11_goDrawn_80 : decode cX11_goDrawn 80 = .ok (.aload_n 0, 1) := by decide +kernel
theorem dX11_goDrawn_81 : decode cX11_goDrawn 81 = .ok (.getfield 65, 3) := by decide +kernel
theorem dX11_goDrawn_84 : decode cX11_goDrawn 84 = .ok (.iconst 0, 1) := by decide +kernel
theorem dX11_goDrawn_85 : decode cX11_goDrawn 85 = .ok (.lload_n 1, 1) := by decide +kernel
theorem dX11_goDrawn_86 : decode cX11_goDrawn 86 = .ok (.ldc2_w 371, 3) := by decide +kernel
theorem dX11_goDrawn_89 : decode cX11_goDrawn 89 = .ok (.ldiv, 1) := by decide +kernel
theorem dX11_goDrawn_90 : decode cX11_goDrawn 90 = .ok (.iload 4, 2) := by decide +kernel
theorem dX11_goDrawn_92 : decode cX11_goDrawn 92 = .ok (.i2l, 1) := by decide +kernel
theorem dX11_goDrawn_93 : decode cX11_goDrawn 93 = .ok (.lrem, 1) := by decide +kernel
theorem dX11_goDrawn_94 : decode cX11_goDrawn 94 = .ok (.l2i, 1) := by decide +kernel
theorem dX11_goDrawn_95 : decode cX11_goDrawn 95 = .ok (.iastore, 1) := by decide +kernel
theorem dX11_goDrawn_96 : decode cX11_goDrawn 96 = .ok (.aload_n 0, 1) := by decide +kernel
theorem dX11_goDrawn_97 : decode cX11_goDrawn 97 = .ok (.getfield 65, 3) := by decide +kernel
theorem dX11_goDrawn_100 : decode cX11_goDrawn 100 = .ok (.iconst 1, 1) := by decide +kernel
theorem dX11_goDrawn_101 : decode cX11_goDrawn 101 = .ok (.lload_n 1, 1) := by decide +kernel
theorem dX11_goDrawn_102 : decode cX11_goDrawn 102 = .ok (.ldc2_w 373, 3) := by decide +kernel
theorem dX11_goDrawn_105 : decode cX11_goDrawn 105 = .ok (.ldiv, 1) := by decide +kernel
theorem dX11_goDrawn_106 : decode cX11_goDrawn 106 = .ok (.iload 4, 2) := by decide +kernel
theorem dX11_goDrawn_108 : decode cX11_goDrawn 108 = .ok (.i2l, 1) := by decide +kernel
theorem dX11_goDrawn_109 : decode cX11_goDrawn 109 = .ok (.lrem, 1) := by decide +kernel
theorem dX11_goDrawn_110 : decode cX11_goDrawn 110 = .ok (.l2i, 1) := by decide +kernel
theorem dX11_goDrawn_111 : decode cX11_goDrawn 111 = .ok (.iastore, 1) := by decide +kernel
theorem dX11_goDrawn_112 : decode cX11_goDrawn 112 = .ok (.aload_n 0, 1) := by decide +kernel
theorem dX11_goDrawn_113 : decode cX11_goDrawn 113 = .ok (.getfield 39, 3) := by decide +kernel
theorem dX11_goDrawn_116 : decode cX11_goDrawn 116 = .ok (.aload_n 0, 1) := by decide +kernel
theorem dX11_goDrawn_117 : decode cX11_goDrawn 117 = .ok (.getfield 65, 3) := by decide +kernel
theorem dX11_goDrawn_120 : decode cX11_goDrawn 120 = .ok (.iconst 0, 1) := by decide +kernel
theorem dX11_goDrawn_121 : decode cX11_goDrawn 121 = .ok (.iconst 2, 1) := by decide +kernel
theorem dX11_goDrawn_122 : decode cX11_goDrawn 122 = .ok (.invokevirtual 174, 3) := by decide +kernel
theorem dX11_goDrawn_125 : decode cX11_goDrawn 125 = .ok (.return_, 1) := by decide +kernel
theorem dX11_commonDivisor_0 : decode cX11_commonDivisor 0 = .ok (.iload_n 1, 1) := by decide +kernel
theorem dX11_commonDivisor_1 : decode cX11_commonDivisor 1 = .ok (.istore_n 2, 1) := by decide +kernel
theorem dX11_commonDivisor_2 : decode cX11_commonDivisor 2 = .ok (.iload_n 0, 1) := by decide +kernel
theorem dX11_commonDivisor_3 : decode cX11_commonDivisor 3 = .ok (.istore_n 3, 1) := by decide +kernel
theorem dX11_commonDivisor_4 : decode cX11_commonDivisor 4 = .ok (.iconst 0, 1) := by decide +kernel
theorem dX11_commonDivisor_5 : decode cX11_commonDivisor 5 = .ok (.istore 4, 2) := by decide +kernel
theorem dX11_commonDivisor_7 : decode cX11_commonDivisor 7 = .ok (.iload 4, 2) := by decide +kernel
theorem dX11_commonDivisor_9 : decode cX11_commonDivisor 9 = .ok (.bipush 64, 2) := by decide +kernel
theorem dX11_commonDivisor_11 : decode cX11_commonDivisor 11 = .ok (.if_icmp .ge 23, 3) := by decide +kernel
theorem dX11_commonDivisor_14 : decode cX11_commonDivisor 14 = .ok (.iload_n 3, 1) := by decide +kernel
theorem dX11_commonDivisor_15 : decode cX11_commonDivisor 15 = .ok (.ifCond .eq 19, 3) := by decide +kernel
theorem dX11_commonDivisor_18 : decode cX11_commonDivisor 18 = .ok (.iload_n 2, 1) := by decide +kernel
theorem dX11_commonDivisor_19 : decode cX11_commonDivisor 19 = .ok (.iload_n 3, 1) := by decide +kernel
theorem dX11_commonDivisor_20 : decode cX11_commonDivisor 20 = .ok (.irem, 1) := by decide +kernel
theorem dX11_commonDivisor_21 : decode cX11_commonDivisor 21 = .ok (.istore 5, 2) := by decide +kernel
theorem dX11_commonDivisor_23 : decode cX11_commonDivisor 23 = .ok (.iload_n 3, 1) := by decide +kernel
theorem dX11_commonDivisor_24 : decode cX11_commonDivisor 24 = .ok (.istore_n 2, 1) := by decide +kernel
theorem dX11_commonDivisor_25 : decode cX11_commonDivisor 25 = .ok (.iload 5, 2) := by decide +kernel
theorem dX11_commonDivisor_27 : decode cX11_commonDivisor 27 = .ok (.istore_n 3, 1) := by decide +kernel
theorem dX11_commonDivisor_28 : decode cX11_commonDivisor 28 = .ok (.iinc 4 1, 3) := by decide +kernel
theorem dX11_commonDivisor_31 : decode cX11_commonDivisor 31 = .ok (.goto (-24), 3) := by decide +kernel
theorem dX11_commonDivisor_34 : decode cX11_commonDivisor 34 = .ok (.iload_n 2, 1) := by decide +kernel
theorem dX11_commonDivisor_35 : decode cX11_commonDivisor 35 = .ok (.ireturn, 1) := by decide +kernel
theorem dX11_power_0 : decode cX11_power 0 = .ok (.lconst 1, 1) := by decide +kernel
theorem dX11_power_1 : decode cX11_power 1 = .ok (.lstore_n 2, 1) := by decide +kernel
theorem dX11_power_2 : decode cX11_power 2 = .ok (.iconst 0, 1) := by decide +kernel
theorem dX11_power_3 : decode cX11_power 3 = .ok (.istore 4, 2) := by decide +kernel
theorem dX11_power_5 : decode cX11_power 5 = .ok (.iload 4, 2) := by decide +kernel
theorem dX11_power_7 : decode cX11_power 7 = .ok (.iload_n 1, 1) := by decide +kernel
theorem dX11_power_8 : decode cX11_power 8 = .ok (.if_icmp .ge 14, 3) := by decide +kernel
theorem dX11_power_11 : decode cX11_power 11 = .ok (.lload_n 2, 1) := by decide +kernel
theorem dX11_power_12 : decode cX11_power 12 = .ok (.iload_n 0, 1) := by decide +kernel
theorem dX11_power_13 : decode cX11_power 13 = .ok (.i2l, 1) := by decide +kernel
theorem dX11_power_14 : decode cX11_power 14 = .ok (.lmul, 1) := by decide +kernel
theorem dX11_power_15 : decode cX11_power 15 = .ok (.lstore_n 2, 1) := by decide +kernel
theorem dX11_power_16 : decode cX11_power 16 = .ok (.iinc 4 1, 3) := by decide +kernel
theorem dX11_power_19 : decode cX11_power 19 = .ok (.goto (-14), 3) := by decide +kernel
theorem dX11_power_22 : decode cX11_power 22 = .ok (.lload_n 2, 1) := by decide +kernel
theorem dX11_power_23 : decode cX11_power 23 = .ok (.lreturn, 1) := by decide +kernel
