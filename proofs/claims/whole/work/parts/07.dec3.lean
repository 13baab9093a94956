theorem dX7_table_24 : decode cX7_table 24 = .ok (.aload_n 0, 1) := by decide +kernel
theorem dX7_table_25 : decode cX7_table 25 = .ok (.getfield 35, 3) := by decide +kernel
theorem dX7_table_28 : decode cX7_table 28 = .ok (.iload_n 3, 1) := by decide +kernel
theorem dX7_table_29 : decode cX7_table 29 = .ok (.iaload, 1) := by decide +kernel
theorem dX7_table_30 : decode cX7_table 30 = .ok (.ireturn, 1) := by decide +kernel
theorem dX7_table_31 : decode cX7_table 31 = .ok (.iload_n 1, 1) := by decide +kernel
theorem dX7_table_32 : decode cX7_table 32 = .ok (.iconst 4, 1) := by decide +kernel
theorem dX7_table_33 : decode cX7_table 33 = .ok (.if_icmp .ne 12, 3) := by decide +kernel
theorem dX7_table_36 : decode cX7_table 36 = .ok (.aload_n 0, 1) := by decide +kernel
theorem dX7_table_37 : decode cX7_table 37 = .ok (.getfield 38, 3) := by decide +kernel
theorem dX7_table_40 : decode cX7_table 40 = .ok (.iload_n 3, 1) := by decide +kernel
theorem dX7_table_41 : decode cX7_table 41 = .ok (.iaload, 1) := by decide +kernel
theorem dX7_table_42 : decode cX7_table 42 = .ok (.goto 9, 3) := by decide +kernel
theorem dX7_table_45 : decode cX7_table 45 = .ok (.aload_n 0, 1) := by decide +kernel
theorem dX7_table_46 : decode cX7_table 46 = .ok (.getfield 41, 3) := by decide +kernel
theorem dX7_table_49 : decode cX7_table 49 = .ok (.iload_n 3, 1) := by decide +kernel
theorem dX7_table_50 : decode cX7_table 50 = .ok (.iaload, 1) := by decide +kernel
theorem dX7_table_51 : decode cX7_table 51 = .ok (.ireturn, 1) := by decide +kernel
theorem dX7_weight_0 : decode cX7_weight 0 = .ok (.aload_n 0, 1) := by decide +kernel
theorem dX7_weight_1 : decode cX7_weight 1 = .ok (.iload_n 1, 1) := by decide +kernel
theorem dX7_weight_2 : decode cX7_weight 2 = .ok (.iload_n 2, 1) := by decide +kernel
theorem dX7_weight_3 : decode cX7_weight 3 = .ok (.invokevirtual 130, 3) := by decide +kernel
theorem dX7_weight_6 : decode cX7_weight 6 = .ok (.istore_n 3, 1) := by decide +kernel
theorem dX7_weight_7 : decode cX7_weight 7 = .ok (.iload_n 1, 1) := by decide +kernel
theorem dX7_weight_8 : decode cX7_weight 8 = .ok (.iconst 2, 1) := by decide +kernel
theorem dX7_weight_9 : decode cX7_weight 9 = .ok (.if_icmp .ne 10, 3) := by decide +kernel
theorem dX7_weight_12 : decode cX7_weight 12 = .ok (.aload_n 0, 1) := by decide +kernel
theorem dX7_weight_13 : decode cX7_weight 13 = .ok (.getfield 44, 3) := by decide +kernel
theorem dX7_weight_16 : decode cX7_weight 16 = .ok (.iload_n 3, 1) := by decide +kernel
theorem dX7_weight_17 : decode cX7_weight 17 = .ok (.iaload, 1) := by decide +kernel
theorem dX7_weight_18 : decode cX7_weight 18 = .ok (.ireturn, 1) := by decide +kernel
theorem dX7_weight_19 : decode cX7_weight 19 = .ok (.iload_n 1, 1) := by decide +kernel
theorem dX7_weight_20 : decode cX7_weight 20 = .ok (.iconst 3, 1) := by decide +kernel
theorem dX7_weight_21 : decode cX7_weight 21 = .ok (.if_icmp .ne 10, 3) := by decide +kernel
theorem dX7_weight_24 : decode cX7_weight 24 = .ok (.aload_n 0, 1) := by decide +kernel
theorem dX7_weight_25 : decode cX7_weight 25 = .ok (.getfield 47, 3) := by decide +kernel
theorem dX7_weight_28 : decode cX7_weight 28 = .ok (.iload_n 3, 1) := by decide +kernel
theorem dX7_weight_29 : decode cX7_weight 29 = .ok (.iaload, 1) := by decide +kernel
theorem dX7_weight_30 : decode cX7_weight 30 = .ok (.ireturn, 1) := by decide +kernel
theorem dX7_weight_31 : decode cX7_weight 31 = .ok (.iload_n 1, 1) := by decide +kernel
theorem dX7_weight_32 : decode cX7_weight 32 = .ok (.iconst 4, 1) := by decide +kernel
theorem dX7_weight_33 : decode cX7_weight 33 = .ok (.if_icmp .ne 12, 3) := by decide +kernel
theorem dX7_weight_36 : decode cX7_weight 36 = .ok (.aload_n 0, 1) := by decide +kernel
theorem dX7_weight_37 : decode cX7_weight 37 = .ok (.getfield 51, 3) := by decide +kernel
theorem dX7_weight_40 : decode cX7_weight 40 = .ok (.iload_n 3, 1) := by decide +kernel
theorem dX7_weight_41 : decode cX7_weight 41 = .ok (.iaload, 1) := by decide +kernel
theorem dX7_weight_42 : decode cX7_weight 42 = .ok (.goto 9, 3) := by decide +kernel
theorem dX7_weight_45 : decode cX7_weight 45 = .ok (.aload_n 0, 1) := by decide +kernel
theorem dX7_weight_46 : decode cX7_weight 46 = .ok (.getfield 54, 3) := by decide +kernel
theorem dX7_weight_49 : decode cX7_weight 49 = .ok (.iload_n 3, 1) := by decide +kernel
theorem dX7_weight_50 : decode cX7_weight 50 = .ok (.iaload, 1) := by decide +kernel
theorem dX7_weight_51 : decode cX7_weight 51 = .ok (.ireturn, 1) := by decide +kernel
theorem dX7_pace_0 : decode cX7_pace 0 = .ok (.aload_n 0, 1) := by decide +kernel
theorem dX7_pace_1 : decode cX7_pace 1 = .ok (.iload_n 1, 1) := by decide +kernel
theorem dX7_pace_2 : decode cX7_pace 2 = .ok (.iload_n 2, 1) := by decide +kernel
theorem dX7_pace_3 : decode cX7_pace 3 = .ok (.invokevirtual 130, 3) := by decide +kernel
theorem dX7_pace_6 : decode cX7_pace 6 = .ok (.istore_n 3, 1) := by decide +kernel
theorem dX7_pace_7 : decode cX7_pace 7 = .ok (.iload_n 1, 1) := by decide +kernel
theorem dX7_pace_8 : decode cX7_pace 8 = .ok (.iconst 2, 1) := by decide +kernel
theorem dX7_pace_9 : decode cX7_pace 9 = .ok (.if_icmp .ne 10, 3) := by decide +kernel
theorem dX7_pace_12 : decode cX7_pace 12 = .ok (.aload_n 0, 1) := by decide +kernel
theorem dX7_pace_13 : decode cX7_pace 13 = .ok (.getfield 57, 3) := by decide +kernel
theorem dX7_pace_16 : decode cX7_pace 16 = .ok (.iload_n 3, 1) := by decide +kernel
theorem dX7_pace_17 : decode cX7_pace 17 = .ok (.iaload, 1) := by decide +kernel
theorem dX7_pace_18 : decode cX7_pace 18 = .ok (.ireturn, 1) := by decide +kernel
theorem dX7_pace_19 : decode cX7_pace 19 = .ok (.iload_n 1, 1) := by decide +kernel
theorem dX7_pace_20 : decode cX7_pace 20 = .ok (.iconst 3, 1) := by decide +kernel
theorem dX7_pace_21 : decode cX7_pace 21 = .ok (.if_icmp .ne 10, 3) := by decide +kernel
theorem dX7_pace_24 : decode cX7_pace 24 = .ok (.aload_n 0, 1) := by decide +kernel
theorem dX7_pace_25 : decode cX7_pace 25 = .ok (.getfield 60, 3) := by decide +kernel
theorem dX7_pace_28 : decode cX7_pace 28 = .ok (.iload_n 3, 1) := by decide +kernel
theorem dX7_pace_29 : decode cX7_pace 29 = .ok (.iaload, 1) := by decide +kernel
theorem dX7_pace_30 : decode cX7_pace 30 = .ok (.ireturn, 1) := by decide +kernel
theorem dX7_pace_31 : decode cX7_pace 31 = .ok (.iload_n 1, 1) := by decide +kernel
theorem dX7_pace_32 : decode cX7_pace 32 = .ok (.iconst 4, 1) := by decide +kernel
theorem dX7_pace_33 : decode cX7_pace 33 = .ok (.if_icmp .ne 12, 3) := by decide +kernel
theorem dX7_pace_36 : decode cX7_pace 36 = .ok (.aload_n 0, 1) := by decide +kernel
theorem dX7_pace_37 : decode cX7_pace 37 = .ok (.getfield 63, 3) := by decide +kernel
theorem dX7_pace_40 : decode cX7_pace 40 = .ok (.iload_n 3, 1) := by decide +kernel
theorem dX7_pace_41 : decode cX7_pace 41 = .ok (.iaload, 1) := by decide +kernel
theorem dX7_pace_42 : decode cX7_pace 42 = .ok (.goto 9, 3) := by decide +kernel
theorem dX7_pace_45 : decode cX7_pace 45 = .ok (.aload_n 0, 1) := by decide +kernel
theorem dX7_pace_46 : decode cX7_pace 46 = .ok (.getfield 66, 3) := by decide +kernel
theorem dX7_pace_49 : decode cX7_pace 49 = .ok (.iload_n 3, 1) := by decide +kernel
theorem dX7_pace_50 : decode cX7_pace 50 = .ok (.iaload, 1) := by decide +kernel
theorem dX7_pace_51 : decode cX7_pace 51 = .ok (.ireturn, 1) := by decide +kernel
theorem dX7_times_0 : decode cX7_times 0 = .ok (.aload_n 0, 1) := by decide +kernel
theorem dX7_times_1 : decode cX7_times 1 = .ok (.iload_n 1, 1) := by decide +kernel
theorem dX7_times_2 : decode cX7_times 2 = .ok (.invokevirtual 127, 3) := by decide +kernel
theorem dX7_times_5 : decode cX7_times 5 = .ok (.sipush 8191, 3) := by decide +kernel
theorem dX7_times_8 : decode cX7_times 8 = .ok (.iand, 1) := by decide +kernel
theorem dX7_times_9 : decode cX7_times 9 = .ok (.istore_n 3, 1) := by decide +kernel
theorem dX7_times_10 : decode cX7_times 10 = .ok (.aload_n 0, 1) := by decide +kernel
theorem dX7_times_11 : decode cX7_times 11 = .ok (.iload_n 3, 1) := by decide +kernel
theorem dX7_times_12 : decode cX7_times 12 = .ok (.invokevirtual 134, 3) := by decide +kernel
theorem dX7_times_15 : decode cX7_times 15 = .ok (.bipush 6, 2) := by decide +kernel
theorem dX7_times_17 : decode cX7_times 17 = .ok (.isub, 1) := by decide +kernel
theorem dX7_times_18 : decode cX7_times 18 = .ok (.istore 4, 2) := by decide +kernel
theorem dX7_times_20 : decode cX7_times 20 = .ok (.iload_n 3, 1) := by decide +kernel
theorem dX7_times_21 : decode cX7_times 21 = .ok (.ifCond .ne 8, 3) := by decide +kernel
theorem dX7_times_24 : decode cX7_times 24 = .ok (.bipush 32, 2) := by decide +kernel
theorem dX7_times_26 : decode cX7_times 26 = .ok (.goto 20, 3) := by decide +kernel
theorem dX7_times_29 : decode cX7_times 29 = .ok (.iload 4, 2) := by decide +kernel
theorem dX7_times_31 : decode cX7_times 31 = .ok (.ifCond .lt 10, 3) := by decide +kernel
theorem dX7_times_34 : decode cX7_times 34 = .ok (.iload_n 3, 1) := by decide +kernel
theorem dX7_times_35 : decode cX7_times 35 = .ok (.iload 4, 2) := by decide +kernel
theorem dX7_times_37 : decode cX7_times 37 = .ok (.ishr, 1) := by decide +kernel
theorem dX7_times_38 : decode cX7_times 38 = .ok (.goto 8, 3) := by decide +kernel
theorem dX7_times_41 : decode cX7_times 41 = .ok (.iload_n 3, 1) := by decide +kernel
theorem dX7_times_42 : decode cX7_times 42 = .ok (.iload 4, 2) := by decide +kernel
theorem dX7_times_44 : decode cX7_times 44 = .ok (.ineg, 1) := by decide +kernel
theorem dX7_times_45 : decode cX7_times 45 = .ok (.ishl, 1) := by decide +kernel
theorem dX7_times_46 : decode cX7_times 46 = .ok (.istore 5, 2) := by decide +kernel
theorem dX7_times_48 : decode cX7_times 48 = .ok (.iload 4, 2) := by decide +kernel
theorem dX7_times_50 : decode cX7_times 50 = .ok (.iload_n 2, 1) := by decide +kernel
theorem dX7_times_51 : decode cX7_times 51 = .ok (.bipush 6, 2) := by decide +kernel
theorem dX7_times_53 : decode cX7_times 53 = .ok (.ishr, 1) := by decide +kernel
theorem dX7_times_54 : decode cX7_times 54 = .ok (.bipush 15, 2) := by decide +kernel
theorem dX7_times_56 : decode cX7_times 56 = .ok (.iand, 1) := by decide +kernel
theorem dX7_times_57 : decode cX7_times 57 = .ok (.iadd, 1) := by decide +kernel
theorem dX7_times_58 : decode cX7_times 58 = .ok (.bipush 13, 2) := by decide +kernel
theorem dX7_times_60 : decode cX7_times 60 = .ok (.isub, 1) := by decide +kernel
theorem dX7_times_61 : decode cX7_times 61 = .ok (.istore 6, 2) := by decide +kernel
theorem dX7_times_63 : decode cX7_times 63 = .ok (.iload 5, 2) := by decide +kernel
theorem dX7_times_65 : decode cX7_times 65 = .ok (.iload_n 2, 1) := by decide +kernel
theorem dX7_times_66 : decode cX7_times 66 = .ok (.bipush 63, 2) := by decide +kernel
theorem dX7_times_68 : decode cX7_times 68 = .ok (.iand, 1) := by decide +kernel
theorem dX7_times_69 : decode cX7_times 69 = .ok (.imul, 1) := by decide +kernel
theorem dX7_times_70 : decode cX7_times 70 = .ok (.bipush 48, 2) := by decide +kernel
theorem dX7_times_72 : decode cX7_times 72 = .ok (.iadd, 1) := by decide +kernel
theorem dX7_times_73 : decode cX7_times 73 = .ok (.iconst 4, 1) := by decide +kernel
theorem dX7_times_74 : decode cX7_times 74 = .ok (.ishr, 1) := by decide +kernel
theorem dX7_times_75 : decode cX7_times 75 = .ok (.istore 7, 2) := by decide +kernel
theorem dX7_times_77 : decode cX7_times 77 = .ok (.iload 6, 2) := by decide +kernel
theorem dX7_times_79 : decode cX7_times 79 = .ok (.ifCond .lt 15, 3) := by decide +kernel
theorem dX7_times_82 : decode cX7_times 82 = .ok (.iload 7, 2) := by decide +kernel
theorem dX7_times_84 : decode cX7_times 84 = .ok (.iload 6, 2) := by decide +kernel
theorem dX7_times_86 : decode cX7_times 86 = .ok (.ishl, 1) := by decide +kernel
theorem dX7_times_87 : decode cX7_times 87 = .ok (.sipush 32767, 3) := by decide +kernel
theorem dX7_times_90 : decode cX7_times 90 = .ok (.iand, 1) := by decide +kernel
theorem dX7_times_91 : decode cX7_times 91 = .ok (.goto 9, 3) := by decide +kernel
theorem dX7_times_94 : decode cX7_times 94 = .ok (.iload 7, 2) := by decide +kernel
theorem dX7_times_96 : decode cX7_times 96 = .ok (.iload 6, 2) := by decide +kernel
theorem dX7_times_98 : decode cX7_times 98 = .ok (.ineg, 1) := by decide +kernel
theorem dX7_times_99 : decode cX7_times 99 = .ok (.ishr, 1) := by decide +kernel
theorem dX7_times_100 : decode cX7_times 100 = .ok (.istore 8, 2) := by decide +kernel
theorem dX7_times_102 : decode cX7_times 102 = .ok (.iload_n 1, 1) := by decide +kernel
theorem dX7_times_103 : decode cX7_times 103 = .ok (.ifCond .ge 7, 3) := by decide +kernel
theorem dX7_times_106 : decode cX7_times 106 = .ok (.iconst 1, 1) := by decide +kernel
theorem dX7_times_107 : decode cX7_times 107 = .ok (.goto 4, 3) := by decide +kernel
theorem dX7_times_110 : decode cX7_times 110 = .ok (.iconst 0, 1) := by decide +kernel
theorem dX7_times_111 : decode cX7_times 111 = .ok (.iload_n 2, 1) := by decide +kernel
theorem dX7_times_112 : decode cX7_times 112 = .ok (.ifCond .ge 7, 3) := by decide +kernel
theorem dX7_times_115 : decode cX7_times 115 = .ok (.iconst 1, 1) := by decide +kernel
theorem dX7_times_116 : decode cX7_times 116 = .ok (.goto 4, 3) := by decide +kernel
theorem dX7_times_119 : decode cX7_times 119 = .ok (.iconst 0, 1) := by decide +kernel
theorem dX7_times_120 : decode cX7_times 120 = .ok (.if_icmp .eq 9, 3) := by decide +kernel
theorem dX7_times_123 : decode cX7_times 123 = .ok (.iload 8, 2) := by decide +kernel
theorem dX7_times_125 : decode cX7_times 125 = .ok (.ineg, 1) := by decide +kernel
theorem dX7_times_126 : decode cX7_times 126 = .ok (.goto 5, 3) := by decide +kernel
theorem dX7_times_129 : decode cX7_times 129 = .ok (.iload 8, 2) := by decide +kernel
theorem dX7_times_131 : decode cX7_times 131 = .ok (.ireturn, 1) := by decide +kernel
theorem dX7_forehand_0 : decode cX7_forehand 0 = .ok (.bipush 24, 2) := by decide +kernel
theorem dX7_forehand_2 : decode cX7_forehand 2 = .ok (.iload_n 1, 1) := by decide +kernel
theorem dX7_forehand_3 : decode cX7_forehand 3 = .ok (.imul, 1) := by decide +kernel
theorem dX7_forehand_4 : decode cX7_forehand 4 = .ok (.istore_n 2, 1) := by decide +kernel
theorem dX7_forehand_5 : decode cX7_forehand 5 = .ok (.iconst 0, 1) := by decide +kernel
theorem dX7_forehand_6 : decode cX7_forehand 6 = .ok (.istore_n 3, 1) := by decide +kernel
theorem dX7_forehand_7 : decode cX7_forehand 7 = .ok (.iconst 0, 1) := by decide +kernel
theorem dX7_forehand_8 : decode cX7_forehand 8 = .ok (.istore 4, 2) := by decide +kernel
theorem dX7_forehand_10 : decode cX7_forehand 10 = .ok (.iload 4, 2) := by decide +kernel
theorem dX7_forehand_12 : decode cX7_forehand 12 = .ok (.bipush 6, 2) := by decide +kernel
theorem dX7_forehand_14 : decode cX7_forehand 14 = .ok (.if_icmp .ge 42, 3) := by decide +kernel
theorem dX7_forehand_17 : decode cX7_forehand 17 = .ok (.iload_n 3, 1) := by decide +kernel
theorem dX7_forehand_18 : decode cX7_forehand 18 = .ok (.aload_n 0, 1) := by decide +kernel
theorem dX7_forehand_19 : decode cX7_forehand 19 = .ok (.aload_n 0, 1) := by decide +kernel
theorem dX7_forehand_20 : decode cX7_forehand 20 = .ok (.getfield 17, 3) := by decide +kernel
theorem dX7_forehand_23 : decode cX7_forehand 23 = .ok (.iload_n 2, 1) := by decide +kernel
theorem dX7_forehand_24 : decode cX7_forehand 24 = .ok (.bipush 8, 2) := by decide +kernel
theorem dX7_forehand_26 : decode cX7_forehand 26 = .ok (.iadd, 1) := by decide +kernel
theorem dX7_forehand_27 : decode cX7_forehand 27 = .ok (.iload 4, 2) := by decide +kernel
theorem dX7_forehand_29 : decode cX7_forehand 29 = .ok (.iadd, 1) := by decide +kernel
theorem dX7_forehand_30 : decode cX7_forehand 30 = .ok (.iaload, 1) := by decide +kernel
theorem dX7_forehand_31 : decode cX7_forehand 31 = .ok (.iconst 2, 1) := by decide +kernel
theorem dX7_forehand_32 : decode cX7_forehand 32 = .ok (.ishr, 1) := by decide +kernel
theorem dX7_forehand_33 : decode cX7_forehand 33 = .ok (.aload_n 0, 1) := by decide +kernel
theorem dX7_forehand_34 : decode cX7_forehand 34 = .ok (.getfield 17, 3) := by decide +kernel
theorem dX7_forehand_37 : decode cX7_forehand 37 = .ok (.iload_n 2, 1) := by decide +kernel
theorem dX7_forehand_38 : decode cX7_forehand 38 = .ok (.bipush 16, 2) := by decide +kernel
theorem dX7_forehand_40 : decode cX7_forehand 40 = .ok (.iadd, 1) := by decide +kernel
theorem dX7_forehand_41 : decode cX7_forehand 41 = .ok (.iload 4, 2) := by decide +kernel
theorem dX7_forehand_43 : decode cX7_forehand 43 = .ok (.iadd, 1) := by decide +kernel
theorem dX7_forehand_44 : decode cX7_forehand 44 = .ok (.iaload, 1) := by decide +kernel
theorem dX7_forehand_45 : decode cX7_forehand 45 = .ok (.invokevirtual 137, 3) := by decide +kernel
theorem dX7_forehand_48 : decode cX7_forehand 48 = .ok (.iadd, 1) := by decide +kernel
theorem dX7_forehand_49 : decode cX7_forehand 49 = .ok (.istore_n 3, 1) := by decide +kernel
theorem dX7_forehand_50 : decode cX7_forehand 50 = .ok (.iinc 4 1, 3) := by decide +kernel
theorem dX7_forehand_53 : decode cX7_forehand 53 = .ok (.goto (-43), 3) := by decide +kernel
theorem dX7_forehand_56 : decode cX7_forehand 56 = .ok (.aload_n 0, 1) := by decide +kernel
theorem dX7_forehand_57 : decode cX7_forehand 57 = .ok (.iload_n 3, 1) := by decide +kernel
theorem dX7_forehand_58 : decode cX7_forehand 58 = .ok (.invokevirtual 140, 3) := by decide +kernel
theorem dX7_forehand_61 : decode cX7_forehand 61 = .ok (.istore_n 3, 1) := by decide +kernel
theorem dX7_forehand_62 : decode cX7_forehand 62 = .ok (.aload_n 0, 1) := by decide +kernel
theorem dX7_forehand_63 : decode cX7_forehand 63 = .ok (.iload_n 3, 1) := by decide +kernel
theorem dX7_forehand_64 : decode cX7_forehand 64 = .ok (.iconst 1, 1) := by decide +kernel
theorem dX7_forehand_65 : decode cX7_forehand 65 = .ok (.ishr, 1) := by decide +kernel
theorem dX7_forehand_66 : decode cX7_forehand 66 = .ok (.putfield 143, 3) := by decide +kernel
theorem dX7_forehand_69 : decode cX7_forehand 69 = .ok (.aload_n 0, 1) := by decide +kernel
theorem dX7_forehand_70 : decode cX7_forehand 70 = .ok (.aload_n 0, 1) := by decide +kernel
theorem dX7_forehand_71 : decode cX7_forehand 71 = .ok (.iload_n 3, 1) := by decide +kernel
theorem dX7_forehand_72 : decode cX7_forehand 72 = .ok (.aload_n 0, 1) := by decide +kernel
theorem dX7_forehand_73 : decode cX7_forehand 73 = .ok (.aload_n 0, 1) := by decide +kernel
theorem dX7_forehand_74 : decode cX7_forehand 74 = .ok (.getfield 17, 3) := by decide +kernel
theorem dX7_forehand_77 : decode cX7_forehand 77 = .ok (.iload_n 2, 1) := by decide +kernel
theorem dX7_forehand_78 : decode cX7_forehand 78 = .ok (.bipush 7, 2) := by decide +kernel
theorem dX7_forehand_80 : decode cX7_forehand 80 = .ok (.iadd, 1) := by decide +kernel
theorem dX7_forehand_81 : decode cX7_forehand 81 = .ok (.iaload, 1) := by decide +kernel
theorem dX7_forehand_82 : decode cX7_forehand 82 = .ok (.iconst 2, 1) := by decide +kernel
theorem dX7_forehand_83 : decode cX7_forehand 83 = .ok (.ishr, 1) := by decide +kernel
theorem dX7_forehand_84 : decode cX7_forehand 84 = .ok (.aload_n 0, 1) := by decide +kernel
theorem dX7_forehand_85 : decode cX7_forehand 85 = .ok (.getfield 17, 3) := by decide +kernel
theorem dX7_forehand_88 : decode cX7_forehand 88 = .ok (.iload_n 2, 1) := by decide +kernel
theorem dX7_forehand_89 : decode cX7_forehand 89 = .ok (.bipush 15, 2) := by decide +kernel
theorem dX7_forehand_91 : decode cX7_forehand 91 = .ok (.iadd, 1) := by decide +kernel
theorem dX7_forehand_92 : decode cX7_forehand 92 = .ok (.iaload, 1) := by decide +kernel
theorem dX7_forehand_93 : decode cX7_forehand 93 = .ok (.invokevirtual 137, 3) := by decide +kernel
theorem dX7_forehand_96 : decode cX7_forehand 96 = .ok (.iadd, 1) := by decide +kernel
theorem dX7_forehand_97 : decode cX7_forehand 97 = .ok (.aload_n 0, 1) := by decide +kernel
theorem dX7_forehand_98 : decode cX7_forehand 98 = .ok (.aload_n 0, 1) := by decide +kernel
theorem dX7_forehand_99 : decode cX7_forehand 99 = .ok (.getfield 17, 3) := by decide +kernel
theorem dX7_forehand_102 : decode cX7_forehand 102 = .ok (.iload_n 2, 1) := by decide +kernel
theorem dX7_forehand_103 : decode cX7_forehand 103 = .ok (.bipush 6, 2) := by decide +kernel
theorem dX7_forehand_105 : decode cX7_forehand 105 = .ok (.iadd, 1) := by decide +kernel
theorem dX7_forehand_106 : decode cX7_forehand 106 = .ok (.iaload, 1) := by decide +kernel
theorem dX7_forehand_107 : decode cX7_forehand 107 = .ok (.iconst 2, 1) := by decide +kernel
theorem dX7_forehand_108 : decode cX7_forehand 108 = .ok (.ishr, 1) := by decide +kernel
theorem dX7_forehand_109 : decode cX7_forehand 109 = .ok (.aload_n 0, 1) := by decide +kernel
theorem dX7_forehand_110 : decode cX7_forehand 110 = .ok (.getfield 17, 3) := by decide +kernel
theorem dX7_forehand_113 : decode cX7_forehand 113 = .ok (.iload_n 2, 1) := by decide +kernel
theorem dX7_forehand_114 : decode cX7_forehand 114 = .ok (.bipush 14, 2) := by decide +kernel
theorem dX7_forehand_116 : decode cX7_forehand 116 = .ok (.iadd, 1) := by decide +kernel
theorem dX7_forehand_117 : decode cX7_forehand 117 = .ok (.iaload, 1) := by decide +kernel
theorem dX7_forehand_118 : decode cX7_forehand 118 = .ok (.invokevirtual 137, 3) := by decide +kernel
theorem dX7_forehand_121 : decode cX7_forehand 121 = .ok (.iadd, 1) := by decide +kernel
theorem dX7_forehand_122 : decode cX7_forehand 122 = .ok (.invokevirtual 140, 3) := by decide +kernel
theorem dX7_forehand_125 : decode cX7_forehand 125 = .ok (.iconst 1, 1) := by decide +kernel
theorem dX7_forehand_126 : decode cX7_forehand 126 = .ok (.ishr, 1) := by decide +kernel
theorem dX7_forehand_127 : decode cX7_forehand 127 = .ok (.putfield 146, 3) := by decide +kernel
theorem dX7_forehand_130 : decode cX7_forehand 130 = .ok (.aload_n 0, 1) := by decide +kernel
theorem dX7_forehand_131 : decode cX7_forehand 131 = .ok (.getfield 17, 3) := by decide +kernel
theorem dX7_forehand_134 : decode cX7_forehand 134 = .ok (.iload_n 2, 1) := by decide +kernel
theorem dX7_forehand_135 : decode cX7_forehand 135 = .ok (.iaload, 1) := by decide +kernel
theorem dX7_forehand_136 : decode cX7_forehand 136 = .ok (.bipush 6, 2) := by decide +kernel
theorem dX7_forehand_138 : decode cX7_forehand 138 = .ok (.ishr, 1) := by decide +kernel
theorem dX7_forehand_139 : decode cX7_forehand 139 = .ok (.istore 4, 2) := by decide +kernel
theorem dX7_forehand_141 : decode cX7_forehand 141 = .ok (.aload_n 0, 1) := by decide +kernel
theorem dX7_forehand_142 : decode cX7_forehand 142 = .ok (.getfield 17, 3) := by decide +kernel
theorem dX7_forehand_145 : decode cX7_forehand 145 = .ok (.iload_n 2, 1) := by decide +kernel
theorem dX7_forehand_146 : decode cX7_forehand 146 = .ok (.iconst 1, 1) := by decide +kernel
theorem dX7_forehand_147 : decode cX7_forehand 147 = .ok (.iadd, 1) := by decide +kernel
theorem dX7_forehand_148 : decode cX7_forehand 148 = .ok (.iaload, 1) := by decide +kernel
theorem dX7_forehand_149 : decode cX7_forehand 149 = .ok (.iload 4, 2) := by decide +kernel
theorem dX7_forehand_151 : decode cX7_forehand 151 = .ok (.isub, 1) := by decide +kernel
theorem dX7_forehand_152 : decode cX7_forehand 152 = .ok (.istore 5, 2) := by decide +kernel
theorem dX7_forehand_154 : decode cX7_forehand 154 = .ok (.aload_n 0, 1) := by decide +kernel
theorem dX7_forehand_155 : decode cX7_forehand 155 = .ok (.getfield 17, 3) := by decide +kernel
theorem dX7_forehand_158 : decode cX7_forehand 158 = .ok (.iload_n 2, 1) := by decide +kernel
theorem dX7_forehand_159 : decode cX7_forehand 159 = .ok (.iconst 4, 1) := by decide +kernel
theorem dX7_forehand_160 : decode cX7_forehand 160 = .ok (.iadd, 1) := by decide +kernel
theorem dX7_forehand_161 : decode cX7_forehand 161 = .ok (.iaload, 1) := by decide +kernel
theorem dX7_forehand_162 : decode cX7_forehand 162 = .ok (.iconst 2, 1) := by decide +kernel
theorem dX7_forehand_163 : decode cX7_forehand 163 = .ok (.ishr, 1) := by decide +kernel
theorem dX7_forehand_164 : decode cX7_forehand 164 = .ok (.istore 6, 2) := by decide +kernel
theorem dX7_forehand_166 : decode cX7_forehand 166 = .ok (.aload_n 0, 1) := by decide +kernel
theorem dX7_forehand_167 : decode cX7_forehand 167 = .ok (.iload 4, 2) := by decide +kernel
theorem dX7_forehand_169 : decode cX7_forehand 169 = .ok (.putfield 149, 3) := by decide +kernel
theorem dX7_forehand_172 : decode cX7_forehand 172 = .ok (.aload_n 0, 1) := by decide +kernel
theorem dX7_forehand_173 : decode cX7_forehand 173 = .ok (.getfield 17, 3) := by decide +kernel
theorem dX7_forehand_176 : decode cX7_forehand 176 = .ok (.iload_n 2, 1) := by decide +kernel
theorem dX7_forehand_177 : decode cX7_forehand 177 = .ok (.iconst 4, 1) := by decide +kernel
theorem dX7_forehand_178 : decode cX7_forehand 178 = .ok (.iadd, 1) := by decide +kernel
theorem dX7_forehand_179 : decode cX7_forehand 179 = .ok (.iaload, 1) := by decide +kernel
theorem dX7_forehand_180 : decode cX7_forehand 180 = .ok (.sipush 256, 3) := by decide +kernel
theorem dX7_forehand_183 : decode cX7_forehand 183 = .ok (.if_icmp .lt 18, 3) := by decide +kernel
theorem dX7_forehand_186 : decode cX7_forehand 186 = .ok (.aload_n 0, 1) := by decide +kernel
theorem dX7_forehand_187 : decode cX7_forehand 187 = .ok (.aload_n 0, 1) := by decide +kernel
theorem dX7_forehand_188 : decode cX7_forehand 188 = .ok (.getfield 17, 3) := by decide +kernel
theorem dX7_forehand_191 : decode cX7_forehand 191 = .ok (.iload_n 2, 1) := by decide +kernel
theorem dX7_forehand_192 : decode cX7_forehand 192 = .ok (.iconst 1, 1) := by decide +kernel
theorem dX7_forehand_193 : decode cX7_forehand 193 = .ok (.iadd, 1) := by decide +kernel
theorem dX7_forehand_194 : decode cX7_forehand 194 = .ok (.iaload, 1) := by decide +kernel
theorem dX7_forehand_195 : decode cX7_forehand 195 = .ok (.putfield 149, 3) := by decide +kernel
theorem dX7_forehand_198 : decode cX7_forehand 198 = .ok (.goto 49, 3) := by decide +kernel
theorem dX7_forehand_201 : decode cX7_forehand 201 = .ok (.iload 5, 2) := by decide +kernel
theorem dX7_forehand_203 : decode cX7_forehand 203 = .ok (.ifCond .le 21, 3) := by decide +kernel
theorem dX7_forehand_206 : decode cX7_forehand 206 = .ok (.aload_n 0, 1) := by decide +kernel
theorem dX7_forehand_207 : decode cX7_forehand 207 = .ok (.iload 4, 2) := by decide +kernel
theorem dX7_forehand_209 : decode cX7_forehand 209 = .ok (.iload 5, 2) := by decide +kernel
theorem dX7_forehand_211 : decode cX7_forehand 211 = .ok (.iload 6, 2) := by decide +kernel
theorem dX7_forehand_213 : decode cX7_forehand 213 = .ok (.imul, 1) := by decide +kernel
theorem dX7_forehand_214 : decode cX7_forehand 214 = .ok (.bipush 6, 2) := by decide +kernel
theorem dX7_forehand_216 : decode cX7_forehand 216 = .ok (.ishr, 1) := by decide +kernel
theorem dX7_forehand_217 : decode cX7_forehand 217 = .ok (.iadd, 1) := by decide +kernel
theorem dX7_forehand_218 : decode cX7_forehand 218 = .ok (.putfield 149, 3) := by decide +kernel
theorem dX7_forehand_221 : decode cX7_forehand 221 = .ok (.goto 26, 3) := by decide +kernel
theorem dX7_forehand_224 : decode cX7_forehand 224 = .ok (.iload 5, 2) := by decide +kernel
theorem dX7_forehand_226 : decode cX7_forehand 226 = .ok (.ifCond .ge 21, 3) := by decide +kernel
theorem dX7_forehand_229 : decode cX7_forehand 229 = .ok (.aload_n 0, 1) := by decide +kernel
theorem dX7_forehand_230 : decode cX7_forehand 230 = .ok (.iload 4, 2) := by decide +kernel
theorem dX7_forehand_232 : decode cX7_forehand 232 = .ok (.iload 5, 2) := by decide +kernel
theorem dX7_forehand_234 : decode cX7_forehand 234 = .ok (.iload 6, 2) := by decide +kernel
theorem dX7_forehand_236 : decode cX7_forehand 236 = .ok (.imul, 1) := by decide +kernel
theorem dX7_forehand_237 : decode cX7_forehand 237 = .ok (.bipush 63, 2) := by decide +kernel
theorem dX7_forehand_239 : decode cX7_forehand 239 = .ok (.iadd, 1) := by decide +kernel
theorem dX7_forehand_240 : decode cX7_forehand 240 = .ok (.bipush 6, 2) := by decide +kernel
theorem dX7_forehand_242 : decode cX7_forehand 242 = .ok (.ishr, 1) := by decide +kernel
theorem dX7_forehand_243 : decode cX7_forehand 243 = .ok (.iadd, 1) := by decide +kernel
theorem dX7_forehand_244 : decode cX7_forehand 244 = .ok (.putfield 149, 3) := by decide +kernel
theorem dX7_forehand_247 : decode cX7_forehand 247 = .ok (.return_, 1) := by decide +kernel
theorem dX7_says726_0 : decode cX7_says726 0 = .ok (.aload_n 0, 1) := by decide +kernel
theorem dX7_says726_1 : decode cX7_says726 1 = .ok (.iload_n 1, 1) := by decide +kernel
theorem dX7_says726_2 : decode cX7_says726 2 = .ok (.invokevirtual 152, 3) := by decide +kernel
theorem dX7_says726_5 : decode cX7_says726 5 = .ok (.iload_n 3, 1) := by decide +kernel
theorem dX7_says726_6 : decode cX7_says726 6 = .ok (.iconst 2, 1) := by decide +kernel
theorem dX7_says726_7 : decode cX7_says726 7 = .ok (.ishr, 1) := by decide +kernel
theorem dX7_says726_8 : decode cX7_says726 8 = .ok (.aload_n 0, 1) := by decide +kernel
theorem dX7_says726_9 : decode cX7_says726 9 = .ok (.getfield 146, 3) := by decide +kernel
theorem dX7_says726_12 : decode cX7_says726 12 = .ok (.isub, 1) := by decide +kernel
theorem dX7_says726_13 : decode cX7_says726 13 = .ok (.istore 4, 2) := by decide +kernel
theorem dX7_says726_15 : decode cX7_says726 15 = .ok (.aload_n 0, 1) := by decide +kernel
theorem dX7_says726_16 : decode cX7_says726 16 = .ok (.iload 4, 2) := by decide +kernel
theorem dX7_says726_18 : decode cX7_says726 18 = .ok (.invokevirtual 127, 3) := by decide +kernel
theorem dX7_says726_21 : decode cX7_says726 21 = .ok (.istore 5, 2) := by decide +kernel
theorem dX7_says726_23 : decode cX7_says726 23 = .ok (.aload_n 0, 1) := by decide +kernel
theorem dX7_says726_24 : decode cX7_says726 24 = .ok (.iload 5, 2) := by decide +kernel
theorem dX7_says726_26 : decode cX7_says726 26 = .ok (.iconst 1, 1) := by decide +kernel
theorem dX7_says726_27 : decode cX7_says726 27 = .ok (.ishr, 1) := by decide +kernel
theorem dX7_says726_28 : decode cX7_says726 28 = .ok (.invokevirtual 134, 3) := by decide +kernel
theorem dX7_says726_31 : decode cX7_says726 31 = .ok (.istore 6, 2) := by decide +kernel
theorem dX7_says726_33 : decode cX7_says726 33 = .ok (.sipush 128, 3) := by decide +kernel
theorem dX7_says726_36 : decode cX7_says726 36 = .ok (.iload 6, 2) := by decide +kernel
theorem dX7_says726_38 : decode cX7_says726 38 = .ok (.imul, 1) := by decide +kernel
theorem dX7_says726_39 : decode cX7_says726 39 = .ok (.sipush 128, 3) := by decide +kernel
theorem dX7_says726_42 : decode cX7_says726 42 = .ok (.iload 5, 2) := by decide +kernel
theorem dX7_says726_44 : decode cX7_says726 44 = .ok (.imul, 1) := by decide +kernel
theorem dX7_says726_45 : decode cX7_says726 45 = .ok (.iload 6, 2) := by decide +kernel
theorem dX7_says726_47 : decode cX7_says726 47 = .ok (.ishr, 1) := by decide +kernel
theorem dX7_says726_48 : decode cX7_says726 48 = .ok (.bipush 127, 2) := by decide +kernel
theorem dX7_says726_50 : decode cX7_says726 50 = .ok (.iand, 1) := by decide +kernel
theorem dX7_says726_51 : decode cX7_says726 51 = .ok (.iadd, 1) := by decide +kernel
theorem dX7_says726_52 : decode cX7_says726 52 = .ok (.aload_n 0, 1) := by decide +kernel
theorem dX7_says726_53 : decode cX7_says726 53 = .ok (.getfield 149, 3) := by decide +kernel
theorem dX7_says726_56 : decode cX7_says726 56 = .ok (.iconst 2, 1) := by decide +kernel
theorem dX7_says726_57 : decode cX7_says726 57 = .ok (.ishr, 1) := by decide +kernel
theorem dX7_says726_58 : decode cX7_says726 58 = .ok (.isub, 1) := by decide +kernel
theorem dX7_says726_59 : decode cX7_says726 59 = .ok (.istore 7, 2) := by decide +kernel
theorem dX7_says726_61 : decode cX7_says726 61 = .ok (.iconst 1, 1) := by decide +kernel
theorem dX7_says726_62 : decode cX7_says726 62 = .ok (.iload_n 2, 1) := by decide +kernel
theorem dX7_says726_63 : decode cX7_says726 63 = .ok (.iconst 1, 1) := by decide +kernel
theorem dX7_says726_64 : decode cX7_says726 64 = .ok (.isub, 1) := by decide +kernel
theorem dX7_says726_65 : decode cX7_says726 65 = .ok (.ishl, 1) := by decide +kernel
theorem dX7_says726_66 : decode cX7_says726 66 = .ok (.iconst 1, 1) := by decide +kernel
theorem dX7_says726_67 : decode cX7_says726 67 = .ok (.isub, 1) := by decide +kernel
theorem dX7_says726_68 : decode cX7_says726 68 = .ok (.istore 8, 2) := by decide +kernel
theorem dX7_says726_70 : decode cX7_says726 70 = .ok (.iconst 0, 1) := by decide +kernel
theorem dX7_says726_71 : decode cX7_says726 71 = .ok (.istore 9, 2) := by decide +kernel
theorem dX7_says726_73 : decode cX7_says726 73 = .ok (.iload 9, 2) := by decide +kernel
theorem dX7_says726_75 : decode cX7_says726 75 = .ok (.iload 8, 2) := by decide +kernel
theorem dX7_says726_77 : decode cX7_says726 77 = .ok (.if_icmp .ge 24, 3) := by decide +kernel
theorem dX7_says726_80 : decode cX7_says726 80 = .ok (.iload 7, 2) := by decide +kernel
theorem dX7_says726_82 : decode cX7_says726 82 = .ok (.aload_n 0, 1) := by decide +kernel
theorem dX7_says726_83 : decode cX7_says726 83 = .ok (.iload_n 2, 1) := by decide +kernel
theorem dX7_says726_84 : decode cX7_says726 84 = .ok (.iload 9, 2) := by decide +kernel
theorem dX7_says726_86 : decode cX7_says726 86 = .ok (.invokevirtual 156, 3) := by decide +kernel
theorem dX7_says726_89 : decode cX7_says726 89 = .ok (.if_icmp .lt 12, 3) := by decide +kernel
theorem dX7_says726_92 : decode cX7_says726 92 = .ok (.iload 9, 2) := by decide +kernel
theorem dX7_says726_94 : decode cX7_says726 94 = .ok (.iconst 1, 1) := by decide +kernel
theorem dX7_says726_95 : decode cX7_says726 95 = .ok (.iadd, 1) := by decide +kernel
theorem dX7_says726_96 : decode cX7_says726 96 = .ok (.istore 9, 2) := by decide +kernel
theorem dX7_says726_98 : decode cX7_says726 98 = .ok (.goto (-25), 3) := by decide +kernel
theorem dX7_says726_101 : decode cX7_says726 101 = .ok (.iload 4, 2) := by decide +kernel
theorem dX7_says726_103 : decode cX7_says726 103 = .ok (.ifCond .ge 15, 3) := by decide +kernel
theorem dX7_says726_106 : decode cX7_says726 106 = .ok (.iconst 2, 1) := by decide +kernel
theorem dX7_says726_107 : decode cX7_says726 107 = .ok (.iload 8, 2) := by decide +kernel
theorem dX7_says726_109 : decode cX7_says726 109 = .ok (.imul, 1) := by decide +kernel
theorem dX7_says726_110 : decode cX7_says726 110 = .ok (.iconst 1, 1) := by decide +kernel
theorem dX7_says726_111 : decode cX7_says726 111 = .ok (.iadd, 1) := by decide +kernel
theorem dX7_says726_112 : decode cX7_says726 112 = .ok (.iload 9, 2) := by decide +kernel
theorem dX7_says726_114 : decode cX7_says726 114 = .ok (.isub, 1) := by decide +kernel
theorem dX7_says726_115 : decode cX7_says726 115 = .ok (.goto 5, 3) := by decide +kernel
theorem dX7_says726_118 : decode cX7_says726 118 = .ok (.iload 9, 2) := by decide +kernel
theorem dX7_says726_120 : decode cX7_says726 120 = .ok (.istore 10, 2) := by decide +kernel
theorem dX7_says726_122 : decode cX7_says726 122 = .ok (.iload 4, 2) := by decide +kernel
theorem dX7_says726_124 : decode cX7_says726 124 = .ok (.ifCond .lt 25, 3) := by decide +kernel
theorem dX7_says726_127 : decode cX7_says726 127 = .ok (.iload 9, 2) := by decide +kernel
theorem dX7_says726_129 : decode cX7_says726 129 = .ok (.ifCond .ne 20, 3) := by decide +kernel
theorem dX7_says726_132 : decode cX7_says726 132 = .ok (.iload_n 2, 1) := by decide +kernel
theorem dX7_says726_133 : decode cX7_says726 133 = .ok (.iconst 2, 1) := by decide +kernel
theorem dX7_says726_134 : decode cX7_says726 134 = .ok (.if_icmp .ne 7, 3) := by decide +kernel
theorem dX7_says726_137 : decode cX7_says726 137 = .ok (.iconst 0, 1) := by decide +kernel
theorem dX7_says726_138 : decode cX7_says726 138 = .ok (.goto 9, 3) := by decide +kernel
theorem dX7_says726_141 : decode cX7_says726 141 = .ok (.iconst 2, 1) := by decide +kernel
theorem dX7_says726_142 : decode cX7_says726 142 = .ok (.iload 8, 2) := by decide +kernel
theorem dX7_says726_144 : decode cX7_says726 144 = .ok (.imul, 1) := by decide +kernel
theorem dX7_says726_145 : decode cX7_says726 145 = .ok (.iconst 1, 1) := by decide +kernel
theorem dX7_says726_146 : decode cX7_says726 146 = .ok (.iadd, 1) := by decide +kernel
theorem dX7_says726_147 : decode cX7_says726 147 = .ok (.istore 10, 2) := by decide +kernel
theorem dX7_says726_149 : decode cX7_says726 149 = .ok (.aload_n 0, 1) := by decide +kernel
theorem dX7_says726_150 : decode cX7_says726 150 = .ok (.iload_n 1, 1) := by decide +kernel
theorem dX7_says726_151 : decode cX7_says726 151 = .ok (.iload_n 2, 1) := by decide +kernel
theorem dX7_says726_152 : decode cX7_says726 152 = .ok (.iload 10, 2) := by decide +kernel
theorem dX7_says726_154 : decode cX7_says726 154 = .ok (.invokevirtual 159, 3) := by decide +kernel
theorem dX7_says726_157 : decode cX7_says726 157 = .ok (.pop, 1) := by decide +kernel
theorem dX7_says726_158 : decode cX7_says726 158 = .ok (.iload 10, 2) := by decide +kernel
theorem dX7_says726_160 : decode cX7_says726 160 = .ok (.ireturn, 1) := by decide +kernel
theorem dX7_hears726_0 : decode cX7_hears726 0 = .ok (.aload_n 0, 1) := by decide +kernel
theorem dX7_hears726_1 : decode cX7_hears726 1 = .ok (.iload_n 1, 1) := by decide +kernel
theorem dX7_hears726_2 : decode cX7_hears726 2 = .ok (.invokevirtual 152, 3) := by decide +kernel
theorem dX7_hears726_5 : decode cX7_hears726 5 = .ok (.aload_n 0, 1) := by decide +kernel
theorem dX7_hears726_6 : decode cX7_hears726 6 = .ok (.iload_n 1, 1) := by decide +kernel
theorem dX7_hears726_7 : decode cX7_hears726 7 = .ok (.iload_n 2, 1) := by decide +kernel
theorem dX7_hears726_8 : decode cX7_hears726 8 = .ok (.iload_n 3, 1) := by decide +kernel
theorem dX7_hears726_9 : decode cX7_hears726 9 = .ok (.invokevirtual 159, 3) := by decide +kernel
theorem dX7_hears726_12 : decode cX7_hears726 12 = .ok (.ireturn, 1) := by decide +kernel
theorem dX7_floated_0 : decode cX7_floated 0 = .ok (.aload_n 0, 1) := by decide +kernel
theorem dX7_floated_1 : decode cX7_floated 1 = .ok (.iload_n 1, 1) := by decide +kernel
theorem dX7_floated_2 : decode cX7_floated 2 = .ok (.invokevirtual 134, 3) := by decide +kernel
theorem dX7_floated_5 : decode cX7_floated 5 = .ok (.istore_n 3, 1) := by decide +kernel
theorem dX7_floated_6 : decode cX7_floated 6 = .ok (.iload_n 1, 1) := by decide +kernel
theorem dX7_floated_7 : decode cX7_floated 7 = .ok (.ifCond .ne 8, 3) := by decide +kernel
theorem dX7_floated_10 : decode cX7_floated 10 = .ok (.bipush 32, 2) := by decide +kernel
theorem dX7_floated_12 : decode cX7_floated 12 = .ok (.goto 14, 3) := by decide +kernel
theorem dX7_floated_15 : decode cX7_floated 15 = .ok (.bipush 64, 2) := by decide +kernel
theorem dX7_floated_17 : decode cX7_floated 17 = .ok (.iload_n 3, 1) := by decide +kernel
theorem dX7_floated_18 : decode cX7_floated 18 = .ok (.imul, 1) := by decide +kernel
theorem dX7_floated_19 : decode cX7_floated 19 = .ok (.bipush 64, 2) := by decide +kernel
theorem dX7_floated_21 : decode cX7_floated 21 = .ok (.iload_n 1, 1) := by decide +kernel
theorem dX7_floated_22 : decode cX7_floated 22 = .ok (.imul, 1) := by decide +kernel
theorem dX7_floated_23 : decode cX7_floated 23 = .ok (.iload_n 3, 1) := by decide +kernel
theorem dX7_floated_24 : decode cX7_floated 24 = .ok (.ishr, 1) := by decide +kernel
theorem dX7_floated_25 : decode cX7_floated 25 = .ok (.iadd, 1) := by decide +kernel
theorem dX7_floated_26 : decode cX7_floated 26 = .ok (.istore 4, 2) := by decide +kernel
theorem dX7_floated_28 : decode cX7_floated 28 = .ok (.iload_n 2, 1) := by decide +kernel
theorem dX7_floated_29 : decode cX7_floated 29 = .ok (.ifCond .eq 12, 3) := by decide +kernel
theorem dX7_floated_32 : decode cX7_floated 32 = .ok (.iload 4, 2) := by decide +kernel
theorem dX7_floated_34 : decode cX7_floated 34 = .ok (.sipush 1024, 3) := by decide +kernel
theorem dX7_floated_37 : decode cX7_floated 37 = .ok (.isub, 1) := by decide +kernel
theorem dX7_floated_38 : decode cX7_floated 38 = .ok (.goto 5, 3) := by decide +kernel
theorem dX7_floated_41 : decode cX7_floated 41 = .ok (.iload 4, 2) := by decide +kernel
theorem dX7_floated_43 : decode cX7_floated 43 = .ok (.ireturn, 1) := by decide +kernel
theorem dX7_comes_0 : decode cX7_comes 0 = .ok (.bipush 24, 2) := by decide +kernel
theorem dX7_comes_2 : decode cX7_comes 2 = .ok (.iload_n 1, 1) := by decide +kernel
theorem dX7_comes_3 : decode cX7_comes 3 = .ok (.imul, 1) := by decide +kernel
theorem dX7_comes_4 : decode cX7_comes 4 = .ok (.istore 4, 2) := by decide +kernel
theorem dX7_comes_6 : decode cX7_comes 6 = .ok (.aload_n 0, 1) := by decide +kernel
theorem dX7_comes_7 : decode cX7_comes 7 = .ok (.getfield 149, 3) := by decide +kernel
theorem dX7_comes_10 : decode cX7_comes 10 = .ok (.istore 5, 2) := by decide +kernel
theorem dX7_comes_12 : decode cX7_comes 12 = .ok (.aload_n 0, 1) := by decide +kernel
theorem dX7_comes_13 : decode cX7_comes 13 = .ok (.iload_n 2, 1) := by decide +kernel
theorem dX7_comes_14 : decode cX7_comes 14 = .ok (.iload_n 3, 1) := by decide +kernel
theorem dX7_comes_15 : decode cX7_comes 15 = .ok (.invokevirtual 163, 3) := by decide +kernel
theorem dX7_comes_18 : decode cX7_comes 18 = .ok (.iload 5, 2) := by decide +kernel
theorem dX7_comes_20 : decode cX7_comes 20 = .ok (.iconst 2, 1) := by decide +kernel
theorem dX7_comes_21 : decode cX7_comes 21 = .ok (.ishr, 1) := by decide +kernel
theorem dX7_comes_22 : decode cX7_comes 22 = .ok (.iadd, 1) := by decide +kernel
theorem dX7_comes_23 : decode cX7_comes 23 = .ok (.istore 6, 2) := by decide +kernel
theorem dX7_comes_25 : decode cX7_comes 25 = .ok (.iload 6, 2) := by decide +kernel
theorem dX7_comes_27 : decode cX7_comes 27 = .ok (.ifCond .ge 7, 3) := by decide +kernel
theorem dX7_comes_30 : decode cX7_comes 30 = .ok (.iconst 0, 1) := by decide +kernel
theorem dX7_comes_31 : decode cX7_comes 31 = .ok (.goto 28, 3) := by decide +kernel
theorem dX7_comes_34 : decode cX7_comes 34 = .ok (.sipush 128, 3) := by decide +kernel
theorem dX7_comes_37 : decode cX7_comes 37 = .ok (.iload 6, 2) := by decide +kernel
theorem dX7_comes_39 : decode cX7_comes 39 = .ok (.bipush 127, 2) := by decide +kernel
theorem dX7_comes_41 : decode cX7_comes 41 = .ok (.iand, 1) := by decide +kernel
theorem dX7_comes_42 : decode cX7_comes 42 = .ok (.iadd, 1) := by decide +kernel
theorem dX7_comes_43 : decode cX7_comes 43 = .ok (.sipush 128, 3) := by decide +kernel
theorem dX7_comes_46 : decode cX7_comes 46 = .ok (.imul, 1) := by decide +kernel
theorem dX7_comes_47 : decode cX7_comes 47 = .ok (.bipush 14, 2) := by decide +kernel
theorem dX7_comes_49 : decode cX7_comes 49 = .ok (.iload 6, 2) := by decide +kernel
theorem dX7_comes_51 : decode cX7_comes 51 = .ok (.bipush 7, 2) := by decide +kernel
theorem dX7_comes_53 : decode cX7_comes 53 = .ok (.ishr, 1) := by decide +kernel
theorem dX7_comes_54 : decode cX7_comes 54 = .ok (.bipush 15, 2) := by decide +kernel
theorem dX7_comes_56 : decode cX7_comes 56 = .ok (.iand, 1) := by decide +kernel
theorem dX7_comes_57 : decode cX7_comes 57 = .ok (.isub, 1) := by decide +kernel
theorem dX7_comes_58 : decode cX7_comes 58 = .ok (.ishr, 1) := by decide +kernel
theorem dX7_comes_59 : decode cX7_comes 59 = .ok (.istore 7, 2) := by decide +kernel
theorem dX7_comes_61 : decode cX7_comes 61 = .ok (.iload_n 3, 1) := by decide +kernel
theorem dX7_comes_62 : decode cX7_comes 62 = .ok (.iload_n 2, 1) := by decide +kernel
theorem dX7_comes_63 : decode cX7_comes 63 = .ok (.iconst 1, 1) := by decide +kernel
theorem dX7_comes_64 : decode cX7_comes 64 = .ok (.isub, 1) := by decide +kernel
theorem dX7_comes_65 : decode cX7_comes 65 = .ok (.ishr, 1) := by decide +kernel
theorem dX7_comes_66 : decode cX7_comes 66 = .ok (.iconst 1, 1) := by decide +kernel
theorem dX7_comes_67 : decode cX7_comes 67 = .ok (.if_icmp .ne 7, 3) := by decide +kernel
theorem dX7_comes_70 : decode cX7_comes 70 = .ok (.iconst 1, 1) := by decide +kernel
theorem dX7_comes_71 : decode cX7_comes 71 = .ok (.goto 4, 3) := by decide +kernel
theorem dX7_comes_74 : decode cX7_comes 74 = .ok (.iconst 0, 1) := by decide +kernel
theorem dX7_comes_75 : decode cX7_comes 75 = .ok (.istore 8, 2) := by decide +kernel
theorem dX7_comes_77 : decode cX7_comes 77 = .ok (.aload_n 0, 1) := by decide +kernel
theorem dX7_comes_78 : decode cX7_comes 78 = .ok (.iload 8, 2) := by decide +kernel
theorem dX7_comes_80 : decode cX7_comes 80 = .ok (.ifCond .eq 13, 3) := by decide +kernel
theorem dX7_comes_83 : decode cX7_comes 83 = .ok (.aload_n 0, 1) := by decide +kernel
theorem dX7_comes_84 : decode cX7_comes 84 = .ok (.getfield 146, 3) := by decide +kernel
theorem dX7_comes_87 : decode cX7_comes 87 = .ok (.iload 7, 2) := by decide +kernel
theorem dX7_comes_89 : decode cX7_comes 89 = .ok (.isub, 1) := by decide +kernel
theorem dX7_comes_90 : decode cX7_comes 90 = .ok (.goto 10, 3) := by decide +kernel
theorem dX7_comes_93 : decode cX7_comes 93 = .ok (.aload_n 0, 1) := by decide +kernel
theorem dX7_comes_94 : decode cX7_comes 94 = .ok (.getfield 146, 3) := by decide +kernel
theorem dX7_comes_97 : decode cX7_comes 97 = .ok (.iload 7, 2) := by decide +kernel
theorem dX7_comes_99 : decode cX7_comes 99 = .ok (.iadd, 1) := by decide +kernel
theorem dX7_comes_100 : decode cX7_comes 100 = .ok (.invokevirtual 140, 3) := by decide +kernel
theorem dX7_comes_103 : decode cX7_comes 103 = .ok (.istore 9, 2) := by decide +kernel
theorem dX7_comes_105 : decode cX7_comes 105 = .ok (.aload_n 0, 1) := by decide +kernel
theorem dX7_comes_106 : decode cX7_comes 106 = .ok (.iload 9, 2) := by decide +kernel
theorem dX7_comes_108 : decode cX7_comes 108 = .ok (.aload_n 0, 1) := by decide +kernel
theorem dX7_comes_109 : decode cX7_comes 109 = .ok (.getfield 143, 3) := by decide +kernel
theorem dX7_comes_112 : decode cX7_comes 112 = .ok (.iadd, 1) := by decide +kernel
theorem dX7_comes_113 : decode cX7_comes 113 = .ok (.aload_n 0, 1) := by decide +kernel
theorem dX7_comes_114 : decode cX7_comes 114 = .ok (.getfield 146, 3) := by decide +kernel
theorem dX7_comes_117 : decode cX7_comes 117 = .ok (.isub, 1) := by decide +kernel
theorem dX7_comes_118 : decode cX7_comes 118 = .ok (.invokevirtual 140, 3) := by decide +kernel
theorem dX7_comes_121 : decode cX7_comes 121 = .ok (.istore 10, 2) := by decide +kernel
theorem dX7_comes_123 : decode cX7_comes 123 = .ok (.iconst 0, 1) := by decide +kernel
theorem dX7_comes_124 : decode cX7_comes 124 = .ok (.istore 11, 2) := by decide +kernel
theorem dX7_comes_126 : decode cX7_comes 126 = .ok (.aload_n 0, 1) := by decide +kernel
theorem dX7_comes_127 : decode cX7_comes 127 = .ok (.getfield 17, 3) := by decide +kernel
theorem dX7_comes_130 : decode cX7_comes 130 = .ok (.iload 4, 2) := by decide +kernel
theorem dX7_comes_132 : decode cX7_comes 132 = .ok (.iconst 5, 1) := by decide +kernel
theorem dX7_comes_133 : decode cX7_comes 133 = .ok (.iadd, 1) := by decide +kernel
theorem dX7_comes_134 : decode cX7_comes 134 = .ok (.iaload, 1) := by decide +kernel
theorem dX7_comes_135 : decode cX7_comes 135 = .ok (.iconst 1, 1) := by decide +kernel
theorem dX7_comes_136 : decode cX7_comes 136 = .ok (.if_icmp .ne 74, 3) := by decide +kernel
theorem dX7_comes_139 : decode cX7_comes 139 = .ok (.aload_n 0, 1) := by decide +kernel
theorem dX7_comes_140 : decode cX7_comes 140 = .ok (.getfield 17, 3) := by decide +kernel
theorem dX7_comes_143 : decode cX7_comes 143 = .ok (.iload 4, 2) := by decide +kernel
theorem dX7_comes_145 : decode cX7_comes 145 = .ok (.iaload, 1) := by decide +kernel
theorem dX7_comes_146 : decode cX7_comes 146 = .ok (.bipush 15, 2) := by decide +kernel
theorem dX7_comes_148 : decode cX7_comes 148 = .ok (.ishr, 1) := by decide +kernel
theorem dX7_comes_149 : decode cX7_comes 149 = .ok (.istore 12, 2) := by decide +kernel
theorem dX7_comes_151 : decode cX7_comes 151 = .ok (.iload 12, 2) := by decide +kernel
theorem dX7_comes_153 : decode cX7_comes 153 = .ok (.bipush 9, 2) := by decide +kernel
theorem dX7_comes_155 : decode cX7_comes 155 = .ok (.if_icmp .le 9, 3) := by decide +kernel
theorem dX7_comes_158 : decode cX7_comes 158 = .ok (.sipush 31744, 3) := by decide +kernel
theorem dX7_comes_161 : decode cX7_comes 161 = .ok (.goto 22, 3) := by decide +kernel
theorem dX7_comes_164 : decode cX7_comes 164 = .ok (.bipush 32, 2) := by decide +kernel
theorem dX7_comes_166 : decode cX7_comes 166 = .ok (.aload_n 0, 1) := by decide +kernel
theorem dX7_comes_167 : decode cX7_comes 167 = .ok (.getfield 17, 3) := by decide +kernel
theorem dX7_comes_170 : decode cX7_comes 170 = .ok (.iload 4, 2) := by decide +kernel
theorem dX7_comes_172 : decode cX7_comes 172 = .ok (.iaload, 1) := by decide +kernel
theorem dX7_comes_173 : decode cX7_comes 173 = .ok (.bipush 10, 2) := by decide +kernel
theorem dX7_comes_175 : decode cX7_comes 175 = .ok (.ishr, 1) := by decide +kernel
theorem dX7_comes_176 : decode cX7_comes 176 = .ok (.bipush 31, 2) := by decide +kernel
theorem dX7_comes_178 : decode cX7_comes 178 = .ok (.iand, 1) := by decide +kernel
theorem dX7_comes_179 : decode cX7_comes 179 = .ok (.iadd, 1) := by decide +kernel
theorem dX7_comes_180 : decode cX7_comes 180 = .ok (.iload 12, 2) := by decide +kernel
theorem dX7_comes_182 : decode cX7_comes 182 = .ok (.ishl, 1) := by decide +kernel
theorem dX7_comes_183 : decode cX7_comes 183 = .ok (.istore 13, 2) := by decide +kernel
theorem dX7_comes_185 : decode cX7_comes 185 = .ok (.iload 13, 2) := by decide +kernel
theorem dX7_comes_187 : decode cX7_comes 187 = .ok (.iload 13, 2) := by decide +kernel
theorem dX7_comes_189 : decode cX7_comes 189 = .ok (.iconst 1, 1) := by decide +kernel
theorem dX7_comes_190 : decode cX7_comes 190 = .ok (.ishr, 1) := by decide +kernel
theorem dX7_comes_191 : decode cX7_comes 191 = .ok (.iadd, 1) := by decide +kernel
theorem dX7_comes_192 : decode cX7_comes 192 = .ok (.iconst 1, 1) := by decide +kernel
theorem dX7_comes_193 : decode cX7_comes 193 = .ok (.ishr, 1) := by decide +kernel
theorem dX7_comes_194 : decode cX7_comes 194 = .ok (.istore 14, 2) := by decide +kernel
theorem dX7_comes_196 : decode cX7_comes 196 = .ok (.iload 7, 2) := by decide +kernel
theorem dX7_comes_198 : decode cX7_comes 198 = .ok (.iload 14, 2) := by decide +kernel
theorem dX7_comes_200 : decode cX7_comes 200 = .ok (.if_icmp .le 7, 3) := by decide +kernel
theorem dX7_comes_203 : decode cX7_comes 203 = .ok (.iconst 1, 1) := by decide +kernel
theorem dX7_comes_204 : decode cX7_comes 204 = .ok (.goto 4, 3) := by decide +kernel
theorem dX7_comes_207 : decode cX7_comes 207 = .ok (.iconst 0, 1) := by decide +kernel
theorem dX7_comes_208 : decode cX7_comes 208 = .ok (.istore 11, 2) := by decide +kernel
theorem dX7_comes_210 : decode cX7_comes 210 = .ok (.aload_n 0, 1) := by decide +kernel
theorem dX7_comes_211 : decode cX7_comes 211 = .ok (.getfield 17, 3) := by decide +kernel
theorem dX7_comes_214 : decode cX7_comes 214 = .ok (.iload 4, 2) := by decide +kernel
theorem dX7_comes_216 : decode cX7_comes 216 = .ok (.iconst 1, 1) := by decide +kernel
theorem dX7_comes_217 : decode cX7_comes 217 = .ok (.iadd, 1) := by decide +kernel
theorem dX7_comes_218 : decode cX7_comes 218 = .ok (.aload_n 0, 1) := by decide +kernel
theorem dX7_comes_219 : decode cX7_comes 219 = .ok (.iload 5, 2) := by decide +kernel
theorem dX7_comes_221 : decode cX7_comes 221 = .ok (.aload_n 0, 1) := by decide +kernel
theorem dX7_comes_222 : decode cX7_comes 222 = .ok (.iload_n 2, 1) := by decide +kernel
theorem dX7_comes_223 : decode cX7_comes 223 = .ok (.iload_n 3, 1) := by decide +kernel
theorem dX7_comes_224 : decode cX7_comes 224 = .ok (.invokevirtual 166, 3) := by decide +kernel
theorem dX7_comes_227 : decode cX7_comes 227 = .ok (.iload 5, 2) := by decide +kernel
theorem dX7_comes_229 : decode cX7_comes 229 = .ok (.isub, 1) := by decide +kernel
theorem dX7_comes_230 : decode cX7_comes 230 = .ok (.iconst 5, 1) := by decide +kernel
theorem dX7_comes_231 : decode cX7_comes 231 = .ok (.ishr, 1) := by decide +kernel
theorem dX7_comes_232 : decode cX7_comes 232 = .ok (.iadd, 1) := by decide +kernel
theorem dX7_comes_233 : decode cX7_comes 233 = .ok (.sipush 544, 3) := by decide +kernel
theorem dX7_comes_236 : decode cX7_comes 236 = .ok (.sipush 5120, 3) := by decide +kernel
theorem dX7_comes_239 : decode cX7_comes 239 = .ok (.invokevirtual 169, 3) := by decide +kernel
theorem dX7_comes_242 : decode cX7_comes 242 = .ok (.iastore, 1) := by decide +kernel
theorem dX7_comes_243 : decode cX7_comes 243 = .ok (.aload_n 0, 1) := by decide +kernel
theorem dX7_comes_244 : decode cX7_comes 244 = .ok (.getfield 17, 3) := by decide +kernel
theorem dX7_comes_247 : decode cX7_comes 247 = .ok (.iload 4, 2) := by decide +kernel
theorem dX7_comes_249 : decode cX7_comes 249 = .ok (.aload_n 0, 1) := by decide +kernel
theorem dX7_comes_250 : decode cX7_comes 250 = .ok (.getfield 17, 3) := by decide +kernel
theorem dX7_comes_253 : decode cX7_comes 253 = .ok (.iload 4, 2) := by decide +kernel
theorem dX7_comes_255 : decode cX7_comes 255 = .ok (.iaload, 1) := by decide +kernel
theorem dX7_comes_256 : decode cX7_comes 256 = .ok (.aload_n 0, 1) := by decide +kernel
theorem dX7_comes_257 : decode cX7_comes 257 = .ok (.getfield 17, 3) := by decide +kernel
theorem dX7_comes_260 : decode cX7_comes 260 = .ok (.iload 4, 2) := by decide +kernel
theorem dX7_comes_262 : decode cX7_comes 262 = .ok (.iconst 1, 1) := by decide +kernel
theorem dX7_comes_263 : decode cX7_comes 263 = .ok (.iadd, 1) := by decide +kernel
theorem dX7_comes_264 : decode cX7_comes 264 = .ok (.iaload, 1) := by decide +kernel
theorem dX7_comes_265 : decode cX7_comes 265 = .ok (.iadd, 1) := by decide +kernel
theorem dX7_comes_266 : decode cX7_comes 266 = .ok (.aload_n 0, 1) := by decide +kernel
theorem dX7_comes_267 : decode cX7_comes 267 = .ok (.getfield 17, 3) := by decide +kernel
theorem dX7_comes_270 : decode cX7_comes 270 = .ok (.iload 4, 2) := by decide +kernel
theorem dX7_comes_272 : decode cX7_comes 272 = .ok (.iaload, 1) := by decide +kernel
theorem dX7_comes_273 : decode cX7_comes 273 = .ok (.ineg, 1) := by decide +kernel
theorem dX7_comes_274 : decode cX7_comes 274 = .ok (.bipush 6, 2) := by decide +kernel
theorem dX7_comes_276 : decode cX7_comes 276 = .ok (.ishr, 1) := by decide +kernel
theorem dX7_comes_277 : decode cX7_comes 277 = .ok (.iadd, 1) := by decide +kernel
theorem dX7_comes_278 : decode cX7_comes 278 = .ok (.iastore, 1) := by decide +kernel
theorem dX7_comes_279 : decode cX7_comes 279 = .ok (.aload_n 0, 1) := by decide +kernel
theorem dX7_comes_280 : decode cX7_comes 280 = .ok (.iload 10, 2) := by decide +kernel
theorem dX7_comes_282 : decode cX7_comes 282 = .ok (.invokevirtual 123, 3) := by decide +kernel
theorem dX7_comes_285 : decode cX7_comes 285 = .ok (.istore 12, 2) := by decide +kernel
theorem dX7_comes_287 : decode cX7_comes 287 = .ok (.iconst 0, 1) := by decide +kernel
theorem dX7_comes_288 : decode cX7_comes 288 = .ok (.istore 13, 2) := by decide +kernel
theorem dX7_comes_290 : decode cX7_comes 290 = .ok (.iload 11, 2) := by decide +kernel
theorem dX7_comes_292 : decode cX7_comes 292 = .ok (.iconst 1, 1) := by decide +kernel
theorem dX7_comes_293 : decode cX7_comes 293 = .ok (.if_icmp .ne 34, 3) := by decide +kernel
theorem dX7_comes_296 : decode cX7_comes 296 = .ok (.bipush 6, 2) := by decide +kernel
theorem dX7_comes_298 : decode cX7_comes 298 = .ok (.istore 14, 2) := by decide +kernel
theorem dX7_comes_300 : decode cX7_comes 300 = .ok (.iload 14, 2) := by decide +kernel
theorem dX7_comes_302 : decode cX7_comes 302 = .ok (.bipush 14, 2) := by decide +kernel
theorem dX7_comes_304 : decode cX7_comes 304 = .ok (.if_icmp .ge 20, 3) := by decide +kernel
theorem dX7_comes_307 : decode cX7_comes 307 = .ok (.aload_n 0, 1) := by decide +kernel
theorem dX7_comes_308 : decode cX7_comes 308 = .ok (.getfield 17, 3) := by decide +kernel
theorem dX7_comes_311 : decode cX7_comes 311 = .ok (.iload 4, 2) := by decide +kernel
theorem dX7_comes_313 : decode cX7_comes 313 = .ok (.iload 14, 2) := by decide +kernel
theorem dX7_comes_315 : decode cX7_comes 315 = .ok (.iadd, 1) := by decide +kernel
theorem dX7_comes_316 : decode cX7_comes 316 = .ok (.iconst 0, 1) := by decide +kernel
theorem dX7_comes_317 : decode cX7_comes 317 = .ok (.iastore, 1) := by decide +kernel
theorem dX7_comes_318 : decode cX7_comes 318 = .ok (.iinc 14 1, 3) := by decide +kernel
theorem dX7_comes_321 : decode cX7_comes 321 = .ok (.goto (-21), 3) := by decide +kernel
theorem dX7_comes_324 : decode cX7_comes 324 = .ok (.goto 129, 3) := by decide +kernel
theorem dX7_comes_327 : decode cX7_comes 327 = .ok (.aload_n 0, 1) := by decide +kernel
theorem dX7_comes_328 : decode cX7_comes 328 = .ok (.iload 4, 2) := by decide +kernel
theorem dX7_comes_330 : decode cX7_comes 330 = .ok (.iload 12, 2) := by decide +kernel
theorem dX7_comes_332 : decode cX7_comes 332 = .ok (.iload 10, 2) := by decide +kernel
theorem dX7_comes_334 : decode cX7_comes 334 = .ok (.invokevirtual 172, 3) := by decide +kernel
theorem dX7_comes_337 : decode cX7_comes 337 = .ok (.istore 13, 2) := by decide +kernel
theorem dX7_comes_339 : decode cX7_comes 339 = .ok (.iconst 0, 1) := by decide +kernel
theorem dX7_comes_340 : decode cX7_comes 340 = .ok (.istore 14, 2) := by decide +kernel
theorem dX7_comes_342 : decode cX7_comes 342 = .ok (.iload 14, 2) := by decide +kernel
theorem dX7_comes_344 : decode cX7_comes 344 = .ok (.bipush 6, 2) := by decide +kernel
theorem dX7_comes_346 : decode cX7_comes 346 = .ok (.if_icmp .ge 107, 3) := by decide +kernel
theorem dX7_comes_349 : decode cX7_comes 349 = .ok (.aload_n 0, 1) := by decide +kernel
theorem dX7_comes_350 : decode cX7_comes 350 = .ok (.getfield 17, 3) := by decide +kernel
theorem dX7_comes_353 : decode cX7_comes 353 = .ok (.iload 4, 2) := by decide +kernel
theorem dX7_comes_355 : decode cX7_comes 355 = .ok (.bipush 8, 2) := by decide +kernel
theorem dX7_comes_357 : decode cX7_comes 357 = .ok (.iadd, 1) := by decide +kernel
theorem dX7_comes_358 : decode cX7_comes 358 = .ok (.iload 14, 2) := by decide +kernel
theorem dX7_comes_360 : decode cX7_comes 360 = .ok (.iadd, 1) := by decide +kernel
theorem dX7_comes_361 : decode cX7_comes 361 = .ok (.iaload, 1) := by decide +kernel
theorem dX7_comes_362 : decode cX7_comes 362 = .ok (.istore 15, 2) := by decide +kernel
theorem dX7_comes_364 : decode cX7_comes 364 = .ok (.iload 15, 2) := by decide +kernel
theorem dX7_comes_366 : decode cX7_comes 366 = .ok (.iload 15, 2) := by decide +kernel
theorem dX7_comes_368 : decode cX7_comes 368 = .ok (.iload_n 2, 1) := by decide +kernel
theorem dX7_comes_369 : decode cX7_comes 369 = .ok (.iconst 5, 1) := by decide +kernel
theorem dX7_comes_370 : decode cX7_comes 370 = .ok (.if_icmp .ne 8, 3) := by decide +kernel
theorem dX7_comes_373 : decode cX7_comes 373 = .ok (.bipush 9, 2) := by decide +kernel
theorem dX7_comes_375 : decode cX7_comes 375 = .ok (.goto 5, 3) := by decide +kernel
theorem dX7_comes_378 : decode cX7_comes 378 = .ok (.bipush 8, 2) := by decide +kernel
theorem dX7_comes_380 : decode cX7_comes 380 = .ok (.ishr, 1) := by decide +kernel
theorem dX7_comes_381 : decode cX7_comes 381 = .ok (.isub, 1) := by decide +kernel
theorem dX7_comes_382 : decode cX7_comes 382 = .ok (.istore 15, 2) := by decide +kernel
theorem dX7_comes_384 : decode cX7_comes 384 = .ok (.iload 7, 2) := by decide +kernel
theorem dX7_comes_386 : decode cX7_comes 386 = .ok (.ifCond .eq 42, 3) := by decide +kernel
theorem dX7_comes_389 : decode cX7_comes 389 = .ok (.iload 15, 2) := by decide +kernel
theorem dX7_comes_391 : decode cX7_comes 391 = .ok (.iload 8, 2) := by decide +kernel
theorem dX7_comes_393 : decode cX7_comes 393 = .ok (.aload_n 0, 1) := by decide +kernel
theorem dX7_comes_394 : decode cX7_comes 394 = .ok (.getfield 17, 3) := by decide +kernel
theorem dX7_comes_397 : decode cX7_comes 397 = .ok (.iload 4, 2) := by decide +kernel
theorem dX7_comes_399 : decode cX7_comes 399 = .ok (.bipush 16, 2) := by decide +kernel
theorem dX7_comes_401 : decode cX7_comes 401 = .ok (.iadd, 1) := by decide +kernel
theorem dX7_comes_402 : decode cX7_comes 402 = .ok (.iload 14, 2) := by decide +kernel
theorem dX7_comes_404 : decode cX7_comes 404 = .ok (.iadd, 1) := by decide +kernel
theorem dX7_comes_405 : decode cX7_comes 405 = .ok (.iaload, 1) := by decide +kernel
theorem dX7_comes_406 : decode cX7_comes 406 = .ok (.ifCond .ge 7, 3) := by decide +kernel
theorem dX7_comes_409 : decode cX7_comes 409 = .ok (.iconst 1, 1) := by decide +kernel
theorem dX7_comes_410 : decode cX7_comes 410 = .ok (.goto 4, 3) := by decide +kernel
theorem dX7_comes_413 : decode cX7_comes 413 = .ok (.iconst 0, 1) := by decide +kernel
theorem dX7_comes_414 : decode cX7_comes 414 = .ok (.if_icmp .ne 9, 3) := by decide +kernel
theorem dX7_comes_417 : decode cX7_comes 417 = .ok (.sipush 128, 3) := by decide +kernel
theorem dX7_comes_420 : decode cX7_comes 420 = .ok (.goto 5, 3) := by decide +kernel
theorem dX7_comes_423 : decode cX7_comes 423 = .ok (.bipush (-128), 2) := by decide +kernel
theorem dX7_comes_425 : decode cX7_comes 425 = .ok (.iadd, 1) := by decide +kernel
theorem dX7_comes_426 : decode cX7_comes 426 = .ok (.istore 15, 2) := by decide +kernel
theorem dX7_comes_428 : decode cX7_comes 428 = .ok (.aload_n 0, 1) := by decide +kernel
theorem dX7_comes_429 : decode cX7_comes 429 = .ok (.getfield 17, 3) := by decide +kernel
theorem dX7_comes_432 : decode cX7_comes 432 = .ok (.iload 4, 2) := by decide +kernel
theorem dX7_comes_434 : decode cX7_comes 434 = .ok (.bipush 8, 2) := by decide +kernel
theorem dX7_comes_436 : decode cX7_comes 436 = .ok (.iadd, 1) := by decide +kernel
theorem dX7_comes_437 : decode cX7_comes 437 = .ok (.iload 14, 2) := by decide +kernel
theorem dX7_comes_439 : decode cX7_comes 439 = .ok (.iadd, 1) := by decide +kernel
theorem dX7_comes_440 : decode cX7_comes 440 = .ok (.aload_n 0, 1) := by decide +kernel
theorem dX7_comes_441 : decode cX7_comes 441 = .ok (.iload 15, 2) := by decide +kernel
theorem dX7_comes_443 : decode cX7_comes 443 = .ok (.invokevirtual 140, 3) := by decide +kernel
theorem dX7_comes_446 : decode cX7_comes 446 = .ok (.iastore, 1) := by decide +kernel
theorem dX7_comes_447 : decode cX7_comes 447 = .ok (.iinc 14 1, 3) := by decide +kernel
theorem dX7_comes_450 : decode cX7_comes 450 = .ok (.goto (-108), 3) := by decide +kernel
theorem dX7_comes_453 : decode cX7_comes 453 = .ok (.iconst 5, 1) := by decide +kernel
theorem dX7_comes_454 : decode cX7_comes 454 = .ok (.istore 14, 2) := by decide +kernel
theorem dX7_comes_456 : decode cX7_comes 456 = .ok (.iload 14, 2) := by decide +kernel
theorem dX7_comes_458 : decode cX7_comes 458 = .ok (.ifCond .le 37, 3) := by decide +kernel
theorem dX7_comes_461 : decode cX7_comes 461 = .ok (.aload_n 0, 1) := by decide +kernel
theorem dX7_comes_462 : decode cX7_comes 462 = .ok (.getfield 17, 3) := by decide +kernel
theorem dX7_comes_465 : decode cX7_comes 465 = .ok (.iload 4, 2) := by decide +kernel
theorem dX7_comes_467 : decode cX7_comes 467 = .ok (.bipush 16, 2) := by decide +kernel
theorem dX7_comes_469 : decode cX7_comes 469 = .ok (.iadd, 1) := by decide +kernel
theorem dX7_comes_470 : decode cX7_comes 470 = .ok (.iload 14, 2) := by decide +kernel
theorem dX7_comes_472 : decode cX7_comes 472 = .ok (.iadd, 1) := by decide +kernel
theorem dX7_comes_473 : decode cX7_comes 473 = .ok (.aload_n 0, 1) := by decide +kernel
theorem dX7_comes_474 : decode cX7_comes 474 = .ok (.getfield 17, 3) := by decide +kernel
theorem dX7_comes_477 : decode cX7_comes 477 = .ok (.iload 4, 2) := by decide +kernel
theorem dX7_comes_479 : decode cX7_comes 479 = .ok (.bipush 16, 2) := by decide +kernel
theorem dX7_comes_481 : decode cX7_comes 481 = .ok (.iadd, 1) := by decide +kernel
theorem dX7_comes_482 : decode cX7_comes 482 = .ok (.iload 14, 2) := by decide +kernel
theorem dX7_comes_484 : decode cX7_comes 484 = .ok (.iadd, 1) := by decide +kernel
theorem dX7_comes_485 : decode cX7_comes 485 = .ok (.iconst 1, 1) := by decide +kernel
theorem dX7_comes_486 : decode cX7_comes 486 = .ok (.isub, 1) := by decide +kernel
theorem dX7_comes_487 : decode cX7_comes 487 = .ok (.iaload, 1) := by decide +kernel
theorem dX7_comes_488 : decode cX7_comes 488 = .ok (.iastore, 1) := by decide +kernel
theorem dX7_comes_489 : decode cX7_comes 489 = .ok (.iinc 14 (-1), 3) := by decide +kernel
theorem dX7_comes_492 : decode cX7_comes 492 = .ok (.goto (-36), 3) := by decide +kernel
theorem dX7_comes_495 : decode cX7_comes 495 = .ok (.aload_n 0, 1) := by decide +kernel
theorem dX7_comes_496 : decode cX7_comes 496 = .ok (.getfield 17, 3) := by decide +kernel
theorem dX7_comes_499 : decode cX7_comes 499 = .ok (.iload 4, 2) := by decide +kernel
theorem dX7_comes_501 : decode cX7_comes 501 = .ok (.bipush 16, 2) := by decide +kernel
theorem dX7_comes_503 : decode cX7_comes 503 = .ok (.iadd, 1) := by decide +kernel
theorem dX7_comes_504 : decode cX7_comes 504 = .ok (.aload_n 0, 1) := by decide +kernel
theorem dX7_comes_505 : decode cX7_comes 505 = .ok (.iload 7, 2) := by decide +kernel
theorem dX7_comes_507 : decode cX7_comes 507 = .ok (.iload 8, 2) := by decide +kernel
theorem dX7_comes_509 : decode cX7_comes 509 = .ok (.invokevirtual 175, 3) := by decide +kernel
theorem dX7_comes_512 : decode cX7_comes 512 = .ok (.iastore, 1) := by decide +kernel
theorem dX7_comes_513 : decode cX7_comes 513 = .ok (.aload_n 0, 1) := by decide +kernel
theorem dX7_comes_514 : decode cX7_comes 514 = .ok (.getfield 17, 3) := by decide +kernel
theorem dX7_comes_517 : decode cX7_comes 517 = .ok (.iload 4, 2) := by decide +kernel
theorem dX7_comes_519 : decode cX7_comes 519 = .ok (.bipush 15, 2) := by decide +kernel
theorem dX7_comes_521 : decode cX7_comes 521 = .ok (.iadd, 1) := by decide +kernel
theorem dX7_comes_522 : decode cX7_comes 522 = .ok (.aload_n 0, 1) := by decide +kernel
theorem dX7_comes_523 : decode cX7_comes 523 = .ok (.getfield 17, 3) := by decide +kernel
theorem dX7_comes_526 : decode cX7_comes 526 = .ok (.iload 4, 2) := by decide +kernel
theorem dX7_comes_528 : decode cX7_comes 528 = .ok (.bipush 14, 2) := by decide +kernel
theorem dX7_comes_530 : decode cX7_comes 530 = .ok (.iadd, 1) := by decide +kernel
theorem dX7_comes_531 : decode cX7_comes 531 = .ok (.iaload, 1) := by decide +kernel
theorem dX7_comes_532 : decode cX7_comes 532 = .ok (.iastore, 1) := by decide +kernel
theorem dX7_comes_533 : decode cX7_comes 533 = .ok (.aload_n 0, 1) := by decide +kernel
theorem dX7_comes_534 : decode cX7_comes 534 = .ok (.getfield 17, 3) := by decide +kernel
theorem dX7_comes_537 : decode cX7_comes 537 = .ok (.iload 4, 2) := by decide +kernel
theorem dX7_comes_539 : decode cX7_comes 539 = .ok (.bipush 14, 2) := by decide +kernel
theorem dX7_comes_541 : decode cX7_comes 541 = .ok (.iadd, 1) := by decide +kernel
theorem dX7_comes_542 : decode cX7_comes 542 = .ok (.iload 9, 2) := by decide +kernel
theorem dX7_comes_544 : decode cX7_comes 544 = .ok (.sipush (-32768), 3) := by decide +kernel
theorem dX7_comes_547 : decode cX7_comes 547 = .ok (.if_icmp .ne 9, 3) := by decide +kernel
theorem dX7_comes_550 : decode cX7_comes 550 = .ok (.sipush (-992), 3) := by decide +kernel
theorem dX7_comes_553 : decode cX7_comes 553 = .ok (.goto 23, 3) := by decide +kernel
theorem dX7_comes_556 : decode cX7_comes 556 = .ok (.aload_n 0, 1) := by decide +kernel
theorem dX7_comes_557 : decode cX7_comes 557 = .ok (.aload_n 0, 1) := by decide +kernel
theorem dX7_comes_558 : decode cX7_comes 558 = .ok (.iload 9, 2) := by decide +kernel
theorem dX7_comes_560 : decode cX7_comes 560 = .ok (.invokevirtual 127, 3) := by decide +kernel
theorem dX7_comes_563 : decode cX7_comes 563 = .ok (.iload 9, 2) := by decide +kernel
theorem dX7_comes_565 : decode cX7_comes 565 = .ok (.ifCond .ge 7, 3) := by decide +kernel
theorem dX7_comes_568 : decode cX7_comes 568 = .ok (.iconst 1, 1) := by decide +kernel
theorem dX7_comes_569 : decode cX7_comes 569 = .ok (.goto 4, 3) := by decide +kernel
theorem dX7_comes_572 : decode cX7_comes 572 = .ok (.iconst 0, 1) := by decide +kernel
theorem dX7_comes_573 : decode cX7_comes 573 = .ok (.invokevirtual 175, 3) := by decide +kernel
theorem dX7_comes_576 : decode cX7_comes 576 = .ok (.iastore, 1) := by decide +kernel
theorem dX7_comes_577 : decode cX7_comes 577 = .ok (.aload_n 0, 1) := by decide +kernel
theorem dX7_comes_578 : decode cX7_comes 578 = .ok (.getfield 17, 3) := by decide +kernel
theorem dX7_comes_581 : decode cX7_comes 581 = .ok (.iload 4, 2) := by decide +kernel
theorem dX7_comes_583 : decode cX7_comes 583 = .ok (.bipush 23, 2) := by decide +kernel
theorem dX7_comes_585 : decode cX7_comes 585 = .ok (.iadd, 1) := by decide +kernel
theorem dX7_comes_586 : decode cX7_comes 586 = .ok (.aload_n 0, 1) := by decide +kernel
theorem dX7_comes_587 : decode cX7_comes 587 = .ok (.getfield 17, 3) := by decide +kernel
theorem dX7_comes_590 : decode cX7_comes 590 = .ok (.iload 4, 2) := by decide +kernel
theorem dX7_comes_592 : decode cX7_comes 592 = .ok (.bipush 22, 2) := by decide +kernel
theorem dX7_comes_594 : decode cX7_comes 594 = .ok (.iadd, 1) := by decide +kernel
theorem dX7_comes_595 : decode cX7_comes 595 = .ok (.iaload, 1) := by decide +kernel
theorem dX7_comes_596 : decode cX7_comes 596 = .ok (.iastore, 1) := by decide +kernel
theorem dX7_comes_597 : decode cX7_comes 597 = .ok (.aload_n 0, 1) := by decide +kernel
theorem dX7_comes_598 : decode cX7_comes 598 = .ok (.getfield 17, 3) := by decide +kernel
theorem dX7_comes_601 : decode cX7_comes 601 = .ok (.iload 4, 2) := by decide +kernel
theorem dX7_comes_603 : decode cX7_comes 603 = .ok (.bipush 22, 2) := by decide +kernel
theorem dX7_comes_605 : decode cX7_comes 605 = .ok (.iadd, 1) := by decide +kernel
theorem dX7_comes_606 : decode cX7_comes 606 = .ok (.iload 12, 2) := by decide +kernel
theorem dX7_comes_608 : decode cX7_comes 608 = .ok (.iastore, 1) := by decide +kernel
theorem dX7_comes_609 : decode cX7_comes 609 = .ok (.aload_n 0, 1) := by decide +kernel
theorem dX7_comes_610 : decode cX7_comes 610 = .ok (.getfield 17, 3) := by decide +kernel
theorem dX7_comes_613 : decode cX7_comes 613 = .ok (.iload 4, 2) := by decide +kernel
theorem dX7_comes_615 : decode cX7_comes 615 = .ok (.iconst 5, 1) := by decide +kernel
theorem dX7_comes_616 : decode cX7_comes 616 = .ok (.iadd, 1) := by decide +kernel
theorem dX7_comes_617 : decode cX7_comes 617 = .ok (.iload 11, 2) := by decide +kernel
theorem dX7_comes_619 : decode cX7_comes 619 = .ok (.ifCond .ne 15, 3) := by decide +kernel
theorem dX7_comes_622 : decode cX7_comes 622 = .ok (.iload 13, 2) := by decide +kernel
theorem dX7_comes_624 : decode cX7_comes 624 = .ok (.sipush (-11776), 3) := by decide +kernel
theorem dX7_comes_627 : decode cX7_comes 627 = .ok (.if_icmp .ge 7, 3) := by decide +kernel
theorem dX7_comes_630 : decode cX7_comes 630 = .ok (.iconst 1, 1) := by decide +kernel
theorem dX7_comes_631 : decode cX7_comes 631 = .ok (.goto 4, 3) := by decide +kernel
theorem dX7_comes_634 : decode cX7_comes 634 = .ok (.iconst 0, 1) := by decide +kernel
theorem dX7_comes_635 : decode cX7_comes 635 = .ok (.iastore, 1) := by decide +kernel
theorem dX7_comes_636 : decode cX7_comes 636 = .ok (.aload_n 0, 1) := by decide +kernel
theorem dX7_comes_637 : decode cX7_comes 637 = .ok (.iload_n 2, 1) := by decide +kernel
theorem dX7_comes_638 : decode cX7_comes 638 = .ok (.iload_n 3, 1) := by decide +kernel
theorem dX7_comes_639 : decode cX7_comes 639 = .ok (.invokevirtual 179, 3) := by decide +kernel
theorem dX7_comes_642 : decode cX7_comes 642 = .ok (.istore 14, 2) := by decide +kernel
theorem dX7_comes_644 : decode cX7_comes 644 = .ok (.aload_n 0, 1) := by decide +kernel
theorem dX7_comes_645 : decode cX7_comes 645 = .ok (.getfield 17, 3) := by decide +kernel
theorem dX7_comes_648 : decode cX7_comes 648 = .ok (.iload 4, 2) := by decide +kernel
theorem dX7_comes_650 : decode cX7_comes 650 = .ok (.iconst 2, 1) := by decide +kernel
theorem dX7_comes_651 : decode cX7_comes 651 = .ok (.iadd, 1) := by decide +kernel
theorem dX7_comes_652 : decode cX7_comes 652 = .ok (.aload_n 0, 1) := by decide +kernel
theorem dX7_comes_653 : decode cX7_comes 653 = .ok (.getfield 17, 3) := by decide +kernel
theorem dX7_comes_656 : decode cX7_comes 656 = .ok (.iload 4, 2) := by decide +kernel
theorem dX7_comes_658 : decode cX7_comes 658 = .ok (.iconst 2, 1) := by decide +kernel
theorem dX7_comes_659 : decode cX7_comes 659 = .ok (.iadd, 1) := by decide +kernel
theorem dX7_comes_660 : decode cX7_comes 660 = .ok (.iaload, 1) := by decide +kernel
theorem dX7_comes_661 : decode cX7_comes 661 = .ok (.iload 14, 2) := by decide +kernel
theorem dX7_comes_663 : decode cX7_comes 663 = .ok (.aload_n 0, 1) := by decide +kernel
theorem dX7_comes_664 : decode cX7_comes 664 = .ok (.getfield 17, 3) := by decide +kernel
theorem dX7_comes_667 : decode cX7_comes 667 = .ok (.iload 4, 2) := by decide +kernel
theorem dX7_comes_669 : decode cX7_comes 669 = .ok (.iconst 2, 1) := by decide +kernel
theorem dX7_comes_670 : decode cX7_comes 670 = .ok (.iadd, 1) := by decide +kernel
theorem dX7_comes_671 : decode cX7_comes 671 = .ok (.iaload, 1) := by decide +kernel
theorem dX7_comes_672 : decode cX7_comes 672 = .ok (.isub, 1) := by decide +kernel
theorem dX7_comes_673 : decode cX7_comes 673 = .ok (.iconst 5, 1) := by decide +kernel
theorem dX7_comes_674 : decode cX7_comes 674 = .ok (.ishr, 1) := by decide +kernel
theorem dX7_comes_675 : decode cX7_comes 675 = .ok (.iadd, 1) := by decide +kernel
theorem dX7_comes_676 : decode cX7_comes 676 = .ok (.iastore, 1) := by decide +kernel
theorem dX7_comes_677 : decode cX7_comes 677 = .ok (.aload_n 0, 1) := by decide +kernel
theorem dX7_comes_678 : decode cX7_comes 678 = .ok (.getfield 17, 3) := by decide +kernel
theorem dX7_comes_681 : decode cX7_comes 681 = .ok (.iload 4, 2) := by decide +kernel
theorem dX7_comes_683 : decode cX7_comes 683 = .ok (.iconst 3, 1) := by decide +kernel
theorem dX7_comes_684 : decode cX7_comes 684 = .ok (.iadd, 1) := by decide +kernel
theorem dX7_comes_685 : decode cX7_comes 685 = .ok (.aload_n 0, 1) := by decide +kernel
theorem dX7_comes_686 : decode cX7_comes 686 = .ok (.getfield 17, 3) := by decide +kernel
theorem dX7_comes_689 : decode cX7_comes 689 = .ok (.iload 4, 2) := by decide +kernel
theorem dX7_comes_691 : decode cX7_comes 691 = .ok (.iconst 3, 1) := by decide +kernel
theorem dX7_comes_692 : decode cX7_comes 692 = .ok (.iadd, 1) := by decide +kernel
theorem dX7_comes_693 : decode cX7_comes 693 = .ok (.iaload, 1) := by decide +kernel
theorem dX7_comes_694 : decode cX7_comes 694 = .ok (.iconst 4, 1) := by decide +kernel
theorem dX7_comes_695 : decode cX7_comes 695 = .ok (.iload 14, 2) := by decide +kernel
theorem dX7_comes_697 : decode cX7_comes 697 = .ok (.imul, 1) := by decide +kernel
theorem dX7_comes_698 : decode cX7_comes 698 = .ok (.aload_n 0, 1) := by decide +kernel
theorem dX7_comes_699 : decode cX7_comes 699 = .ok (.getfield 17, 3) := by decide +kernel
theorem dX7_comes_702 : decode cX7_comes 702 = .ok (.iload 4, 2) := by decide +kernel
theorem dX7_comes_704 : decode cX7_comes 704 = .ok (.iconst 3, 1) := by decide +kernel
theorem dX7_comes_705 : decode cX7_comes 705 = .ok (.iadd, 1) := by decide +kernel
theorem dX7_comes_706 : decode cX7_comes 706 = .ok (.iaload, 1) := by decide +kernel
theorem dX7_comes_707 : decode cX7_comes 707 = .ok (.isub, 1) := by decide +kernel
theorem dX7_comes_708 : decode cX7_comes 708 = .ok (.bipush 7, 2) := by decide +kernel
theorem dX7_comes_710 : decode cX7_comes 710 = .ok (.ishr, 1) := by decide +kernel
theorem dX7_comes_711 : decode cX7_comes 711 = .ok (.iadd, 1) := by decide +kernel
theorem dX7_comes_712 : decode cX7_comes 712 = .ok (.iastore, 1) := by decide +kernel
theorem dX7_comes_713 : decode cX7_comes 713 = .ok (.iload 5, 2) := by decide +kernel
theorem dX7_comes_715 : decode cX7_comes 715 = .ok (.sipush 1536, 3) := by decide +kernel
theorem dX7_comes_718 : decode cX7_comes 718 = .ok (.if_icmp .lt 55, 3) := by decide +kernel
theorem dX7_comes_721 : decode cX7_comes 721 = .ok (.aload_n 0, 1) := by decide +kernel
theorem dX7_comes_722 : decode cX7_comes 722 = .ok (.getfield 17, 3) := by decide +kernel
theorem dX7_comes_725 : decode cX7_comes 725 = .ok (.iload 4, 2) := by decide +kernel
theorem dX7_comes_727 : decode cX7_comes 727 = .ok (.iconst 5, 1) := by decide +kernel
theorem dX7_comes_728 : decode cX7_comes 728 = .ok (.iadd, 1) := by decide +kernel
theorem dX7_comes_729 : decode cX7_comes 729 = .ok (.iaload, 1) := by decide +kernel
theorem dX7_comes_730 : decode cX7_comes 730 = .ok (.iconst 1, 1) := by decide +kernel
theorem dX7_comes_731 : decode cX7_comes 731 = .ok (.if_icmp .eq 42, 3) := by decide +kernel
theorem dX7_comes_734 : decode cX7_comes 734 = .ok (.aload_n 0, 1) := by decide +kernel
theorem dX7_comes_735 : decode cX7_comes 735 = .ok (.iconst 4, 1) := by decide +kernel
theorem dX7_comes_736 : decode cX7_comes 736 = .ok (.aload_n 0, 1) := by decide +kernel
theorem dX7_comes_737 : decode cX7_comes 737 = .ok (.getfield 17, 3) := by decide +kernel
theorem dX7_comes_740 : decode cX7_comes 740 = .ok (.iload 4, 2) := by decide +kernel
theorem dX7_comes_742 : decode cX7_comes 742 = .ok (.iconst 2, 1) := by decide +kernel
theorem dX7_comes_743 : decode cX7_comes 743 = .ok (.iadd, 1) := by decide +kernel
theorem dX7_comes_744 : decode cX7_comes 744 = .ok (.iaload, 1) := by decide +kernel
theorem dX7_comes_745 : decode cX7_comes 745 = .ok (.imul, 1) := by decide +kernel
theorem dX7_comes_746 : decode cX7_comes 746 = .ok (.aload_n 0, 1) := by decide +kernel
theorem dX7_comes_747 : decode cX7_comes 747 = .ok (.getfield 17, 3) := by decide +kernel
theorem dX7_comes_750 : decode cX7_comes 750 = .ok (.iload 4, 2) := by decide +kernel
theorem dX7_comes_752 : decode cX7_comes 752 = .ok (.iconst 3, 1) := by decide +kernel
theorem dX7_comes_753 : decode cX7_comes 753 = .ok (.iadd, 1) := by decide +kernel
theorem dX7_comes_754 : decode cX7_comes 754 = .ok (.iaload, 1) := by decide +kernel
theorem dX7_comes_755 : decode cX7_comes 755 = .ok (.isub, 1) := by decide +kernel
theorem dX7_comes_756 : decode cX7_comes 756 = .ok (.invokevirtual 127, 3) := by decide +kernel
theorem dX7_comes_759 : decode cX7_comes 759 = .ok (.aload_n 0, 1) := by decide +kernel
theorem dX7_comes_760 : decode cX7_comes 760 = .ok (.getfield 17, 3) := by decide +kernel
theorem dX7_comes_763 : decode cX7_comes 763 = .ok (.iload 4, 2) := by decide +kernel
theorem dX7_comes_765 : decode cX7_comes 765 = .ok (.iconst 3, 1) := by decide +kernel
theorem dX7_comes_766 : decode cX7_comes 766 = .ok (.iadd, 1) := by decide +kernel
theorem dX7_comes_767 : decode cX7_comes 767 = .ok (.iaload, 1) := by decide +kernel
theorem dX7_comes_768 : decode cX7_comes 768 = .ok (.iconst 3, 1) := by decide +kernel
theorem dX7_comes_769 : decode cX7_comes 769 = .ok (.ishr, 1) := by decide +kernel
theorem dX7_comes_770 : decode cX7_comes 770 = .ok (.if_icmp .lt 7, 3) := by decide +kernel
theorem dX7_comes_773 : decode cX7_comes 773 = .ok (.iconst 1, 1) := by decide +kernel
theorem dX7_comes_774 : decode cX7_comes 774 = .ok (.goto 4, 3) := by decide +kernel
theorem dX7_comes_777 : decode cX7_comes 777 = .ok (.iconst 0, 1) := by decide +kernel
theorem dX7_comes_778 : decode cX7_comes 778 = .ok (.istore 15, 2) := by decide +kernel
theorem dX7_comes_780 : decode cX7_comes 780 = .ok (.iload 11, 2) := by decide +kernel
theorem dX7_comes_782 : decode cX7_comes 782 = .ok (.iconst 1, 1) := by decide +kernel
theorem dX7_comes_783 : decode cX7_comes 783 = .ok (.if_icmp .ne 18, 3) := by decide +kernel
theorem dX7_comes_786 : decode cX7_comes 786 = .ok (.aload_n 0, 1) := by decide +kernel
theorem dX7_comes_787 : decode cX7_comes 787 = .ok (.getfield 17, 3) := by decide +kernel
theorem dX7_comes_790 : decode cX7_comes 790 = .ok (.iload 4, 2) := by decide +kernel
theorem dX7_comes_792 : decode cX7_comes 792 = .ok (.iconst 4, 1) := by decide +kernel
theorem dX7_comes_793 : decode cX7_comes 793 = .ok (.iadd, 1) := by decide +kernel
theorem dX7_comes_794 : decode cX7_comes 794 = .ok (.sipush 256, 3) := by decide +kernel
theorem dX7_comes_797 : decode cX7_comes 797 = .ok (.iastore, 1) := by decide +kernel
theorem dX7_comes_798 : decode cX7_comes 798 = .ok (.goto 46, 3) := by decide +kernel
theorem dX7_comes_801 : decode cX7_comes 801 = .ok (.aload_n 0, 1) := by decide +kernel
theorem dX7_comes_802 : decode cX7_comes 802 = .ok (.getfield 17, 3) := by decide +kernel
theorem dX7_comes_805 : decode cX7_comes 805 = .ok (.iload 4, 2) := by decide +kernel
theorem dX7_comes_807 : decode cX7_comes 807 = .ok (.iconst 4, 1) := by decide +kernel
theorem dX7_comes_808 : decode cX7_comes 808 = .ok (.iadd, 1) := by decide +kernel
theorem dX7_comes_809 : decode cX7_comes 809 = .ok (.aload_n 0, 1) := by decide +kernel
theorem dX7_comes_810 : decode cX7_comes 810 = .ok (.getfield 17, 3) := by decide +kernel
theorem dX7_comes_813 : decode cX7_comes 813 = .ok (.iload 4, 2) := by decide +kernel
theorem dX7_comes_815 : decode cX7_comes 815 = .ok (.iconst 4, 1) := by decide +kernel
theorem dX7_comes_816 : decode cX7_comes 816 = .ok (.iadd, 1) := by decide +kernel
theorem dX7_comes_817 : decode cX7_comes 817 = .ok (.iaload, 1) := by decide +kernel
theorem dX7_comes_818 : decode cX7_comes 818 = .ok (.iload 15, 2) := by decide +kernel
theorem dX7_comes_820 : decode cX7_comes 820 = .ok (.ifCond .eq 9, 3) := by decide +kernel
theorem dX7_comes_823 : decode cX7_comes 823 = .ok (.sipush 512, 3) := by decide +kernel
theorem dX7_comes_826 : decode cX7_comes 826 = .ok (.goto 4, 3) := by decide +kernel
theorem dX7_comes_829 : decode cX7_comes 829 = .ok (.iconst 0, 1) := by decide +kernel
theorem dX7_comes_830 : decode cX7_comes 830 = .ok (.aload_n 0, 1) := by decide +kernel
theorem dX7_comes_831 : decode cX7_comes 831 = .ok (.getfield 17, 3) := by decide +kernel
theorem dX7_comes_834 : decode cX7_comes 834 = .ok (.iload 4, 2) := by decide +kernel
theorem dX7_comes_836 : decode cX7_comes 836 = .ok (.iconst 4, 1) := by decide +kernel
theorem dX7_comes_837 : decode cX7_comes 837 = .ok (.iadd, 1) := by decide +kernel
theorem dX7_comes_838 : decode cX7_comes 838 = .ok (.iaload, 1) := by decide +kernel
theorem dX7_comes_839 : decode cX7_comes 839 = .ok (.isub, 1) := by decide +kernel
theorem dX7_comes_840 : decode cX7_comes 840 = .ok (.iconst 4, 1) := by decide +kernel
theorem dX7_comes_841 : decode cX7_comes 841 = .ok (.ishr, 1) := by decide +kernel
theorem dX7_comes_842 : decode cX7_comes 842 = .ok (.iadd, 1) := by decide +kernel
theorem dX7_comes_843 : decode cX7_comes 843 = .ok (.iastore, 1) := by decide +kernel
theorem dX7_comes_844 : decode cX7_comes 844 = .ok (.aload_n 0, 1) := by decide +kernel
theorem dX7_comes_845 : decode cX7_comes 845 = .ok (.iload 9, 2) := by decide +kernel
theorem dX7_comes_847 : decode cX7_comes 847 = .ok (.iconst 4, 1) := by decide +kernel
theorem dX7_comes_848 : decode cX7_comes 848 = .ok (.imul, 1) := by decide +kernel
theorem dX7_comes_849 : decode cX7_comes 849 = .ok (.invokevirtual 182, 3) := by decide +kernel
theorem dX7_comes_852 : decode cX7_comes 852 = .ok (.ireturn, 1) := by decide +kernel
theorem dX7_adapts_0 : decode cX7_adapts 0 = .ok (.aload_n 0, 1) := by decide +kernel
theorem dX7_adapts_1 : decode cX7_adapts 1 = .ok (.getfield 17, 3) := by decide +kernel
theorem dX7_adapts_4 : decode cX7_adapts 4 = .ok (.iload_n 1, 1) := by decide +kernel
theorem dX7_adapts_5 : decode cX7_adapts 5 = .ok (.bipush 6, 2) := by decide +kernel
theorem dX7_adapts_7 : decode cX7_adapts 7 = .ok (.iadd, 1) := by decide +kernel
theorem dX7_adapts_8 : decode cX7_adapts 8 = .ok (.iaload, 1) := by decide +kernel
theorem dX7_adapts_9 : decode cX7_adapts 9 = .ok (.istore 4, 2) := by decide +kernel
theorem dX7_adapts_11 : decode cX7_adapts 11 = .ok (.aload_n 0, 1) := by decide +kernel
theorem dX7_adapts_12 : decode cX7_adapts 12 = .ok (.getfield 17, 3) := by decide +kernel
theorem dX7_adapts_15 : decode cX7_adapts 15 = .ok (.iload_n 1, 1) := by decide +kernel
theorem dX7_adapts_16 : decode cX7_adapts 16 = .ok (.bipush 7, 2) := by decide +kernel
theorem dX7_adapts_18 : decode cX7_adapts 18 = .ok (.iadd, 1) := by decide +kernel
theorem dX7_adapts_19 : decode cX7_adapts 19 = .ok (.iaload, 1) := by decide +kernel
theorem dX7_adapts_20 : decode cX7_adapts 20 = .ok (.aload_n 0, 1) := by decide +kernel
theorem dX7_adapts_21 : decode cX7_adapts 21 = .ok (.getfield 17, 3) := by decide +kernel
theorem dX7_adapts_24 : decode cX7_adapts 24 = .ok (.iload_n 1, 1) := by decide +kernel
theorem dX7_adapts_25 : decode cX7_adapts 25 = .ok (.bipush 7, 2) := by decide +kernel
theorem dX7_adapts_27 : decode cX7_adapts 27 = .ok (.iadd, 1) := by decide +kernel
theorem dX7_adapts_28 : decode cX7_adapts 28 = .ok (.iaload, 1) := by decide +kernel
theorem dX7_adapts_29 : decode cX7_adapts 29 = .ok (.bipush 7, 2) := by decide +kernel
theorem dX7_adapts_31 : decode cX7_adapts 31 = .ok (.ishr, 1) := by decide +kernel
theorem dX7_adapts_32 : decode cX7_adapts 32 = .ok (.isub, 1) := by decide +kernel
theorem dX7_adapts_33 : decode cX7_adapts 33 = .ok (.istore 5, 2) := by decide +kernel
theorem dX7_adapts_35 : decode cX7_adapts 35 = .ok (.iload_n 3, 1) := by decide +kernel
theorem dX7_adapts_36 : decode cX7_adapts 36 = .ok (.ifCond .eq 167, 3) := by decide +kernel
theorem dX7_adapts_39 : decode cX7_adapts 39 = .ok (.iload_n 2, 1) := by decide +kernel
theorem dX7_adapts_40 : decode cX7_adapts 40 = .ok (.aload_n 0, 1) := by decide +kernel
theorem dX7_adapts_41 : decode cX7_adapts 41 = .ok (.getfield 17, 3) := by decide +kernel
theorem dX7_adapts_44 : decode cX7_adapts 44 = .ok (.iload_n 1, 1) := by decide +kernel
theorem dX7_adapts_45 : decode cX7_adapts 45 = .ok (.bipush 22, 2) := by decide +kernel
theorem dX7_adapts_47 : decode cX7_adapts 47 = .ok (.iadd, 1) := by decide +kernel
theorem dX7_adapts_48 : decode cX7_adapts 48 = .ok (.iaload, 1) := by decide +kernel
theorem dX7_adapts_49 : decode cX7_adapts 49 = .ok (.if_icmp .eq 8, 3) := by decide +kernel
theorem dX7_adapts_52 : decode cX7_adapts 52 = .ok (.iload 4, 2) := by decide +kernel
theorem dX7_adapts_54 : decode cX7_adapts 54 = .ok (.goto 6, 3) := by decide +kernel
theorem dX7_adapts_57 : decode cX7_adapts 57 = .ok (.iload 4, 2) := by decide +kernel
theorem dX7_adapts_59 : decode cX7_adapts 59 = .ok (.ineg, 1) := by decide +kernel
theorem dX7_adapts_60 : decode cX7_adapts 60 = .ok (.istore 6, 2) := by decide +kernel
theorem dX7_adapts_62 : decode cX7_adapts 62 = .ok (.iload 5, 2) := by decide +kernel
theorem dX7_adapts_64 : decode cX7_adapts 64 = .ok (.iload 6, 2) := by decide +kernel
theorem dX7_adapts_66 : decode cX7_adapts 66 = .ok (.sipush (-8191), 3) := by decide +kernel
theorem dX7_adapts_69 : decode cX7_adapts 69 = .ok (.if_icmp .ge 9, 3) := by decide +kernel
theorem dX7_adapts_72 : decode cX7_adapts 72 = .ok (.sipush (-256), 3) := by decide +kernel
theorem dX7_adapts_75 : decode cX7_adapts 75 = .ok (.goto 21, 3) := by decide +kernel
theorem dX7_adapts_78 : decode cX7_adapts 78 = .ok (.iload 6, 2) := by decide +kernel
theorem dX7_adapts_80 : decode cX7_adapts 80 = .ok (.sipush 8191, 3) := by decide +kernel
theorem dX7_adapts_83 : decode cX7_adapts 83 = .ok (.if_icmp .le 9, 3) := by decide +kernel
theorem dX7_adapts_86 : decode cX7_adapts 86 = .ok (.sipush 255, 3) := by decide +kernel
theorem dX7_adapts_89 : decode cX7_adapts 89 = .ok (.goto 7, 3) := by decide +kernel
theorem dX7_adapts_92 : decode cX7_adapts 92 = .ok (.iload 6, 2) := by decide +kernel
theorem dX7_adapts_94 : decode cX7_adapts 94 = .ok (.iconst 5, 1) := by decide +kernel
theorem dX7_adapts_95 : decode cX7_adapts 95 = .ok (.ishr, 1) := by decide +kernel
theorem dX7_adapts_96 : decode cX7_adapts 96 = .ok (.iadd, 1) := by decide +kernel
theorem dX7_adapts_97 : decode cX7_adapts 97 = .ok (.istore 5, 2) := by decide +kernel
theorem dX7_adapts_99 : decode cX7_adapts 99 = .ok (.iload_n 2, 1) := by decide +kernel
theorem dX7_adapts_100 : decode cX7_adapts 100 = .ok (.aload_n 0, 1) := by decide +kernel
theorem dX7_adapts_101 : decode cX7_adapts 101 = .ok (.getfield 17, 3) := by decide +kernel
theorem dX7_adapts_104 : decode cX7_adapts 104 = .ok (.iload_n 1, 1) := by decide +kernel
theorem dX7_adapts_105 : decode cX7_adapts 105 = .ok (.bipush 23, 2) := by decide +kernel
theorem dX7_adapts_107 : decode cX7_adapts 107 = .ok (.iadd, 1) := by decide +kernel
theorem dX7_adapts_108 : decode cX7_adapts 108 = .ok (.iaload, 1) := by decide +kernel
theorem dX7_adapts_109 : decode cX7_adapts 109 = .ok (.if_icmp .ne 7, 3) := by decide +kernel
theorem dX7_adapts_112 : decode cX7_adapts 112 = .ok (.iconst 1, 1) := by decide +kernel
theorem dX7_adapts_113 : decode cX7_adapts 113 = .ok (.goto 4, 3) := by decide +kernel
theorem dX7_adapts_116 : decode cX7_adapts 116 = .ok (.iconst 0, 1) := by decide +kernel
theorem dX7_adapts_117 : decode cX7_adapts 117 = .ok (.istore 7, 2) := by decide +kernel
theorem dX7_adapts_119 : decode cX7_adapts 119 = .ok (.iload 7, 2) := by decide +kernel
theorem dX7_adapts_121 : decode cX7_adapts 121 = .ok (.ifCond .eq 9, 3) := by decide +kernel
theorem dX7_adapts_124 : decode cX7_adapts 124 = .ok (.sipush (-12416), 3) := by decide +kernel
theorem dX7_adapts_127 : decode cX7_adapts 127 = .ok (.goto 6, 3) := by decide +kernel
theorem dX7_adapts_130 : decode cX7_adapts 130 = .ok (.sipush (-12160), 3) := by decide +kernel
theorem dX7_adapts_133 : decode cX7_adapts 133 = .ok (.istore 8, 2) := by decide +kernel
theorem dX7_adapts_135 : decode cX7_adapts 135 = .ok (.iload 7, 2) := by decide +kernel
theorem dX7_adapts_137 : decode cX7_adapts 137 = .ok (.ifCond .eq 9, 3) := by decide +kernel
theorem dX7_adapts_140 : decode cX7_adapts 140 = .ok (.sipush 12160, 3) := by decide +kernel
theorem dX7_adapts_143 : decode cX7_adapts 143 = .ok (.goto 6, 3) := by decide +kernel
theorem dX7_adapts_146 : decode cX7_adapts 146 = .ok (.sipush 12416, 3) := by decide +kernel
theorem dX7_adapts_149 : decode cX7_adapts 149 = .ok (.istore 9, 2) := by decide +kernel
theorem dX7_adapts_151 : decode cX7_adapts 151 = .ok (.iload 5, 2) := by decide +kernel
theorem dX7_adapts_153 : decode cX7_adapts 153 = .ok (.iload 8, 2) := by decide +kernel
theorem dX7_adapts_155 : decode cX7_adapts 155 = .ok (.if_icmp .gt 11, 3) := by decide +kernel
theorem dX7_adapts_158 : decode cX7_adapts 158 = .ok (.sipush (-12288), 3) := by decide +kernel
theorem dX7_adapts_161 : decode cX7_adapts 161 = .ok (.istore 5, 2) := by decide +kernel
theorem dX7_adapts_163 : decode cX7_adapts 163 = .ok (.goto 40, 3) := by decide +kernel
theorem dX7_adapts_166 : decode cX7_adapts 166 = .ok (.iload 5, 2) := by decide +kernel
theorem dX7_adapts_168 : decode cX7_adapts 168 = .ok (.iload 9, 2) := by decide +kernel
theorem dX7_adapts_170 : decode cX7_adapts 170 = .ok (.if_icmp .lt 11, 3) := by decide +kernel
theorem dX7_adapts_173 : decode cX7_adapts 173 = .ok (.sipush 12288, 3) := by decide +kernel
theorem dX7_adapts_176 : decode cX7_adapts 176 = .ok (.istore 5, 2) := by decide +kernel
theorem dX7_adapts_178 : decode cX7_adapts 178 = .ok (.goto 25, 3) := by decide +kernel
theorem dX7_adapts_181 : decode cX7_adapts 181 = .ok (.iload 7, 2) := by decide +kernel
theorem dX7_adapts_183 : decode cX7_adapts 183 = .ok (.ifCond .eq 12, 3) := by decide +kernel
theorem dX7_adapts_186 : decode cX7_adapts 186 = .ok (.iload 5, 2) := by decide +kernel
theorem dX7_adapts_188 : decode cX7_adapts 188 = .ok (.sipush 128, 3) := by decide +kernel
theorem dX7_adapts_191 : decode cX7_adapts 191 = .ok (.iadd, 1) := by decide +kernel
theorem dX7_adapts_192 : decode cX7_adapts 192 = .ok (.goto 9, 3) := by decide +kernel
theorem dX7_adapts_195 : decode cX7_adapts 195 = .ok (.iload 5, 2) := by decide +kernel
theorem dX7_adapts_197 : decode cX7_adapts 197 = .ok (.sipush 128, 3) := by decide +kernel
theorem dX7_adapts_200 : decode cX7_adapts 200 = .ok (.isub, 1) := by decide +kernel
theorem dX7_adapts_201 : decode cX7_adapts 201 = .ok (.istore 5, 2) := by decide +kernel
theorem dX7_adapts_203 : decode cX7_adapts 203 = .ok (.aload_n 0, 1) := by decide +kernel
theorem dX7_adapts_204 : decode cX7_adapts 204 = .ok (.getfield 17, 3) := by decide +kernel
theorem dX7_adapts_207 : decode cX7_adapts 207 = .ok (.iload_n 1, 1) := by decide +kernel
theorem dX7_adapts_208 : decode cX7_adapts 208 = .ok (.bipush 7, 2) := by decide +kernel
theorem dX7_adapts_210 : decode cX7_adapts 210 = .ok (.iadd, 1) := by decide +kernel
theorem dX7_adapts_211 : decode cX7_adapts 211 = .ok (.iload 5, 2) := by decide +kernel
theorem dX7_adapts_213 : decode cX7_adapts 213 = .ok (.iastore, 1) := by decide +kernel
theorem dX7_adapts_214 : decode cX7_adapts 214 = .ok (.iload 4, 2) := by decide +kernel
theorem dX7_adapts_216 : decode cX7_adapts 216 = .ok (.iload 4, 2) := by decide +kernel
theorem dX7_adapts_218 : decode cX7_adapts 218 = .ok (.bipush 8, 2) := by decide +kernel
theorem dX7_adapts_220 : decode cX7_adapts 220 = .ok (.ishr, 1) := by decide +kernel
theorem dX7_adapts_221 : decode cX7_adapts 221 = .ok (.isub, 1) := by decide +kernel
theorem dX7_adapts_222 : decode cX7_adapts 222 = .ok (.istore 4, 2) := by decide +kernel
theorem dX7_adapts_224 : decode cX7_adapts 224 = .ok (.iload_n 3, 1) := by decide +kernel
theorem dX7_adapts_225 : decode cX7_adapts 225 = .ok (.ifCond .eq 33, 3) := by decide +kernel
theorem dX7_adapts_228 : decode cX7_adapts 228 = .ok (.iload_n 2, 1) := by decide +kernel
theorem dX7_adapts_229 : decode cX7_adapts 229 = .ok (.aload_n 0, 1) := by decide +kernel
theorem dX7_adapts_230 : decode cX7_adapts 230 = .ok (.getfield 17, 3) := by decide +kernel
theorem dX7_adapts_233 : decode cX7_adapts 233 = .ok (.iload_n 1, 1) := by decide +kernel
theorem dX7_adapts_234 : decode cX7_adapts 234 = .ok (.bipush 22, 2) := by decide +kernel
theorem dX7_adapts_236 : decode cX7_adapts 236 = .ok (.iadd, 1) := by decide +kernel
theorem dX7_adapts_237 : decode cX7_adapts 237 = .ok (.iaload, 1) := by decide +kernel
theorem dX7_adapts_238 : decode cX7_adapts 238 = .ok (.if_icmp .ne 12, 3) := by decide +kernel
theorem dX7_adapts_241 : decode cX7_adapts 241 = .ok (.iload 4, 2) := by decide +kernel
theorem dX7_adapts_243 : decode cX7_adapts 243 = .ok (.sipush 192, 3) := by decide +kernel
theorem dX7_adapts_246 : decode cX7_adapts 246 = .ok (.iadd, 1) := by decide +kernel
theorem dX7_adapts_247 : decode cX7_adapts 247 = .ok (.goto 9, 3) := by decide +kernel
theorem dX7_adapts_250 : decode cX7_adapts 250 = .ok (.iload 4, 2) := by decide +kernel
theorem dX7_adapts_252 : decode cX7_adapts 252 = .ok (.sipush 192, 3) := by decide +kernel
theorem dX7_adapts_255 : decode cX7_adapts 255 = .ok (.isub, 1) := by decide +kernel
theorem dX7_adapts_256 : decode cX7_adapts 256 = .ok (.istore 4, 2) := by decide +kernel
theorem dX7_adapts_258 : decode cX7_adapts 258 = .ok (.aload_n 0, 1) := by decide +kernel
theorem dX7_adapts_259 : decode cX7_adapts 259 = .ok (.getfield 17, 3) := by decide +kernel
theorem dX7_adapts_262 : decode cX7_adapts 262 = .ok (.iload_n 1, 1) := by decide +kernel
theorem dX7_adapts_263 : decode cX7_adapts 263 = .ok (.bipush 6, 2) := by decide +kernel
theorem dX7_adapts_265 : decode cX7_adapts 265 = .ok (.iadd, 1) := by decide +kernel
theorem dX7_adapts_266 : decode cX7_adapts 266 = .ok (.aload_n 0, 1) := by decide +kernel
theorem dX7_adapts_267 : decode cX7_adapts 267 = .ok (.iload 4, 2) := by decide +kernel
theorem dX7_adapts_269 : decode cX7_adapts 269 = .ok (.iload 5, 2) := by decide +kernel
theorem dX7_adapts_271 : decode cX7_adapts 271 = .ok (.sipush 15360, 3) := by decide +kernel
theorem dX7_adapts_274 : decode cX7_adapts 274 = .ok (.isub, 1) := by decide +kernel
theorem dX7_adapts_275 : decode cX7_adapts 275 = .ok (.sipush 15360, 3) := by decide +kernel
theorem dX7_adapts_278 : decode cX7_adapts 278 = .ok (.iload 5, 2) := by decide +kernel
theorem dX7_adapts_280 : decode cX7_adapts 280 = .ok (.isub, 1) := by decide +kernel
theorem dX7_adapts_281 : decode cX7_adapts 281 = .ok (.invokevirtual 169, 3) := by decide +kernel
theorem dX7_adapts_284 : decode cX7_adapts 284 = .ok (.iastore, 1) := by decide +kernel
theorem dX7_adapts_285 : decode cX7_adapts 285 = .ok (.iload 5, 2) := by decide +kernel
theorem dX7_adapts_287 : decode cX7_adapts 287 = .ok (.ireturn, 1) := by decide +kernel
theorem dX7_heardBy_0 : decode cX7_heardBy 0 = .ok (.iload_n 1, 1) := by decide +kernel
theorem dX7_heardBy_1 : decode cX7_heardBy 1 = .ok (.bipush 8, 2) := by decide +kernel
theorem dX7_heardBy_3 : decode cX7_heardBy 3 = .ok (.if_icmp .ne 12, 3) := by decide +kernel
theorem dX7_heardBy_6 : decode cX7_heardBy 6 = .ok (.aload_n 0, 1) := by decide +kernel
theorem dX7_heardBy_7 : decode cX7_heardBy 7 = .ok (.getfield 84, 3) := by decide +kernel
theorem dX7_heardBy_10 : decode cX7_heardBy 10 = .ok (.iload_n 2, 1) := by decide +kernel
theorem dX7_heardBy_11 : decode cX7_heardBy 11 = .ok (.iconst 2, 1) := by decide +kernel
theorem dX7_heardBy_12 : decode cX7_heardBy 12 = .ok (.ishr, 1) := by decide +kernel
theorem dX7_heardBy_13 : decode cX7_heardBy 13 = .ok (.iaload, 1) := by decide +kernel
theorem dX7_heardBy_14 : decode cX7_heardBy 14 = .ok (.ireturn, 1) := by decide +kernel
theorem dX7_heardBy_15 : decode cX7_heardBy 15 = .ok (.iload_n 1, 1) := by decide +kernel
theorem dX7_heardBy_16 : decode cX7_heardBy 16 = .ok (.bipush 7, 2) := by decide +kernel
theorem dX7_heardBy_18 : decode cX7_heardBy 18 = .ok (.if_icmp .ne 53, 3) := by decide +kernel
theorem dX7_heardBy_21 : decode cX7_heardBy 21 = .ok (.iload_n 2, 1) := by decide +kernel
theorem dX7_heardBy_22 : decode cX7_heardBy 22 = .ok (.iconst 1, 1) := by decide +kernel
theorem dX7_heardBy_23 : decode cX7_heardBy 23 = .ok (.ishr, 1) := by decide +kernel
theorem dX7_heardBy_24 : decode cX7_heardBy 24 = .ok (.istore_n 3, 1) := by decide +kernel
theorem dX7_heardBy_25 : decode cX7_heardBy 25 = .ok (.iload_n 3, 1) := by decide +kernel
theorem dX7_heardBy_26 : decode cX7_heardBy 26 = .ok (.bipush 16, 2) := by decide +kernel
theorem dX7_heardBy_28 : decode cX7_heardBy 28 = .ok (.if_icmp .ge 10, 3) := by decide +kernel
theorem dX7_heardBy_31 : decode cX7_heardBy 31 = .ok (.aload_n 0, 1) := by decide +kernel
theorem dX7_heardBy_32 : decode cX7_heardBy 32 = .ok (.getfield 96, 3) := by decide +kernel
theorem dX7_heardBy_35 : decode cX7_heardBy 35 = .ok (.iload_n 3, 1) := by decide +kernel
theorem dX7_heardBy_36 : decode cX7_heardBy 36 = .ok (.iaload, 1) := by decide +kernel
theorem dX7_heardBy_37 : decode cX7_heardBy 37 = .ok (.ireturn, 1) := by decide +kernel
theorem dX7_heardBy_38 : decode cX7_heardBy 38 = .ok (.iload_n 3, 1) := by decide +kernel
theorem dX7_heardBy_39 : decode cX7_heardBy 39 = .ok (.bipush 30, 2) := by decide +kernel
theorem dX7_heardBy_41 : decode cX7_heardBy 41 = .ok (.if_icmp .ne 7, 3) := by decide +kernel
theorem dX7_heardBy_44 : decode cX7_heardBy 44 = .ok (.sipush 280, 3) := by decide +kernel
theorem dX7_heardBy_47 : decode cX7_heardBy 47 = .ok (.ireturn, 1) := by decide +kernel
theorem dX7_heardBy_48 : decode cX7_heardBy 48 = .ok (.iload_n 3, 1) := by decide +kernel
theorem dX7_heardBy_49 : decode cX7_heardBy 49 = .ok (.bipush 31, 2) := by decide +kernel
theorem dX7_heardBy_51 : decode cX7_heardBy 51 = .ok (.if_icmp .ne 9, 3) := by decide +kernel
theorem dX7_heardBy_54 : decode cX7_heardBy 54 = .ok (.sipush (-280), 3) := by decide +kernel
theorem dX7_heardBy_57 : decode cX7_heardBy 57 = .ok (.goto 13, 3) := by decide +kernel
theorem dX7_heardBy_60 : decode cX7_heardBy 60 = .ok (.aload_n 0, 1) := by decide +kernel
theorem dX7_heardBy_61 : decode cX7_heardBy 61 = .ok (.getfield 96, 3) := by decide +kernel
theorem dX7_heardBy_64 : decode cX7_heardBy 64 = .ok (.iload_n 3, 1) := by decide +kernel
theorem dX7_heardBy_65 : decode cX7_heardBy 65 = .ok (.bipush 14, 2) := by decide +kernel
theorem dX7_heardBy_67 : decode cX7_heardBy 67 = .ok (.isub, 1) := by decide +kernel
theorem dX7_heardBy_68 : decode cX7_heardBy 68 = .ok (.iaload, 1) := by decide +kernel
theorem dX7_heardBy_69 : decode cX7_heardBy 69 = .ok (.ineg, 1) := by decide +kernel
theorem dX7_heardBy_70 : decode cX7_heardBy 70 = .ok (.ireturn, 1) := by decide +kernel
theorem dX7_heardBy_71 : decode cX7_heardBy 71 = .ok (.iload_n 2, 1) := by decide +kernel
theorem dX7_heardBy_72 : decode cX7_heardBy 72 = .ok (.bipush 32, 2) := by decide +kernel
theorem dX7_heardBy_74 : decode cX7_heardBy 74 = .ok (.if_icmp .ge 10, 3) := by decide +kernel
theorem dX7_heardBy_77 : decode cX7_heardBy 77 = .ok (.aload_n 0, 1) := by decide +kernel
theorem dX7_heardBy_78 : decode cX7_heardBy 78 = .ok (.getfield 99, 3) := by decide +kernel
theorem dX7_heardBy_81 : decode cX7_heardBy 81 = .ok (.iload_n 2, 1) := by decide +kernel
theorem dX7_heardBy_82 : decode cX7_heardBy 82 = .ok (.iaload, 1) := by decide +kernel
theorem dX7_heardBy_83 : decode cX7_heardBy 83 = .ok (.ireturn, 1) := by decide +kernel
theorem dX7_heardBy_84 : decode cX7_heardBy 84 = .ok (.iload_n 2, 1) := by decide +kernel
theorem dX7_heardBy_85 : decode cX7_heardBy 85 = .ok (.bipush 60, 2) := by decide +kernel
theorem dX7_heardBy_87 : decode cX7_heardBy 87 = .ok (.if_icmp .ge 14, 3) := by decide +kernel
theorem dX7_heardBy_90 : decode cX7_heardBy 90 = .ok (.aload_n 0, 1) := by decide +kernel
theorem dX7_heardBy_91 : decode cX7_heardBy 91 = .ok (.getfield 99, 3) := by decide +kernel
theorem dX7_heardBy_94 : decode cX7_heardBy 94 = .ok (.iload_n 2, 1) := by decide +kernel
theorem dX7_heardBy_95 : decode cX7_heardBy 95 = .ok (.bipush 28, 2) := by decide +kernel
theorem dX7_heardBy_97 : decode cX7_heardBy 97 = .ok (.isub, 1) := by decide +kernel
theorem dX7_heardBy_98 : decode cX7_heardBy 98 = .ok (.iaload, 1) := by decide +kernel
theorem dX7_heardBy_99 : decode cX7_heardBy 99 = .ok (.ineg, 1) := by decide +kernel
theorem dX7_heardBy_100 : decode cX7_heardBy 100 = .ok (.ireturn, 1) := by decide +kernel
theorem dX7_heardBy_101 : decode cX7_heardBy 101 = .ok (.iload_n 2, 1) := by decide +kernel
theorem dX7_heardBy_102 : decode cX7_heardBy 102 = .ok (.bipush 60, 2) := by decide +kernel
theorem dX7_heardBy_104 : decode cX7_heardBy 104 = .ok (.if_icmp .ne 7, 3) := by decide +kernel
theorem dX7_heardBy_107 : decode cX7_heardBy 107 = .ok (.sipush 432, 3) := by decide +kernel
theorem dX7_heardBy_110 : decode cX7_heardBy 110 = .ok (.ireturn, 1) := by decide +kernel
theorem dX7_heardBy_111 : decode cX7_heardBy 111 = .ok (.iload_n 2, 1) := by decide +kernel
theorem dX7_heardBy_112 : decode cX7_heardBy 112 = .ok (.bipush 61, 2) := by decide +kernel
theorem dX7_heardBy_114 : decode cX7_heardBy 114 = .ok (.if_icmp .ne 7, 3) := by decide +kernel
theorem dX7_heardBy_117 : decode cX7_heardBy 117 = .ok (.sipush 136, 3) := by decide +kernel
theorem dX7_heardBy_120 : decode cX7_heardBy 120 = .ok (.ireturn, 1) := by decide +kernel
theorem dX7_heardBy_121 : decode cX7_heardBy 121 = .ok (.iload_n 2, 1) := by decide +kernel
theorem dX7_heardBy_122 : decode cX7_heardBy 122 = .ok (.bipush 62, 2) := by decide +kernel
theorem dX7_heardBy_124 : decode cX7_heardBy 124 = .ok (.if_icmp .ne 9, 3) := by decide +kernel
theorem dX7_heardBy_127 : decode cX7_heardBy 127 = .ok (.sipush (-432), 3) := by decide +kernel
theorem dX7_heardBy_130 : decode cX7_heardBy 130 = .ok (.goto 6, 3) := by decide +kernel
theorem dX7_heardBy_133 : decode cX7_heardBy 133 = .ok (.sipush (-136), 3) := by decide +kernel
theorem dX7_heardBy_136 : decode cX7_heardBy 136 = .ok (.ireturn, 1) := by decide +kernel
theorem dX7_sieves_0 : decode cX7_sieves 0 = .ok (.bipush 24, 2) := by decide +kernel
theorem dX7_sieves_2 : decode cX7_sieves 2 = .ok (.iload_n 1, 1) := by decide +kernel
theorem dX7_sieves_3 : decode cX7_sieves 3 = .ok (.imul, 1) := by decide +kernel
theorem dX7_sieves_4 : decode cX7_sieves 4 = .ok (.istore 4, 2) := by decide +kernel
theorem dX7_sieves_6 : decode cX7_sieves 6 = .ok (.iconst 0, 1) := by decide +kernel
theorem dX7_sieves_7 : decode cX7_sieves 7 = .ok (.istore 5, 2) := by decide +kernel
theorem dX7_sieves_9 : decode cX7_sieves 9 = .ok (.iload 5, 2) := by decide +kernel
theorem dX7_sieves_11 : decode cX7_sieves 11 = .ok (.bipush 22, 2) := by decide +kernel
theorem dX7_sieves_13 : decode cX7_sieves 13 = .ok (.if_icmp .ge 31, 3) := by decide +kernel
theorem dX7_sieves_16 : decode cX7_sieves 16 = .ok (.aload_n 0, 1) := by decide +kernel
theorem dX7_sieves_17 : decode cX7_sieves 17 = .ok (.getfield 72, 3) := by decide +kernel
theorem dX7_sieves_20 : decode cX7_sieves 20 = .ok (.iload 4, 2) := by decide +kernel
theorem dX7_sieves_22 : decode cX7_sieves 22 = .ok (.iload 5, 2) := by decide +kernel
theorem dX7_sieves_24 : decode cX7_sieves 24 = .ok (.iadd, 1) := by decide +kernel
theorem dX7_sieves_25 : decode cX7_sieves 25 = .ok (.aload_n 0, 1) := by decide +kernel
theorem dX7_sieves_26 : decode cX7_sieves 26 = .ok (.getfield 72, 3) := by decide +kernel
theorem dX7_sieves_29 : decode cX7_sieves 29 = .ok (.iload 4, 2) := by decide +kernel
theorem dX7_sieves_31 : decode cX7_sieves 31 = .ok (.iload 5, 2) := by decide +kernel
theorem dX7_sieves_33 : decode cX7_sieves 33 = .ok (.iadd, 1) := by decide +kernel
theorem dX7_sieves_34 : decode cX7_sieves 34 = .ok (.iconst 2, 1) := by decide +kernel
theorem dX7_sieves_35 : decode cX7_sieves 35 = .ok (.iadd, 1) := by decide +kernel
theorem dX7_sieves_36 : decode cX7_sieves 36 = .ok (.iaload, 1) := by decide +kernel
theorem dX7_sieves_37 : decode cX7_sieves 37 = .ok (.iastore, 1) := by decide +kernel
theorem dX7_sieves_38 : decode cX7_sieves 38 = .ok (.iinc 5 1, 3) := by decide +kernel
theorem dX7_sieves_41 : decode cX7_sieves 41 = .ok (.goto (-32), 3) := by decide +kernel
theorem dX7_sieves_44 : decode cX7_sieves 44 = .ok (.aload_n 0, 1) := by decide +kernel
theorem dX7_sieves_45 : decode cX7_sieves 45 = .ok (.getfield 72, 3) := by decide +kernel
theorem dX7_sieves_48 : decode cX7_sieves 48 = .ok (.iload 4, 2) := by decide +kernel
theorem dX7_sieves_50 : decode cX7_sieves 50 = .ok (.bipush 22, 2) := by decide +kernel
theorem dX7_sieves_52 : decode cX7_sieves 52 = .ok (.iadd, 1) := by decide +kernel
theorem dX7_sieves_53 : decode cX7_sieves 53 = .ok (.iload_n 2, 1) := by decide +kernel
theorem dX7_sieves_54 : decode cX7_sieves 54 = .ok (.iastore, 1) := by decide +kernel
theorem dX7_sieves_55 : decode cX7_sieves 55 = .ok (.aload_n 0, 1) := by decide +kernel
theorem dX7_sieves_56 : decode cX7_sieves 56 = .ok (.getfield 72, 3) := by decide +kernel
theorem dX7_sieves_59 : decode cX7_sieves 59 = .ok (.iload 4, 2) := by decide +kernel
theorem dX7_sieves_61 : decode cX7_sieves 61 = .ok (.bipush 23, 2) := by decide +kernel
theorem dX7_sieves_63 : decode cX7_sieves 63 = .ok (.iadd, 1) := by decide +kernel
theorem dX7_sieves_64 : decode cX7_sieves 64 = .ok (.iload_n 3, 1) := by decide +kernel
theorem dX7_sieves_65 : decode cX7_sieves 65 = .ok (.iastore, 1) := by decide +kernel
theorem dX7_sieves_66 : decode cX7_sieves 66 = .ok (.aload_n 0, 1) := by decide +kernel
theorem dX7_sieves_67 : decode cX7_sieves 67 = .ok (.iconst 0, 1) := by decide +kernel
theorem dX7_sieves_68 : decode cX7_sieves 68 = .ok (.putfield 185, 3) := by decide +kernel
theorem dX7_sieves_71 : decode cX7_sieves 71 = .ok (.aload_n 0, 1) := by decide +kernel
theorem dX7_sieves_72 : decode cX7_sieves 72 = .ok (.iconst 0, 1) := by decide +kernel
theorem dX7_sieves_73 : decode cX7_sieves 73 = .ok (.putfield 188, 3) := by decide +kernel
theorem dX7_sieves_76 : decode cX7_sieves 76 = .ok (.iconst 0, 1) := by decide +kernel
theorem dX7_sieves_77 : decode cX7_sieves 77 = .ok (.istore 5, 2) := by decide +kernel
theorem dX7_sieves_79 : decode cX7_sieves 79 = .ok (.iload 5, 2) := by decide +kernel
theorem dX7_sieves_81 : decode cX7_sieves 81 = .ok (.bipush 12, 2) := by decide +kernel
theorem dX7_sieves_83 : decode cX7_sieves 83 = .ok (.if_icmp .ge 72, 3) := by decide +kernel
theorem dX7_sieves_86 : decode cX7_sieves 86 = .ok (.aload_n 0, 1) := by decide +kernel
theorem dX7_sieves_87 : decode cX7_sieves 87 = .ok (.aload_n 0, 1) := by decide +kernel
theorem dX7_sieves_88 : decode cX7_sieves 88 = .ok (.getfield 185, 3) := by decide +kernel
theorem dX7_sieves_91 : decode cX7_sieves 91 = .ok (.aload_n 0, 1) := by decide +kernel
theorem dX7_sieves_92 : decode cX7_sieves 92 = .ok (.getfield 72, 3) := by decide +kernel
theorem dX7_sieves_95 : decode cX7_sieves 95 = .ok (.iload 4, 2) := by decide +kernel
theorem dX7_sieves_97 : decode cX7_sieves 97 = .ok (.iconst 2, 1) := by decide +kernel
theorem dX7_sieves_98 : decode cX7_sieves 98 = .ok (.iload 5, 2) := by decide +kernel
theorem dX7_sieves_100 : decode cX7_sieves 100 = .ok (.imul, 1) := by decide +kernel
theorem dX7_sieves_101 : decode cX7_sieves 101 = .ok (.iadd, 1) := by decide +kernel
theorem dX7_sieves_102 : decode cX7_sieves 102 = .ok (.iaload, 1) := by decide +kernel
theorem dX7_sieves_103 : decode cX7_sieves 103 = .ok (.aload_n 0, 1) := by decide +kernel
theorem dX7_sieves_104 : decode cX7_sieves 104 = .ok (.getfield 75, 3) := by decide +kernel
theorem dX7_sieves_107 : decode cX7_sieves 107 = .ok (.iload 5, 2) := by decide +kernel
theorem dX7_sieves_109 : decode cX7_sieves 109 = .ok (.iaload, 1) := by decide +kernel
theorem dX7_sieves_110 : decode cX7_sieves 110 = .ok (.imul, 1) := by decide +kernel
theorem dX7_sieves_111 : decode cX7_sieves 111 = .ok (.iadd, 1) := by decide +kernel
theorem dX7_sieves_112 : decode cX7_sieves 112 = .ok (.putfield 185, 3) := by decide +kernel
theorem dX7_sieves_115 : decode cX7_sieves 115 = .ok (.aload_n 0, 1) := by decide +kernel
theorem dX7_sieves_116 : decode cX7_sieves 116 = .ok (.aload_n 0, 1) := by decide +kernel
theorem dX7_sieves_117 : decode cX7_sieves 117 = .ok (.getfield 188, 3) := by decide +kernel
theorem dX7_sieves_120 : decode cX7_sieves 120 = .ok (.aload_n 0, 1) := by decide +kernel
theorem dX7_sieves_121 : decode cX7_sieves 121 = .ok (.getfield 72, 3) := by decide +kernel
theorem dX7_sieves_124 : decode cX7_sieves 124 = .ok (.iload 4, 2) := by decide +kernel
theorem dX7_sieves_126 : decode cX7_sieves 126 = .ok (.iconst 2, 1) := by decide +kernel
theorem dX7_sieves_127 : decode cX7_sieves 127 = .ok (.iload 5, 2) := by decide +kernel
theorem dX7_sieves_129 : decode cX7_sieves 129 = .ok (.imul, 1) := by decide +kernel
theorem dX7_sieves_130 : decode cX7_sieves 130 = .ok (.iadd, 1) := by decide +kernel
theorem dX7_sieves_131 : decode cX7_sieves 131 = .ok (.iconst 1, 1) := by decide +kernel
theorem dX7_sieves_132 : decode cX7_sieves 132 = .ok (.iadd, 1) := by decide +kernel
theorem dX7_sieves_133 : decode cX7_sieves 133 = .ok (.iaload, 1) := by decide +kernel
theorem dX7_sieves_134 : decode cX7_sieves 134 = .ok (.aload_n 0, 1) := by decide +kernel
theorem dX7_sieves_135 : decode cX7_sieves 135 = .ok (.getfield 75, 3) := by decide +kernel
theorem dX7_sieves_138 : decode cX7_sieves 138 = .ok (.bipush 11, 2) := by decide +kernel
theorem dX7_sieves_140 : decode cX7_sieves 140 = .ok (.iload 5, 2) := by decide +kernel
theorem dX7_sieves_142 : decode cX7_sieves 142 = .ok (.isub, 1) := by decide +kernel
theorem dX7_sieves_143 : decode cX7_sieves 143 = .ok (.iaload, 1) := by decide +kernel
theorem dX7_sieves_144 : decode cX7_sieves 144 = .ok (.imul, 1) := by decide +kernel
theorem dX7_sieves_145 : decode cX7_sieves 145 = .ok (.iadd, 1) := by decide +kernel
theorem dX7_sieves_146 : decode cX7_sieves 146 = .ok (.putfield 188, 3) := by decide +kernel
theorem dX7_sieves_149 : decode cX7_sieves 149 = .ok (.iinc 5 1, 3) := by decide +kernel
theorem dX7_sieves_152 : decode cX7_sieves 152 = .ok (.goto (-73), 3) := by decide +kernel
theorem dX7_sieves_155 : decode cX7_sieves 155 = .ok (.return_, 1) := by decide +kernel
theorem dX7_says722_0 : decode cX7_says722 0 = .ok (.aload_n 0, 1) := by decide +kernel
theorem dX7_says722_1 : decode cX7_says722 1 = .ok (.iload_n 1, 1) := by decide +kernel
theorem dX7_says722_2 : decode cX7_says722 2 = .ok (.iload_n 2, 1) := by decide +kernel
theorem dX7_says722_3 : decode cX7_says722 3 = .ok (.iload_n 3, 1) := by decide +kernel
theorem dX7_says722_4 : decode cX7_says722 4 = .ok (.invokevirtual 191, 3) := by decide +kernel
theorem dX7_says722_7 : decode cX7_says722 7 = .ok (.bipush 46, 2) := by decide +kernel
theorem dX7_says722_9 : decode cX7_says722 9 = .ok (.iload_n 1, 1) := by decide +kernel
theorem dX7_says722_10 : decode cX7_says722 10 = .ok (.imul, 1) := by decide +kernel
theorem dX7_says722_11 : decode cX7_says722 11 = .ok (.istore 4, 2) := by decide +kernel
theorem dX7_says722_13 : decode cX7_says722 13 = .ok (.aload_n 0, 1) := by decide +kernel
theorem dX7_says722_14 : decode cX7_says722 14 = .ok (.aload_n 0, 1) := by decide +kernel
theorem dX7_says722_15 : decode cX7_says722 15 = .ok (.getfield 188, 3) := by decide +kernel
theorem dX7_says722_18 : decode cX7_says722 18 = .ok (.aload_n 0, 1) := by decide +kernel
theorem dX7_says722_19 : decode cX7_says722 19 = .ok (.getfield 185, 3) := by decide +kernel
theorem dX7_says722_22 : decode cX7_says722 22 = .ok (.iadd, 1) := by decide +kernel
theorem dX7_says722_23 : decode cX7_says722 23 = .ok (.bipush 14, 2) := by decide +kernel
theorem dX7_says722_25 : decode cX7_says722 25 = .ok (.ishr, 1) := by decide +kernel
theorem dX7_says722_26 : decode cX7_says722 26 = .ok (.aload_n 0, 1) := by decide +kernel
theorem dX7_says722_27 : decode cX7_says722 27 = .ok (.getfield 69, 3) := by decide +kernel
theorem dX7_says722_30 : decode cX7_says722 30 = .ok (.iload 4, 2) := by decide +kernel
theorem dX7_says722_32 : decode cX7_says722 32 = .ok (.iconst 2, 1) := by decide +kernel
theorem dX7_says722_33 : decode cX7_says722 33 = .ok (.iadd, 1) := by decide +kernel
theorem dX7_says722_34 : decode cX7_says722 34 = .ok (.iaload, 1) := by decide +kernel
theorem dX7_says722_35 : decode cX7_says722 35 = .ok (.isub, 1) := by decide +kernel
theorem dX7_says722_36 : decode cX7_says722 36 = .ok (.invokevirtual 182, 3) := by decide +kernel
theorem dX7_says722_39 : decode cX7_says722 39 = .ok (.istore 5, 2) := by decide +kernel
theorem dX7_says722_41 : decode cX7_says722 41 = .ok (.iload 5, 2) := by decide +kernel
theorem dX7_says722_43 : decode cX7_says722 43 = .ok (.ifCond .ge 11, 3) := by decide +kernel
theorem dX7_says722_46 : decode cX7_says722 46 = .ok (.iload 5, 2) := by decide +kernel
theorem dX7_says722_48 : decode cX7_says722 48 = .ok (.iconst 1, 1) := by decide +kernel
theorem dX7_says722_49 : decode cX7_says722 49 = .ok (.iadd, 1) := by decide +kernel
theorem dX7_says722_50 : decode cX7_says722 50 = .ok (.ineg, 1) := by decide +kernel
theorem dX7_says722_51 : decode cX7_says722 51 = .ok (.goto 5, 3) := by decide +kernel
theorem dX7_says722_54 : decode cX7_says722 54 = .ok (.iload 5, 2) := by decide +kernel
theorem dX7_says722_56 : decode cX7_says722 56 = .ok (.istore 6, 2) := by decide +kernel
theorem dX7_says722_58 : decode cX7_says722 58 = .ok (.iconst 1, 1) := by decide +kernel
theorem dX7_says722_59 : decode cX7_says722 59 = .ok (.istore 7, 2) := by decide +kernel
theorem dX7_says722_61 : decode cX7_says722 61 = .ok (.iload 7, 2) := by decide +kernel
theorem dX7_says722_63 : decode cX7_says722 63 = .ok (.bipush 30, 2) := by decide +kernel
theorem dX7_says722_65 : decode cX7_says722 65 = .ok (.if_icmp .ge 39, 3) := by decide +kernel
theorem dX7_says722_68 : decode cX7_says722 68 = .ok (.iload 6, 2) := by decide +kernel
theorem dX7_says722_70 : decode cX7_says722 70 = .ok (.aload_n 0, 1) := by decide +kernel
theorem dX7_says722_71 : decode cX7_says722 71 = .ok (.getfield 78, 3) := by decide +kernel
theorem dX7_says722_74 : decode cX7_says722 74 = .ok (.iload 7, 2) := by decide +kernel
theorem dX7_says722_76 : decode cX7_says722 76 = .ok (.iconst 1, 1) := by decide +kernel
theorem dX7_says722_77 : decode cX7_says722 77 = .ok (.isub, 1) := by decide +kernel
theorem dX7_says722_78 : decode cX7_says722 78 = .ok (.iaload, 1) := by decide +kernel
theorem dX7_says722_79 : decode cX7_says722 79 = .ok (.aload_n 0, 1) := by decide +kernel
theorem dX7_says722_80 : decode cX7_says722 80 = .ok (.getfield 69, 3) := by decide +kernel
theorem dX7_says722_83 : decode cX7_says722 83 = .ok (.iload 4, 2) := by decide +kernel
theorem dX7_says722_85 : decode cX7_says722 85 = .ok (.iconst 1, 1) := by decide +kernel
theorem dX7_says722_86 : decode cX7_says722 86 = .ok (.iadd, 1) := by decide +kernel
theorem dX7_says722_87 : decode cX7_says722 87 = .ok (.iaload, 1) := by decide +kernel
theorem dX7_says722_88 : decode cX7_says722 88 = .ok (.imul, 1) := by decide +kernel
theorem dX7_says722_89 : decode cX7_says722 89 = .ok (.bipush 12, 2) := by decide +kernel
theorem dX7_says722_91 : decode cX7_says722 91 = .ok (.ishr, 1) := by decide +kernel
theorem dX7_says722_92 : decode cX7_says722 92 = .ok (.if_icmp .lt 12, 3) := by decide +kernel
theorem dX7_says722_95 : decode cX7_says722 95 = .ok (.iload 7, 2) := by decide +kernel
theorem dX7_says722_97 : decode cX7_says722 97 = .ok (.iconst 1, 1) := by decide +kernel
theorem dX7_says722_98 : decode cX7_says722 98 = .ok (.iadd, 1) := by decide +kernel
theorem dX7_says722_99 : decode cX7_says722 99 = .ok (.istore 7, 2) := by decide +kernel
theorem dX7_says722_101 : decode cX7_says722 101 = .ok (.goto (-40), 3) := by decide +kernel
theorem dX7_says722_104 : decode cX7_says722 104 = .ok (.iload 5, 2) := by decide +kernel
theorem dX7_says722_106 : decode cX7_says722 106 = .ok (.ifCond .lt 11, 3) := by decide +kernel
theorem dX7_says722_109 : decode cX7_says722 109 = .ok (.bipush 62, 2) := by decide +kernel
theorem dX7_says722_111 : decode cX7_says722 111 = .ok (.iload 7, 2) := by decide +kernel
theorem dX7_says722_113 : decode cX7_says722 113 = .ok (.isub, 1) := by decide +kernel
theorem dX7_says722_114 : decode cX7_says722 114 = .ok (.goto 22, 3) := by decide +kernel
theorem dX7_says722_117 : decode cX7_says722 117 = .ok (.iload 7, 2) := by decide +kernel
theorem dX7_says722_119 : decode cX7_says722 119 = .ok (.iconst 3, 1) := by decide +kernel
theorem dX7_says722_120 : decode cX7_says722 120 = .ok (.if_icmp .ge 11, 3) := by decide +kernel
theorem dX7_says722_123 : decode cX7_says722 123 = .ok (.bipush 64, 2) := by decide +kernel
theorem dX7_says722_125 : decode cX7_says722 125 = .ok (.iload 7, 2) := by decide +kernel
theorem dX7_says722_127 : decode cX7_says722 127 = .ok (.isub, 1) := by decide +kernel
theorem dX7_says722_128 : decode cX7_says722 128 = .ok (.goto 8, 3) := by decide +kernel
theorem dX7_says722_131 : decode cX7_says722 131 = .ok (.bipush 34, 2) := by decide +kernel
theorem dX7_says722_133 : decode cX7_says722 133 = .ok (.iload 7, 2) := by decide +kernel
theorem dX7_says722_135 : decode cX7_says722 135 = .ok (.isub, 1) := by decide +kernel
theorem dX7_says722_136 : decode cX7_says722 136 = .ok (.istore 8, 2) := by decide +kernel
theorem dX7_says722_138 : decode cX7_says722 138 = .ok (.aload_n 0, 1) := by decide +kernel
theorem dX7_says722_139 : decode cX7_says722 139 = .ok (.aload_n 0, 1) := by decide +kernel
theorem dX7_says722_140 : decode cX7_says722 140 = .ok (.getfield 188, 3) := by decide +kernel
theorem dX7_says722_143 : decode cX7_says722 143 = .ok (.aload_n 0, 1) := by decide +kernel
theorem dX7_says722_144 : decode cX7_says722 144 = .ok (.getfield 185, 3) := by decide +kernel
theorem dX7_says722_147 : decode cX7_says722 147 = .ok (.isub, 1) := by decide +kernel
theorem dX7_says722_148 : decode cX7_says722 148 = .ok (.bipush 14, 2) := by decide +kernel
theorem dX7_says722_150 : decode cX7_says722 150 = .ok (.ishr, 1) := by decide +kernel
theorem dX7_says722_151 : decode cX7_says722 151 = .ok (.aload_n 0, 1) := by decide +kernel
theorem dX7_says722_152 : decode cX7_says722 152 = .ok (.getfield 69, 3) := by decide +kernel
theorem dX7_says722_155 : decode cX7_says722 155 = .ok (.iload 4, 2) := by decide +kernel
theorem dX7_says722_157 : decode cX7_says722 157 = .ok (.bipush 25, 2) := by decide +kernel
theorem dX7_says722_159 : decode cX7_says722 159 = .ok (.iadd, 1) := by decide +kernel
theorem dX7_says722_160 : decode cX7_says722 160 = .ok (.iaload, 1) := by decide +kernel
theorem dX7_says722_161 : decode cX7_says722 161 = .ok (.isub, 1) := by decide +kernel
theorem dX7_says722_162 : decode cX7_says722 162 = .ok (.invokevirtual 182, 3) := by decide +kernel
theorem dX7_says722_165 : decode cX7_says722 165 = .ok (.istore 9, 2) := by decide +kernel
theorem dX7_says722_167 : decode cX7_says722 167 = .ok (.iload 9, 2) := by decide +kernel
theorem dX7_says722_169 : decode cX7_says722 169 = .ok (.ifCond .ge 11, 3) := by decide +kernel
theorem dX7_says722_172 : decode cX7_says722 172 = .ok (.iload 9, 2) := by decide +kernel
theorem dX7_says722_174 : decode cX7_says722 174 = .ok (.iconst 1, 1) := by decide +kernel
theorem dX7_says722_175 : decode cX7_says722 175 = .ok (.iadd, 1) := by decide +kernel
theorem dX7_says722_176 : decode cX7_says722 176 = .ok (.ineg, 1) := by decide +kernel
theorem dX7_says722_177 : decode cX7_says722 177 = .ok (.goto 5, 3) := by decide +kernel
theorem dX7_says722_180 : decode cX7_says722 180 = .ok (.iload 9, 2) := by decide +kernel
theorem dX7_says722_182 : decode cX7_says722 182 = .ok (.istore 10, 2) := by decide +kernel
theorem dX7_says722_184 : decode cX7_says722 184 = .ok (.iload 10, 2) := by decide +kernel
theorem dX7_says722_186 : decode cX7_says722 186 = .ok (.sipush 564, 3) := by decide +kernel
theorem dX7_says722_189 : decode cX7_says722 189 = .ok (.aload_n 0, 1) := by decide +kernel
theorem dX7_says722_190 : decode cX7_says722 190 = .ok (.getfield 69, 3) := by decide +kernel
theorem dX7_says722_193 : decode cX7_says722 193 = .ok (.iload 4, 2) := by decide +kernel
theorem dX7_says722_195 : decode cX7_says722 195 = .ok (.bipush 24, 2) := by decide +kernel
theorem dX7_says722_197 : decode cX7_says722 197 = .ok (.iadd, 1) := by decide +kernel
theorem dX7_says722_198 : decode cX7_says722 198 = .ok (.iaload, 1) := by decide +kernel
theorem dX7_says722_199 : decode cX7_says722 199 = .ok (.imul, 1) := by decide +kernel
theorem dX7_says722_200 : decode cX7_says722 200 = .ok (.bipush 12, 2) := by decide +kernel
theorem dX7_says722_202 : decode cX7_says722 202 = .ok (.ishr, 1) := by decide +kernel
theorem dX7_says722_203 : decode cX7_says722 203 = .ok (.if_icmp .ge 7, 3) := by decide +kernel
theorem dX7_says722_206 : decode cX7_says722 206 = .ok (.iconst 1, 1) := by decide +kernel
theorem dX7_says722_207 : decode cX7_says722 207 = .ok (.goto 4, 3) := by decide +kernel
theorem dX7_says722_210 : decode cX7_says722 210 = .ok (.iconst 0, 1) := by decide +kernel
theorem dX7_says722_211 : decode cX7_says722 211 = .ok (.istore 11, 2) := by decide +kernel
theorem dX7_says722_213 : decode cX7_says722 213 = .ok (.iload 9, 2) := by decide +kernel
theorem dX7_says722_215 : decode cX7_says722 215 = .ok (.ifCond .ge 16, 3) := by decide +kernel
theorem dX7_says722_218 : decode cX7_says722 218 = .ok (.iload 11, 2) := by decide +kernel
theorem dX7_says722_220 : decode cX7_says722 220 = .ok (.ifCond .eq 7, 3) := by decide +kernel
theorem dX7_says722_223 : decode cX7_says722 223 = .ok (.iconst 1, 1) := by decide +kernel
theorem dX7_says722_224 : decode cX7_says722 224 = .ok (.goto 17, 3) := by decide +kernel
theorem dX7_says722_227 : decode cX7_says722 227 = .ok (.iconst 0, 1) := by decide +kernel
theorem dX7_says722_228 : decode cX7_says722 228 = .ok (.goto 13, 3) := by decide +kernel
theorem dX7_says722_231 : decode cX7_says722 231 = .ok (.iload 11, 2) := by decide +kernel
theorem dX7_says722_233 : decode cX7_says722 233 = .ok (.ifCond .eq 7, 3) := by decide +kernel
theorem dX7_says722_236 : decode cX7_says722 236 = .ok (.iconst 3, 1) := by decide +kernel
theorem dX7_says722_237 : decode cX7_says722 237 = .ok (.goto 4, 3) := by decide +kernel
theorem dX7_says722_240 : decode cX7_says722 240 = .ok (.iconst 2, 1) := by decide +kernel
theorem dX7_says722_241 : decode cX7_says722 241 = .ok (.istore 12, 2) := by decide +kernel
theorem dX7_says722_243 : decode cX7_says722 243 = .ok (.aload_n 0, 1) := by decide +kernel
theorem dX7_says722_244 : decode cX7_says722 244 = .ok (.iload_n 1, 1) := by decide +kernel
theorem dX7_says722_245 : decode cX7_says722 245 = .ok (.iload 8, 2) := by decide +kernel
theorem dX7_says722_247 : decode cX7_says722 247 = .ok (.iload 12, 2) := by decide +kernel
theorem dX7_says722_249 : decode cX7_says722 249 = .ok (.invokevirtual 195, 3) := by decide +kernel
theorem dX7_says722_252 : decode cX7_says722 252 = .ok (.bipush 64, 2) := by decide +kernel
theorem dX7_says722_254 : decode cX7_says722 254 = .ok (.iload 12, 2) := by decide +kernel
theorem dX7_says722_256 : decode cX7_says722 256 = .ok (.imul, 1) := by decide +kernel
theorem dX7_says722_257 : decode cX7_says722 257 = .ok (.iload 8, 2) := by decide +kernel
theorem dX7_says722_259 : decode cX7_says722 259 = .ok (.iadd, 1) := by decide +kernel
theorem dX7_says722_260 : decode cX7_says722 260 = .ok (.ireturn, 1) := by decide +kernel
theorem dX7_root_0 : decode cX7_root 0 = .ok (.aload_n 0, 1) := by decide +kernel
theorem dX7_root_1 : decode cX7_root 1 = .ok (.getfield 81, 3) := by decide +kernel
theorem dX7_root_4 : decode cX7_root 4 = .ok (.iload_n 1, 1) := by decide +kernel
theorem dX7_root_5 : decode cX7_root 5 = .ok (.bipush 6, 2) := by decide +kernel
theorem dX7_root_7 : decode cX7_root 7 = .ok (.ishr, 1) := by decide +kernel
theorem dX7_root_8 : decode cX7_root 8 = .ok (.bipush 31, 2) := by decide +kernel
theorem dX7_root_10 : decode cX7_root 10 = .ok (.iand, 1) := by decide +kernel
theorem dX7_root_11 : decode cX7_root 11 = .ok (.iaload, 1) := by decide +kernel
theorem dX7_root_12 : decode cX7_root 12 = .ok (.istore_n 3, 1) := by decide +kernel
theorem dX7_root_13 : decode cX7_root 13 = .ok (.iload_n 2, 1) := by decide +kernel
theorem dX7_root_14 : decode cX7_root 14 = .ok (.iload_n 1, 1) := by decide +kernel
theorem dX7_root_15 : decode cX7_root 15 = .ok (.bipush 11, 2) := by decide +kernel
theorem dX7_root_17 : decode cX7_root 17 = .ok (.ishr, 1) := by decide +kernel
theorem dX7_root_18 : decode cX7_root 18 = .ok (.isub, 1) := by decide +kernel
theorem dX7_root_19 : decode cX7_root 19 = .ok (.istore 4, 2) := by decide +kernel
theorem dX7_root_21 : decode cX7_root 21 = .ok (.iconst 4, 1) := by decide +kernel
theorem dX7_root_22 : decode cX7_root 22 = .ok (.iload 4, 2) := by decide +kernel
theorem dX7_root_24 : decode cX7_root 24 = .ok (.ifCond .ge 11, 3) := by decide +kernel
theorem dX7_root_27 : decode cX7_root 27 = .ok (.iload_n 3, 1) := by decide +kernel
theorem dX7_root_28 : decode cX7_root 28 = .ok (.iload 4, 2) := by decide +kernel
theorem dX7_root_30 : decode cX7_root 30 = .ok (.ineg, 1) := by decide +kernel
theorem dX7_root_31 : decode cX7_root 31 = .ok (.ishl, 1) := by decide +kernel
theorem dX7_root_32 : decode cX7_root 32 = .ok (.goto 7, 3) := by decide +kernel
theorem dX7_root_35 : decode cX7_root 35 = .ok (.iload_n 3, 1) := by decide +kernel
theorem dX7_root_36 : decode cX7_root 36 = .ok (.iload 4, 2) := by decide +kernel
theorem dX7_root_38 : decode cX7_root 38 = .ok (.ishr, 1) := by decide +kernel
theorem dX7_root_39 : decode cX7_root 39 = .ok (.imul, 1) := by decide +kernel
theorem dX7_root_40 : decode cX7_root 40 = .ok (.ireturn, 1) := by decide +kernel
theorem dX7_both_0 : decode cX7_both 0 = .ok (.bipush 46, 2) := by decide +kernel
theorem dX7_both_2 : decode cX7_both 2 = .ok (.iload_n 1, 1) := by decide +kernel
theorem dX7_both_3 : decode cX7_both 3 = .ok (.imul, 1) := by decide +kernel
theorem dX7_both_4 : decode cX7_both 4 = .ok (.istore 4, 2) := by decide +kernel
theorem dX7_both_6 : decode cX7_both 6 = .ok (.iload_n 2, 1) := by decide +kernel
theorem dX7_both_7 : decode cX7_both 7 = .ok (.iconst 2, 1) := by decide +kernel
theorem dX7_both_8 : decode cX7_both 8 = .ok (.ishr, 1) := by decide +kernel
theorem dX7_both_9 : decode cX7_both 9 = .ok (.istore 5, 2) := by decide +kernel
theorem dX7_both_11 : decode cX7_both 11 = .ok (.aload_n 0, 1) := by decide +kernel
theorem dX7_both_12 : decode cX7_both 12 = .ok (.getfield 69, 3) := by decide +kernel
theorem dX7_both_15 : decode cX7_both 15 = .ok (.iload 4, 2) := by decide +kernel
theorem dX7_both_17 : decode cX7_both 17 = .ok (.iconst 1, 1) := by decide +kernel
theorem dX7_both_18 : decode cX7_both 18 = .ok (.iadd, 1) := by decide +kernel
theorem dX7_both_19 : decode cX7_both 19 = .ok (.iaload, 1) := by decide +kernel
theorem dX7_both_20 : decode cX7_both 20 = .ok (.aload_n 0, 1) := by decide +kernel
theorem dX7_both_21 : decode cX7_both 21 = .ok (.getfield 84, 3) := by decide +kernel
theorem dX7_both_24 : decode cX7_both 24 = .ok (.iload 5, 2) := by decide +kernel
theorem dX7_both_26 : decode cX7_both 26 = .ok (.iaload, 1) := by decide +kernel
theorem dX7_both_27 : decode cX7_both 27 = .ok (.imul, 1) := by decide +kernel
theorem dX7_both_28 : decode cX7_both 28 = .ok (.bipush 15, 2) := by decide +kernel
theorem dX7_both_30 : decode cX7_both 30 = .ok (.ishr, 1) := by decide +kernel
theorem dX7_both_31 : decode cX7_both 31 = .ok (.istore 6, 2) := by decide +kernel
theorem dX7_both_33 : decode cX7_both 33 = .ok (.aload_n 0, 1) := by decide +kernel
theorem dX7_both_34 : decode cX7_both 34 = .ok (.getfield 69, 3) := by decide +kernel
theorem dX7_both_37 : decode cX7_both 37 = .ok (.iload 4, 2) := by decide +kernel
theorem dX7_both_39 : decode cX7_both 39 = .ok (.aload_n 0, 1) := by decide +kernel
theorem dX7_both_40 : decode cX7_both 40 = .ok (.bipush 127, 2) := by decide +kernel
theorem dX7_both_42 : decode cX7_both 42 = .ok (.aload_n 0, 1) := by decide +kernel
theorem dX7_both_43 : decode cX7_both 43 = .ok (.getfield 69, 3) := by decide +kernel
theorem dX7_both_46 : decode cX7_both 46 = .ok (.iload 4, 2) := by decide +kernel
theorem dX7_both_48 : decode cX7_both 48 = .ok (.iaload, 1) := by decide +kernel
theorem dX7_both_49 : decode cX7_both 49 = .ok (.imul, 1) := by decide +kernel
theorem dX7_both_50 : decode cX7_both 50 = .ok (.bipush 7, 2) := by decide +kernel
theorem dX7_both_52 : decode cX7_both 52 = .ok (.ishr, 1) := by decide +kernel
theorem dX7_both_53 : decode cX7_both 53 = .ok (.aload_n 0, 1) := by decide +kernel
theorem dX7_both_54 : decode cX7_both 54 = .ok (.getfield 90, 3) := by decide +kernel
theorem dX7_both_57 : decode cX7_both 57 = .ok (.iload 5, 2) := by decide +kernel
theorem dX7_both_59 : decode cX7_both 59 = .ok (.iaload, 1) := by decide +kernel
theorem dX7_both_60 : decode cX7_both 60 = .ok (.iadd, 1) := by decide +kernel
theorem dX7_both_61 : decode cX7_both 61 = .ok (.iconst 0, 1) := by decide +kernel
theorem dX7_both_62 : decode cX7_both 62 = .ok (.sipush 18432, 3) := by decide +kernel
theorem dX7_both_65 : decode cX7_both 65 = .ok (.invokevirtual 169, 3) := by decide +kernel
theorem dX7_both_68 : decode cX7_both 68 = .ok (.iastore, 1) := by decide +kernel
theorem dX7_both_69 : decode cX7_both 69 = .ok (.aload_n 0, 1) := by decide +kernel
theorem dX7_both_70 : decode cX7_both 70 = .ok (.getfield 69, 3) := by decide +kernel
theorem dX7_both_73 : decode cX7_both 73 = .ok (.iload 4, 2) := by decide +kernel
theorem dX7_both_75 : decode cX7_both 75 = .ok (.iconst 1, 1) := by decide +kernel
theorem dX7_both_76 : decode cX7_both 76 = .ok (.iadd, 1) := by decide +kernel
theorem dX7_both_77 : decode cX7_both 77 = .ok (.aload_n 0, 1) := by decide +kernel
theorem dX7_both_78 : decode cX7_both 78 = .ok (.aload_n 0, 1) := by decide +kernel
theorem dX7_both_79 : decode cX7_both 79 = .ok (.getfield 69, 3) := by decide +kernel
theorem dX7_both_82 : decode cX7_both 82 = .ok (.iload 4, 2) := by decide +kernel
theorem dX7_both_84 : decode cX7_both 84 = .ok (.iaload, 1) := by decide +kernel
theorem dX7_both_85 : decode cX7_both 85 = .ok (.bipush 8, 2) := by decide +kernel
theorem dX7_both_87 : decode cX7_both 87 = .ok (.invokevirtual 198, 3) := by decide +kernel
theorem dX7_both_90 : decode cX7_both 90 = .ok (.iastore, 1) := by decide +kernel
theorem dX7_both_91 : decode cX7_both 91 = .ok (.aload_n 0, 1) := by decide +kernel
theorem dX7_both_92 : decode cX7_both 92 = .ok (.iload 4, 2) := by decide +kernel
theorem dX7_both_94 : decode cX7_both 94 = .ok (.iload 6, 2) := by decide +kernel
theorem dX7_both_96 : decode cX7_both 96 = .ok (.invokevirtual 201, 3) := by decide +kernel
theorem dX7_both_99 : decode cX7_both 99 = .ok (.aload_n 0, 1) := by decide +kernel
theorem dX7_both_100 : decode cX7_both 100 = .ok (.getfield 69, 3) := by decide +kernel
theorem dX7_both_103 : decode cX7_both 103 = .ok (.iload 4, 2) := by decide +kernel
theorem dX7_both_105 : decode cX7_both 105 = .ok (.bipush 24, 2) := by decide +kernel
theorem dX7_both_107 : decode cX7_both 107 = .ok (.iadd, 1) := by decide +kernel
theorem dX7_both_108 : decode cX7_both 108 = .ok (.iaload, 1) := by decide +kernel
theorem dX7_both_109 : decode cX7_both 109 = .ok (.aload_n 0, 1) := by decide +kernel
theorem dX7_both_110 : decode cX7_both 110 = .ok (.getfield 87, 3) := by decide +kernel
theorem dX7_both_113 : decode cX7_both 113 = .ok (.iload_n 3, 1) := by decide +kernel
theorem dX7_both_114 : decode cX7_both 114 = .ok (.iaload, 1) := by decide +kernel
theorem dX7_both_115 : decode cX7_both 115 = .ok (.imul, 1) := by decide +kernel
theorem dX7_both_116 : decode cX7_both 116 = .ok (.bipush 15, 2) := by decide +kernel
theorem dX7_both_118 : decode cX7_both 118 = .ok (.ishr, 1) := by decide +kernel
theorem dX7_both_119 : decode cX7_both 119 = .ok (.istore 7, 2) := by decide +kernel
theorem dX7_both_121 : decode cX7_both 121 = .ok (.aload_n 0, 1) := by decide +kernel
theorem dX7_both_122 : decode cX7_both 122 = .ok (.getfield 69, 3) := by decide +kernel
theorem dX7_both_125 : decode cX7_both 125 = .ok (.iload 4, 2) := by decide +kernel
theorem dX7_both_127 : decode cX7_both 127 = .ok (.bipush 23, 2) := by decide +kernel
theorem dX7_both_129 : decode cX7_both 129 = .ok (.iadd, 1) := by decide +kernel
theorem dX7_both_130 : decode cX7_both 130 = .ok (.aload_n 0, 1) := by decide +kernel
theorem dX7_both_131 : decode cX7_both 131 = .ok (.bipush 127, 2) := by decide +kernel
theorem dX7_both_133 : decode cX7_both 133 = .ok (.aload_n 0, 1) := by decide +kernel
theorem dX7_both_134 : decode cX7_both 134 = .ok (.getfield 69, 3) := by decide +kernel
theorem dX7_both_137 : decode cX7_both 137 = .ok (.iload 4, 2) := by decide +kernel
theorem dX7_both_139 : decode cX7_both 139 = .ok (.bipush 23, 2) := by decide +kernel
theorem dX7_both_141 : decode cX7_both 141 = .ok (.iadd, 1) := by decide +kernel
theorem dX7_both_142 : decode cX7_both 142 = .ok (.iaload, 1) := by decide +kernel
theorem dX7_both_143 : decode cX7_both 143 = .ok (.imul, 1) := by decide +kernel
theorem dX7_both_144 : decode cX7_both 144 = .ok (.bipush 7, 2) := by decide +kernel
theorem dX7_both_146 : decode cX7_both 146 = .ok (.ishr, 1) := by decide +kernel
theorem dX7_both_147 : decode cX7_both 147 = .ok (.aload_n 0, 1) := by decide +kernel
theorem dX7_both_148 : decode cX7_both 148 = .ok (.getfield 93, 3) := by decide +kernel
theorem dX7_both_151 : decode cX7_both 151 = .ok (.iload_n 3, 1) := by decide +kernel
theorem dX7_both_152 : decode cX7_both 152 = .ok (.iaload, 1) := by decide +kernel
theorem dX7_both_153 : decode cX7_both 153 = .ok (.iadd, 1) := by decide +kernel
theorem dX7_both_154 : decode cX7_both 154 = .ok (.iconst 0, 1) := by decide +kernel
theorem dX7_both_155 : decode cX7_both 155 = .ok (.sipush 22528, 3) := by decide +kernel
theorem dX7_both_158 : decode cX7_both 158 = .ok (.invokevirtual 169, 3) := by decide +kernel
theorem dX7_both_161 : decode cX7_both 161 = .ok (.iastore, 1) := by decide +kernel
theorem dX7_both_162 : decode cX7_both 162 = .ok (.aload_n 0, 1) := by decide +kernel
theorem dX7_both_163 : decode cX7_both 163 = .ok (.getfield 69, 3) := by decide +kernel
theorem dX7_both_166 : decode cX7_both 166 = .ok (.iload 4, 2) := by decide +kernel
theorem dX7_both_168 : decode cX7_both 168 = .ok (.bipush 24, 2) := by decide +kernel
theorem dX7_both_170 : decode cX7_both 170 = .ok (.iadd, 1) := by decide +kernel
theorem dX7_both_171 : decode cX7_both 171 = .ok (.aload_n 0, 1) := by decide +kernel
theorem dX7_both_172 : decode cX7_both 172 = .ok (.aload_n 0, 1) := by decide +kernel
theorem dX7_both_173 : decode cX7_both 173 = .ok (.getfield 69, 3) := by decide +kernel
theorem dX7_both_176 : decode cX7_both 176 = .ok (.iload 4, 2) := by decide +kernel
theorem dX7_both_178 : decode cX7_both 178 = .ok (.bipush 23, 2) := by decide +kernel
theorem dX7_both_180 : decode cX7_both 180 = .ok (.iadd, 1) := by decide +kernel
theorem dX7_both_181 : decode cX7_both 181 = .ok (.iaload, 1) := by decide +kernel
theorem dX7_both_182 : decode cX7_both 182 = .ok (.bipush 10, 2) := by decide +kernel
theorem dX7_both_184 : decode cX7_both 184 = .ok (.invokevirtual 198, 3) := by decide +kernel
theorem dX7_both_187 : decode cX7_both 187 = .ok (.iastore, 1) := by decide +kernel
theorem dX7_both_188 : decode cX7_both 188 = .ok (.aload_n 0, 1) := by decide +kernel
theorem dX7_both_189 : decode cX7_both 189 = .ok (.iload 4, 2) := by decide +kernel
theorem dX7_both_191 : decode cX7_both 191 = .ok (.bipush 23, 2) := by decide +kernel
theorem dX7_both_193 : decode cX7_both 193 = .ok (.iadd, 1) := by decide +kernel
theorem dX7_both_194 : decode cX7_both 194 = .ok (.iload 7, 2) := by decide +kernel
theorem dX7_both_196 : decode cX7_both 196 = .ok (.invokevirtual 201, 3) := by decide +kernel
theorem dX7_both_199 : decode cX7_both 199 = .ok (.return_, 1) := by decide +kernel
theorem dX7_goesOn_0 : decode cX7_goesOn 0 = .ok (.aload_n 0, 1) := by decide +kernel
theorem dX7_goesOn_1 : decode cX7_goesOn 1 = .ok (.aload_n 0, 1) := by decide +kernel
theorem dX7_goesOn_2 : decode cX7_goesOn 2 = .ok (.getfield 69, 3) := by decide +kernel
theorem dX7_goesOn_5 : decode cX7_goesOn 5 = .ok (.iload_n 1, 1) := by decide +kernel
theorem dX7_goesOn_6 : decode cX7_goesOn 6 = .ok (.iconst 2, 1) := by decide +kernel
theorem dX7_goesOn_7 : decode cX7_goesOn 7 = .ok (.iadd, 1) := by decide +kernel
theorem dX7_goesOn_8 : decode cX7_goesOn 8 = .ok (.iaload, 1) := by decide +kernel
theorem dX7_goesOn_9 : decode cX7_goesOn 9 = .ok (.iload_n 2, 1) := by decide +kernel
theorem dX7_goesOn_10 : decode cX7_goesOn 10 = .ok (.iadd, 1) := by decide +kernel
theorem dX7_goesOn_11 : decode cX7_goesOn 11 = .ok (.invokevirtual 182, 3) := by decide +kernel
theorem dX7_goesOn_14 : decode cX7_goesOn 14 = .ok (.istore_n 3, 1) := by decide +kernel
theorem dX7_goesOn_15 : decode cX7_goesOn 15 = .ok (.aload_n 0, 1) := by decide +kernel
theorem dX7_goesOn_16 : decode cX7_goesOn 16 = .ok (.aload_n 0, 1) := by decide +kernel
theorem dX7_goesOn_17 : decode cX7_goesOn 17 = .ok (.getfield 69, 3) := by decide +kernel
theorem dX7_goesOn_20 : decode cX7_goesOn 20 = .ok (.iload_n 1, 1) := by decide +kernel
theorem dX7_goesOn_21 : decode cX7_goesOn 21 = .ok (.iconst 4, 1) := by decide +kernel
theorem dX7_goesOn_22 : decode cX7_goesOn 22 = .ok (.iadd, 1) := by decide +kernel
theorem dX7_goesOn_23 : decode cX7_goesOn 23 = .ok (.iaload, 1) := by decide +kernel
theorem dX7_goesOn_24 : decode cX7_goesOn 24 = .ok (.iload_n 2, 1) := by decide +kernel
theorem dX7_goesOn_25 : decode cX7_goesOn 25 = .ok (.iadd, 1) := by decide +kernel
theorem dX7_goesOn_26 : decode cX7_goesOn 26 = .ok (.invokevirtual 182, 3) := by decide +kernel
theorem dX7_goesOn_29 : decode cX7_goesOn 29 = .ok (.istore 4, 2) := by decide +kernel
theorem dX7_goesOn_31 : decode cX7_goesOn 31 = .ok (.aload_n 0, 1) := by decide +kernel
theorem dX7_goesOn_32 : decode cX7_goesOn 32 = .ok (.getfield 69, 3) := by decide +kernel
theorem dX7_goesOn_35 : decode cX7_goesOn 35 = .ok (.iload_n 1, 1) := by decide +kernel
theorem dX7_goesOn_36 : decode cX7_goesOn 36 = .ok (.bipush 15, 2) := by decide +kernel
theorem dX7_goesOn_38 : decode cX7_goesOn 38 = .ok (.iadd, 1) := by decide +kernel
theorem dX7_goesOn_39 : decode cX7_goesOn 39 = .ok (.iaload, 1) := by decide +kernel
theorem dX7_goesOn_40 : decode cX7_goesOn 40 = .ok (.istore 5, 2) := by decide +kernel
theorem dX7_goesOn_42 : decode cX7_goesOn 42 = .ok (.aload_n 0, 1) := by decide +kernel
theorem dX7_goesOn_43 : decode cX7_goesOn 43 = .ok (.getfield 69, 3) := by decide +kernel
theorem dX7_goesOn_46 : decode cX7_goesOn 46 = .ok (.iload_n 1, 1) := by decide +kernel
theorem dX7_goesOn_47 : decode cX7_goesOn 47 = .ok (.bipush 16, 2) := by decide +kernel
theorem dX7_goesOn_49 : decode cX7_goesOn 49 = .ok (.iadd, 1) := by decide +kernel
theorem dX7_goesOn_50 : decode cX7_goesOn 50 = .ok (.iaload, 1) := by decide +kernel
theorem dX7_goesOn_51 : decode cX7_goesOn 51 = .ok (.istore 6, 2) := by decide +kernel
theorem dX7_goesOn_53 : decode cX7_goesOn 53 = .ok (.aload_n 0, 1) := by decide +kernel
theorem dX7_goesOn_54 : decode cX7_goesOn 54 = .ok (.iconst 4, 1) := by decide +kernel
theorem dX7_goesOn_55 : decode cX7_goesOn 55 = .ok (.aload_n 0, 1) := by decide +kernel
theorem dX7_goesOn_56 : decode cX7_goesOn 56 = .ok (.getfield 69, 3) := by decide +kernel
theorem dX7_goesOn_59 : decode cX7_goesOn 59 = .ok (.iload_n 1, 1) := by decide +kernel
theorem dX7_goesOn_60 : decode cX7_goesOn 60 = .ok (.iconst 5, 1) := by decide +kernel
theorem dX7_goesOn_61 : decode cX7_goesOn 61 = .ok (.iadd, 1) := by decide +kernel
