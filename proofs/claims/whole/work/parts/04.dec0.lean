theorem dX0_init_0 : decode cX0_init 0 = .ok (.aload_n 0, 1) := by decide +kernel
theorem dX0_init_1 : decode cX0_init 1 = .ok (.invokespecial 3, 3) := by decide +kernel
theorem dX0_init_4 : decode cX0_init 4 = .ok (.aload_n 0, 1) := by decide +kernel
theorem dX0_init_5 : decode cX0_init 5 = .ok (.bipush 24, 2) := by decide +kernel
theorem dX0_init_7 : decode cX0_init 7 = .ok (.newarray .int, 2) := by decide +kernel
theorem dX0_init_9 : decode cX0_init 9 = .ok (.putfield 11, 3) := by decide +kernel
theorem dX0_init_12 : decode cX0_init 12 = .ok (.aload_n 0, 1) := by decide +kernel
theorem dX0_init_13 : decode cX0_init 13 = .ok (.iconst 2, 1) := by decide +kernel
theorem dX0_init_14 : decode cX0_init 14 = .ok (.putfield 15, 3) := by decide +kernel
theorem dX0_init_17 : decode cX0_init 17 = .ok (.aload_n 0, 1) := by decide +kernel
theorem dX0_init_18 : decode cX0_init 18 = .ok (.iconst 0, 1) := by decide +kernel
theorem dX0_init_19 : decode cX0_init 19 = .ok (.putfield 19, 3) := by decide +kernel
theorem dX0_init_22 : decode cX0_init 22 = .ok (.aload_n 0, 1) := by decide +kernel
theorem dX0_init_23 : decode cX0_init 23 = .ok (.iconst 0, 1) := by decide +kernel
theorem dX0_init_24 : decode cX0_init 24 = .ok (.putfield 22, 3) := by decide +kernel
theorem dX0_init_27 : decode cX0_init 27 = .ok (.aload_n 0, 1) := by decide +kernel
theorem dX0_init_28 : decode cX0_init 28 = .ok (.iconst 0, 1) := by decide +kernel
theorem dX0_init_29 : decode cX0_init 29 = .ok (.putfield 25, 3) := by decide +kernel
theorem dX0_init_32 : decode cX0_init 32 = .ok (.return_, 1) := by decide +kernel
theorem dX0_begin_0 : decode cX0_begin 0 = .ok (.aload_n 0, 1) := by decide +kernel
theorem dX0_begin_1 : decode cX0_begin 1 = .ok (.iload_n 1, 1) := by decide +kernel
theorem dX0_begin_2 : decode cX0_begin 2 = .ok (.putfield 15, 3) := by decide +kernel
theorem dX0_begin_5 : decode cX0_begin 5 = .ok (.iconst 0, 1) := by decide +kernel
theorem dX0_begin_6 : decode cX0_begin 6 = .ok (.istore_n 2, 1) := by decide +kernel
theorem dX0_begin_7 : decode cX0_begin 7 = .ok (.iload_n 2, 1) := by decide +kernel
theorem dX0_begin_8 : decode cX0_begin 8 = .ok (.bipush 24, 2) := by decide +kernel
theorem dX0_begin_10 : decode cX0_begin 10 = .ok (.if_icmp .ge 16, 3) := by decide +kernel
theorem dX0_begin_13 : decode cX0_begin 13 = .ok (.aload_n 0, 1) := by decide +kernel
theorem dX0_begin_14 : decode cX0_begin 14 = .ok (.getfield 11, 3) := by decide +kernel
theorem dX0_begin_17 : decode cX0_begin 17 = .ok (.iload_n 2, 1) := by decide +kernel
theorem dX0_begin_18 : decode cX0_begin 18 = .ok (.iconst 0, 1) := by decide +kernel
theorem dX0_begin_19 : decode cX0_begin 19 = .ok (.iastore, 1) := by decide +kernel
theorem dX0_begin_20 : decode cX0_begin 20 = .ok (.iinc 2 1, 3) := by decide +kernel
theorem dX0_begin_23 : decode cX0_begin 23 = .ok (.goto (-16), 3) := by decide +kernel
theorem dX0_begin_26 : decode cX0_begin 26 = .ok (.aload_n 0, 1) := by decide +kernel
theorem dX0_begin_27 : decode cX0_begin 27 = .ok (.getfield 11, 3) := by decide +kernel
theorem dX0_begin_30 : decode cX0_begin 30 = .ok (.iconst 0, 1) := by decide +kernel
theorem dX0_begin_31 : decode cX0_begin 31 = .ok (.ldc 28, 2) := by decide +kernel
theorem dX0_begin_33 : decode cX0_begin 33 = .ok (.iastore, 1) := by decide +kernel
theorem dX0_begin_34 : decode cX0_begin 34 = .ok (.aload_n 0, 1) := by decide +kernel
theorem dX0_begin_35 : decode cX0_begin 35 = .ok (.getfield 11, 3) := by decide +kernel
theorem dX0_begin_38 : decode cX0_begin 38 = .ok (.iconst 1, 1) := by decide +kernel
theorem dX0_begin_39 : decode cX0_begin 39 = .ok (.sipush 544, 3) := by decide +kernel
theorem dX0_begin_42 : decode cX0_begin 42 = .ok (.iastore, 1) := by decide +kernel
theorem dX0_begin_43 : decode cX0_begin 43 = .ok (.aload_n 0, 1) := by decide +kernel
theorem dX0_begin_44 : decode cX0_begin 44 = .ok (.getfield 11, 3) := by decide +kernel
theorem dX0_begin_47 : decode cX0_begin 47 = .ok (.bipush 14, 2) := by decide +kernel
theorem dX0_begin_49 : decode cX0_begin 49 = .ok (.bipush 32, 2) := by decide +kernel
theorem dX0_begin_51 : decode cX0_begin 51 = .ok (.iastore, 1) := by decide +kernel
theorem dX0_begin_52 : decode cX0_begin 52 = .ok (.aload_n 0, 1) := by decide +kernel
theorem dX0_begin_53 : decode cX0_begin 53 = .ok (.getfield 11, 3) := by decide +kernel
theorem dX0_begin_56 : decode cX0_begin 56 = .ok (.bipush 15, 2) := by decide +kernel
theorem dX0_begin_58 : decode cX0_begin 58 = .ok (.bipush 32, 2) := by decide +kernel
theorem dX0_begin_60 : decode cX0_begin 60 = .ok (.iastore, 1) := by decide +kernel
theorem dX0_begin_61 : decode cX0_begin 61 = .ok (.iconst 0, 1) := by decide +kernel
theorem dX0_begin_62 : decode cX0_begin 62 = .ok (.istore_n 2, 1) := by decide +kernel
theorem dX0_begin_63 : decode cX0_begin 63 = .ok (.iload_n 2, 1) := by decide +kernel
theorem dX0_begin_64 : decode cX0_begin 64 = .ok (.bipush 6, 2) := by decide +kernel
theorem dX0_begin_66 : decode cX0_begin 66 = .ok (.if_icmp .ge 20, 3) := by decide +kernel
theorem dX0_begin_69 : decode cX0_begin 69 = .ok (.aload_n 0, 1) := by decide +kernel
theorem dX0_begin_70 : decode cX0_begin 70 = .ok (.getfield 11, 3) := by decide +kernel
theorem dX0_begin_73 : decode cX0_begin 73 = .ok (.bipush 16, 2) := by decide +kernel
theorem dX0_begin_75 : decode cX0_begin 75 = .ok (.iload_n 2, 1) := by decide +kernel
theorem dX0_begin_76 : decode cX0_begin 76 = .ok (.iadd, 1) := by decide +kernel
theorem dX0_begin_77 : decode cX0_begin 77 = .ok (.bipush 32, 2) := by decide +kernel
theorem dX0_begin_79 : decode cX0_begin 79 = .ok (.iastore, 1) := by decide +kernel
theorem dX0_begin_80 : decode cX0_begin 80 = .ok (.iinc 2 1, 3) := by decide +kernel
theorem dX0_begin_83 : decode cX0_begin 83 = .ok (.goto (-20), 3) := by decide +kernel
theorem dX0_begin_86 : decode cX0_begin 86 = .ok (.return_, 1) := by decide +kernel
theorem dX0_number_0 : decode cX0_number 0 = .ok (.iload_n 1, 1) := by decide +kernel
theorem dX0_number_1 : decode cX0_number 1 = .ok (.ifCond .lt 9, 3) := by decide +kernel
theorem dX0_number_4 : decode cX0_number 4 = .ok (.iload_n 1, 1) := by decide +kernel
theorem dX0_number_5 : decode cX0_number 5 = .ok (.bipush 24, 2) := by decide +kernel
theorem dX0_number_7 : decode cX0_number 7 = .ok (.if_icmp .lt 8, 3) := by decide +kernel
theorem dX0_number_10 : decode cX0_number 10 = .ok (.ldc 29, 2) := by decide +kernel
theorem dX0_number_12 : decode cX0_number 12 = .ok (.goto 9, 3) := by decide +kernel
theorem dX0_number_15 : decode cX0_number 15 = .ok (.aload_n 0, 1) := by decide +kernel
theorem dX0_number_16 : decode cX0_number 16 = .ok (.getfield 11, 3) := by decide +kernel
theorem dX0_number_19 : decode cX0_number 19 = .ok (.iload_n 1, 1) := by decide +kernel
theorem dX0_number_20 : decode cX0_number 20 = .ok (.iaload, 1) := by decide +kernel
theorem dX0_number_21 : decode cX0_number 21 = .ok (.ireturn, 1) := by decide +kernel
theorem dX0_encode_0 : decode cX0_encode 0 = .ok (.aload_n 0, 1) := by decide +kernel
theorem dX0_encode_1 : decode cX0_encode 1 = .ok (.invokevirtual 30, 3) := by decide +kernel
theorem dX0_encode_4 : decode cX0_encode 4 = .ok (.aload_n 0, 1) := by decide +kernel
theorem dX0_encode_5 : decode cX0_encode 5 = .ok (.iload_n 1, 1) := by decide +kernel
theorem dX0_encode_6 : decode cX0_encode 6 = .ok (.iconst 2, 1) := by decide +kernel
theorem dX0_encode_7 : decode cX0_encode 7 = .ok (.ishr, 1) := by decide +kernel
theorem dX0_encode_8 : decode cX0_encode 8 = .ok (.aload_n 0, 1) := by decide +kernel
theorem dX0_encode_9 : decode cX0_encode 9 = .ok (.getfield 19, 3) := by decide +kernel
theorem dX0_encode_12 : decode cX0_encode 12 = .ok (.isub, 1) := by decide +kernel
theorem dX0_encode_13 : decode cX0_encode 13 = .ok (.invokevirtual 33, 3) := by decide +kernel
theorem dX0_encode_16 : decode cX0_encode 16 = .ok (.istore_n 2, 1) := by decide +kernel
theorem dX0_encode_17 : decode cX0_encode 17 = .ok (.aload_n 0, 1) := by decide +kernel
theorem dX0_encode_18 : decode cX0_encode 18 = .ok (.iload_n 2, 1) := by decide +kernel
theorem dX0_encode_19 : decode cX0_encode 19 = .ok (.invokevirtual 37, 3) := by decide +kernel
theorem dX0_encode_22 : decode cX0_encode 22 = .ok (.pop, 1) := by decide +kernel
theorem dX0_encode_23 : decode cX0_encode 23 = .ok (.iload_n 2, 1) := by decide +kernel
theorem dX0_encode_24 : decode cX0_encode 24 = .ok (.ireturn, 1) := by decide +kernel
theorem dX0_decode_0 : decode cX0_decode 0 = .ok (.aload_n 0, 1) := by decide +kernel
theorem dX0_decode_1 : decode cX0_decode 1 = .ok (.invokevirtual 30, 3) := by decide +kernel
theorem dX0_decode_4 : decode cX0_decode 4 = .ok (.iconst 4, 1) := by decide +kernel
theorem dX0_decode_5 : decode cX0_decode 5 = .ok (.aload_n 0, 1) := by decide +kernel
theorem dX0_decode_6 : decode cX0_decode 6 = .ok (.iload_n 1, 1) := by decide +kernel
theorem dX0_decode_7 : decode cX0_decode 7 = .ok (.invokevirtual 37, 3) := by decide +kernel
theorem dX0_decode_10 : decode cX0_decode 10 = .ok (.imul, 1) := by decide +kernel
theorem dX0_decode_11 : decode cX0_decode 11 = .ok (.invokestatic 40, 3) := by decide +kernel
theorem dX0_decode_14 : decode cX0_decode 14 = .ok (.ireturn, 1) := by decide +kernel
theorem dX0_foresee_0 : decode cX0_foresee 0 = .ok (.iconst 0, 1) := by decide +kernel
theorem dX0_foresee_1 : decode cX0_foresee 1 = .ok (.istore_n 1, 1) := by decide +kernel
theorem dX0_foresee_2 : decode cX0_foresee 2 = .ok (.iconst 0, 1) := by decide +kernel
theorem dX0_foresee_3 : decode cX0_foresee 3 = .ok (.istore_n 2, 1) := by decide +kernel
theorem dX0_foresee_4 : decode cX0_foresee 4 = .ok (.iload_n 2, 1) := by decide +kernel
theorem dX0_foresee_5 : decode cX0_foresee 5 = .ok (.bipush 6, 2) := by decide +kernel
theorem dX0_foresee_7 : decode cX0_foresee 7 = .ok (.if_icmp .ge 35, 3) := by decide +kernel
theorem dX0_foresee_10 : decode cX0_foresee 10 = .ok (.iload_n 1, 1) := by decide +kernel
theorem dX0_foresee_11 : decode cX0_foresee 11 = .ok (.aload_n 0, 1) := by decide +kernel
theorem dX0_foresee_12 : decode cX0_foresee 12 = .ok (.getfield 11, 3) := by decide +kernel
theorem dX0_foresee_15 : decode cX0_foresee 15 = .ok (.bipush 8, 2) := by decide +kernel
theorem dX0_foresee_17 : decode cX0_foresee 17 = .ok (.iload_n 2, 1) := by decide +kernel
theorem dX0_foresee_18 : decode cX0_foresee 18 = .ok (.iadd, 1) := by decide +kernel
theorem dX0_foresee_19 : decode cX0_foresee 19 = .ok (.iaload, 1) := by decide +kernel
theorem dX0_foresee_20 : decode cX0_foresee 20 = .ok (.iconst 2, 1) := by decide +kernel
theorem dX0_foresee_21 : decode cX0_foresee 21 = .ok (.ishr, 1) := by decide +kernel
theorem dX0_foresee_22 : decode cX0_foresee 22 = .ok (.aload_n 0, 1) := by decide +kernel
theorem dX0_foresee_23 : decode cX0_foresee 23 = .ok (.getfield 11, 3) := by decide +kernel
theorem dX0_foresee_26 : decode cX0_foresee 26 = .ok (.bipush 16, 2) := by decide +kernel
theorem dX0_foresee_28 : decode cX0_foresee 28 = .ok (.iload_n 2, 1) := by decide +kernel
theorem dX0_foresee_29 : decode cX0_foresee 29 = .ok (.iadd, 1) := by decide +kernel
theorem dX0_foresee_30 : decode cX0_foresee 30 = .ok (.iaload, 1) := by decide +kernel
theorem dX0_foresee_31 : decode cX0_foresee 31 = .ok (.invokestatic 43, 3) := by decide +kernel
theorem dX0_foresee_34 : decode cX0_foresee 34 = .ok (.iadd, 1) := by decide +kernel
theorem dX0_foresee_35 : decode cX0_foresee 35 = .ok (.istore_n 1, 1) := by decide +kernel
theorem dX0_foresee_36 : decode cX0_foresee 36 = .ok (.iinc 2 1, 3) := by decide +kernel
theorem dX0_foresee_39 : decode cX0_foresee 39 = .ok (.goto (-35), 3) := by decide +kernel
theorem dX0_foresee_42 : decode cX0_foresee 42 = .ok (.iload_n 1, 1) := by decide +kernel
theorem dX0_foresee_43 : decode cX0_foresee 43 = .ok (.invokestatic 47, 3) := by decide +kernel
theorem dX0_foresee_46 : decode cX0_foresee 46 = .ok (.istore_n 1, 1) := by decide +kernel
theorem dX0_foresee_47 : decode cX0_foresee 47 = .ok (.aload_n 0, 1) := by decide +kernel
theorem dX0_foresee_48 : decode cX0_foresee 48 = .ok (.iload_n 1, 1) := by decide +kernel
theorem dX0_foresee_49 : decode cX0_foresee 49 = .ok (.iconst 1, 1) := by decide +kernel
theorem dX0_foresee_50 : decode cX0_foresee 50 = .ok (.ishr, 1) := by decide +kernel
theorem dX0_foresee_51 : decode cX0_foresee 51 = .ok (.putfield 22, 3) := by decide +kernel
theorem dX0_foresee_54 : decode cX0_foresee 54 = .ok (.aload_n 0, 1) := by decide +kernel
theorem dX0_foresee_55 : decode cX0_foresee 55 = .ok (.getfield 11, 3) := by decide +kernel
theorem dX0_foresee_58 : decode cX0_foresee 58 = .ok (.bipush 7, 2) := by decide +kernel
theorem dX0_foresee_60 : decode cX0_foresee 60 = .ok (.iaload, 1) := by decide +kernel
theorem dX0_foresee_61 : decode cX0_foresee 61 = .ok (.iconst 2, 1) := by decide +kernel
theorem dX0_foresee_62 : decode cX0_foresee 62 = .ok (.ishr, 1) := by decide +kernel
theorem dX0_foresee_63 : decode cX0_foresee 63 = .ok (.aload_n 0, 1) := by decide +kernel
theorem dX0_foresee_64 : decode cX0_foresee 64 = .ok (.getfield 11, 3) := by decide +kernel
theorem dX0_foresee_67 : decode cX0_foresee 67 = .ok (.bipush 15, 2) := by decide +kernel
theorem dX0_foresee_69 : decode cX0_foresee 69 = .ok (.iaload, 1) := by decide +kernel
theorem dX0_foresee_70 : decode cX0_foresee 70 = .ok (.invokestatic 43, 3) := by decide +kernel
theorem dX0_foresee_73 : decode cX0_foresee 73 = .ok (.aload_n 0, 1) := by decide +kernel
theorem dX0_foresee_74 : decode cX0_foresee 74 = .ok (.getfield 11, 3) := by decide +kernel
theorem dX0_foresee_77 : decode cX0_foresee 77 = .ok (.bipush 6, 2) := by decide +kernel
theorem dX0_foresee_79 : decode cX0_foresee 79 = .ok (.iaload, 1) := by decide +kernel
theorem dX0_foresee_80 : decode cX0_foresee 80 = .ok (.iconst 2, 1) := by decide +kernel
theorem dX0_foresee_81 : decode cX0_foresee 81 = .ok (.ishr, 1) := by decide +kernel
theorem dX0_foresee_82 : decode cX0_foresee 82 = .ok (.aload_n 0, 1) := by decide +kernel
theorem dX0_foresee_83 : decode cX0_foresee 83 = .ok (.getfield 11, 3) := by decide +kernel
theorem dX0_foresee_86 : decode cX0_foresee 86 = .ok (.bipush 14, 2) := by decide +kernel
theorem dX0_foresee_88 : decode cX0_foresee 88 = .ok (.iaload, 1) := by decide +kernel
theorem dX0_foresee_89 : decode cX0_foresee 89 = .ok (.invokestatic 43, 3) := by decide +kernel
theorem dX0_foresee_92 : decode cX0_foresee 92 = .ok (.iadd, 1) := by decide +kernel
theorem dX0_foresee_93 : decode cX0_foresee 93 = .ok (.istore_n 2, 1) := by decide +kernel
theorem dX0_foresee_94 : decode cX0_foresee 94 = .ok (.aload_n 0, 1) := by decide +kernel
theorem dX0_foresee_95 : decode cX0_foresee 95 = .ok (.iload_n 1, 1) := by decide +kernel
theorem dX0_foresee_96 : decode cX0_foresee 96 = .ok (.iload_n 2, 1) := by decide +kernel
theorem dX0_foresee_97 : decode cX0_foresee 97 = .ok (.iadd, 1) := by decide +kernel
theorem dX0_foresee_98 : decode cX0_foresee 98 = .ok (.invokestatic 47, 3) := by decide +kernel
theorem dX0_foresee_101 : decode cX0_foresee 101 = .ok (.iconst 1, 1) := by decide +kernel
theorem dX0_foresee_102 : decode cX0_foresee 102 = .ok (.ishr, 1) := by decide +kernel
theorem dX0_foresee_103 : decode cX0_foresee 103 = .ok (.putfield 19, 3) := by decide +kernel
theorem dX0_foresee_106 : decode cX0_foresee 106 = .ok (.aload_n 0, 1) := by decide +kernel
theorem dX0_foresee_107 : decode cX0_foresee 107 = .ok (.aload_n 0, 1) := by decide +kernel
theorem dX0_foresee_108 : decode cX0_foresee 108 = .ok (.invokevirtual 50, 3) := by decide +kernel
theorem dX0_foresee_111 : decode cX0_foresee 111 = .ok (.putfield 25, 3) := by decide +kernel
theorem dX0_foresee_114 : decode cX0_foresee 114 = .ok (.return_, 1) := by decide +kernel
theorem dX0_stepNow_0 : decode cX0_stepNow 0 = .ok (.aload_n 0, 1) := by decide +kernel
theorem dX0_stepNow_1 : decode cX0_stepNow 1 = .ok (.getfield 11, 3) := by decide +kernel
theorem dX0_stepNow_4 : decode cX0_stepNow 4 = .ok (.iconst 4, 1) := by decide +kernel
theorem dX0_stepNow_5 : decode cX0_stepNow 5 = .ok (.iaload, 1) := by decide +kernel
theorem dX0_stepNow_6 : decode cX0_stepNow 6 = .ok (.sipush 256, 3) := by decide +kernel
theorem dX0_stepNow_9 : decode cX0_stepNow 9 = .ok (.if_icmp .lt 10, 3) := by decide +kernel
theorem dX0_stepNow_12 : decode cX0_stepNow 12 = .ok (.aload_n 0, 1) := by decide +kernel
theorem dX0_stepNow_13 : decode cX0_stepNow 13 = .ok (.getfield 11, 3) := by decide +kernel
theorem dX0_stepNow_16 : decode cX0_stepNow 16 = .ok (.iconst 1, 1) := by decide +kernel
theorem dX0_stepNow_17 : decode cX0_stepNow 17 = .ok (.iaload, 1) := by decide +kernel
theorem dX0_stepNow_18 : decode cX0_stepNow 18 = .ok (.ireturn, 1) := by decide +kernel
theorem dX0_stepNow_19 : decode cX0_stepNow 19 = .ok (.aload_n 0, 1) := by decide +kernel
theorem dX0_stepNow_20 : decode cX0_stepNow 20 = .ok (.getfield 11, 3) := by decide +kernel
theorem dX0_stepNow_23 : decode cX0_stepNow 23 = .ok (.iconst 0, 1) := by decide +kernel
theorem dX0_stepNow_24 : decode cX0_stepNow 24 = .ok (.iaload, 1) := by decide +kernel
theorem dX0_stepNow_25 : decode cX0_stepNow 25 = .ok (.bipush 6, 2) := by decide +kernel
theorem dX0_stepNow_27 : decode cX0_stepNow 27 = .ok (.ishr, 1) := by decide +kernel
theorem dX0_stepNow_28 : decode cX0_stepNow 28 = .ok (.istore_n 1, 1) := by decide +kernel
theorem dX0_stepNow_29 : decode cX0_stepNow 29 = .ok (.aload_n 0, 1) := by decide +kernel
theorem dX0_stepNow_30 : decode cX0_stepNow 30 = .ok (.getfield 11, 3) := by decide +kernel
theorem dX0_stepNow_33 : decode cX0_stepNow 33 = .ok (.iconst 1, 1) := by decide +kernel
theorem dX0_stepNow_34 : decode cX0_stepNow 34 = .ok (.iaload, 1) := by decide +kernel
theorem dX0_stepNow_35 : decode cX0_stepNow 35 = .ok (.iload_n 1, 1) := by decide +kernel
theorem dX0_stepNow_36 : decode cX0_stepNow 36 = .ok (.isub, 1) := by decide +kernel
theorem dX0_stepNow_37 : decode cX0_stepNow 37 = .ok (.istore_n 2, 1) := by decide +kernel
theorem dX0_stepNow_38 : decode cX0_stepNow 38 = .ok (.aload_n 0, 1) := by decide +kernel
theorem dX0_stepNow_39 : decode cX0_stepNow 39 = .ok (.getfield 11, 3) := by decide +kernel
theorem dX0_stepNow_42 : decode cX0_stepNow 42 = .ok (.iconst 4, 1) := by decide +kernel
theorem dX0_stepNow_43 : decode cX0_stepNow 43 = .ok (.iaload, 1) := by decide +kernel
theorem dX0_stepNow_44 : decode cX0_stepNow 44 = .ok (.iconst 2, 1) := by decide +kernel
theorem dX0_stepNow_45 : decode cX0_stepNow 45 = .ok (.ishr, 1) := by decide +kernel
theorem dX0_stepNow_46 : decode cX0_stepNow 46 = .ok (.istore_n 3, 1) := by decide +kernel
theorem dX0_stepNow_47 : decode cX0_stepNow 47 = .ok (.iload_n 2, 1) := by decide +kernel
theorem dX0_stepNow_48 : decode cX0_stepNow 48 = .ok (.ifCond .le 12, 3) := by decide +kernel
theorem dX0_stepNow_51 : decode cX0_stepNow 51 = .ok (.iload_n 1, 1) := by decide +kernel
theorem dX0_stepNow_52 : decode cX0_stepNow 52 = .ok (.iload_n 2, 1) := by decide +kernel
theorem dX0_stepNow_53 : decode cX0_stepNow 53 = .ok (.iload_n 3, 1) := by decide +kernel
theorem dX0_stepNow_54 : decode cX0_stepNow 54 = .ok (.imul, 1) := by decide +kernel
theorem dX0_stepNow_55 : decode cX0_stepNow 55 = .ok (.bipush 6, 2) := by decide +kernel
theorem dX0_stepNow_57 : decode cX0_stepNow 57 = .ok (.ishr, 1) := by decide +kernel
theorem dX0_stepNow_58 : decode cX0_stepNow 58 = .ok (.iadd, 1) := by decide +kernel
theorem dX0_stepNow_59 : decode cX0_stepNow 59 = .ok (.ireturn, 1) := by decide +kernel
theorem dX0_stepNow_60 : decode cX0_stepNow 60 = .ok (.iload_n 2, 1) := by decide +kernel
theorem dX0_stepNow_61 : decode cX0_stepNow 61 = .ok (.ifCond .ge 15, 3) := by decide +kernel
theorem dX0_stepNow_64 : decode cX0_stepNow 64 = .ok (.iload_n 1, 1) := by decide +kernel
theorem dX0_stepNow_65 : decode cX0_stepNow 65 = .ok (.iload_n 2, 1) := by decide +kernel
theorem dX0_stepNow_66 : decode cX0_stepNow 66 = .ok (.iload_n 3, 1) := by decide +kernel
theorem dX0_stepNow_67 : decode cX0_stepNow 67 = .ok (.imul, 1) := by decide +kernel
theorem dX0_stepNow_68 : decode cX0_stepNow 68 = .ok (.bipush 63, 2) := by decide +kernel
theorem dX0_stepNow_70 : decode cX0_stepNow 70 = .ok (.iadd, 1) := by decide +kernel
theorem dX0_stepNow_71 : decode cX0_stepNow 71 = .ok (.bipush 6, 2) := by decide +kernel
theorem dX0_stepNow_73 : decode cX0_stepNow 73 = .ok (.ishr, 1) := by decide +kernel
theorem dX0_stepNow_74 : decode cX0_stepNow 74 = .ok (.iadd, 1) := by decide +kernel
theorem dX0_stepNow_75 : decode cX0_stepNow 75 = .ok (.ireturn, 1) := by decide +kernel
theorem dX0_stepNow_76 : decode cX0_stepNow 76 = .ok (.iload_n 1, 1) := by decide +kernel
theorem dX0_stepNow_77 : decode cX0_stepNow 77 = .ok (.ireturn, 1) := by decide +kernel
theorem dX0_codeOf_0 : decode cX0_codeOf 0 = .ok (.iload_n 1, 1) := by decide +kernel
theorem dX0_codeOf_1 : decode cX0_codeOf 1 = .ok (.invokestatic 54, 3) := by decide +kernel
theorem dX0_codeOf_4 : decode cX0_codeOf 4 = .ok (.istore_n 2, 1) := by decide +kernel
theorem dX0_codeOf_5 : decode cX0_codeOf 5 = .ok (.iload_n 2, 1) := by decide +kernel
theorem dX0_codeOf_6 : decode cX0_codeOf 6 = .ok (.iconst 1, 1) := by decide +kernel
theorem dX0_codeOf_7 : decode cX0_codeOf 7 = .ok (.ishr, 1) := by decide +kernel
theorem dX0_codeOf_8 : decode cX0_codeOf 8 = .ok (.invokestatic 59, 3) := by decide +kernel
theorem dX0_codeOf_11 : decode cX0_codeOf 11 = .ok (.istore_n 3, 1) := by decide +kernel
theorem dX0_codeOf_12 : decode cX0_codeOf 12 = .ok (.sipush 128, 3) := by decide +kernel
theorem dX0_codeOf_15 : decode cX0_codeOf 15 = .ok (.iload_n 3, 1) := by decide +kernel
theorem dX0_codeOf_16 : decode cX0_codeOf 16 = .ok (.imul, 1) := by decide +kernel
theorem dX0_codeOf_17 : decode cX0_codeOf 17 = .ok (.sipush 128, 3) := by decide +kernel
theorem dX0_codeOf_20 : decode cX0_codeOf 20 = .ok (.iload_n 2, 1) := by decide +kernel
theorem dX0_codeOf_21 : decode cX0_codeOf 21 = .ok (.imul, 1) := by decide +kernel
theorem dX0_codeOf_22 : decode cX0_codeOf 22 = .ok (.iload_n 3, 1) := by decide +kernel
theorem dX0_codeOf_23 : decode cX0_codeOf 23 = .ok (.ishr, 1) := by decide +kernel
theorem dX0_codeOf_24 : decode cX0_codeOf 24 = .ok (.bipush 127, 2) := by decide +kernel
theorem dX0_codeOf_26 : decode cX0_codeOf 26 = .ok (.iand, 1) := by decide +kernel
theorem dX0_codeOf_27 : decode cX0_codeOf 27 = .ok (.iadd, 1) := by decide +kernel
theorem dX0_codeOf_28 : decode cX0_codeOf 28 = .ok (.aload_n 0, 1) := by decide +kernel
theorem dX0_codeOf_29 : decode cX0_codeOf 29 = .ok (.getfield 25, 3) := by decide +kernel
theorem dX0_codeOf_32 : decode cX0_codeOf 32 = .ok (.iconst 2, 1) := by decide +kernel
theorem dX0_codeOf_33 : decode cX0_codeOf 33 = .ok (.ishr, 1) := by decide +kernel
theorem dX0_codeOf_34 : decode cX0_codeOf 34 = .ok (.isub, 1) := by decide +kernel
theorem dX0_codeOf_35 : decode cX0_codeOf 35 = .ok (.istore 4, 2) := by decide +kernel
theorem dX0_codeOf_37 : decode cX0_codeOf 37 = .ok (.iconst 1, 1) := by decide +kernel
theorem dX0_codeOf_38 : decode cX0_codeOf 38 = .ok (.aload_n 0, 1) := by decide +kernel
theorem dX0_codeOf_39 : decode cX0_codeOf 39 = .ok (.getfield 15, 3) := by decide +kernel
theorem dX0_codeOf_42 : decode cX0_codeOf 42 = .ok (.iconst 1, 1) := by decide +kernel
theorem dX0_codeOf_43 : decode cX0_codeOf 43 = .ok (.isub, 1) := by decide +kernel
theorem dX0_codeOf_44 : decode cX0_codeOf 44 = .ok (.ishl, 1) := by decide +kernel
theorem dX0_codeOf_45 : decode cX0_codeOf 45 = .ok (.iconst 1, 1) := by decide +kernel
theorem dX0_codeOf_46 : decode cX0_codeOf 46 = .ok (.isub, 1) := by decide +kernel
theorem dX0_codeOf_47 : decode cX0_codeOf 47 = .ok (.istore 5, 2) := by decide +kernel
theorem dX0_codeOf_49 : decode cX0_codeOf 49 = .ok (.iconst 1, 1) := by decide +kernel
theorem dX0_codeOf_50 : decode cX0_codeOf 50 = .ok (.aload_n 0, 1) := by decide +kernel
theorem dX0_codeOf_51 : decode cX0_codeOf 51 = .ok (.getfield 15, 3) := by decide +kernel
theorem dX0_codeOf_54 : decode cX0_codeOf 54 = .ok (.iconst 1, 1) := by decide +kernel
theorem dX0_codeOf_55 : decode cX0_codeOf 55 = .ok (.isub, 1) := by decide +kernel
theorem dX0_codeOf_56 : decode cX0_codeOf 56 = .ok (.ishl, 1) := by decide +kernel
theorem dX0_codeOf_57 : decode cX0_codeOf 57 = .ok (.aload_n 0, 1) := by decide +kernel
theorem dX0_codeOf_58 : decode cX0_codeOf 58 = .ok (.getfield 15, 3) := by decide +kernel
theorem dX0_codeOf_61 : decode cX0_codeOf 61 = .ok (.isub, 1) := by decide +kernel
theorem dX0_codeOf_62 : decode cX0_codeOf 62 = .ok (.istore 6, 2) := by decide +kernel
theorem dX0_codeOf_64 : decode cX0_codeOf 64 = .ok (.iconst 0, 1) := by decide +kernel
theorem dX0_codeOf_65 : decode cX0_codeOf 65 = .ok (.istore 7, 2) := by decide +kernel
theorem dX0_codeOf_67 : decode cX0_codeOf 67 = .ok (.iload 7, 2) := by decide +kernel
theorem dX0_codeOf_69 : decode cX0_codeOf 69 = .ok (.iload 5, 2) := by decide +kernel
theorem dX0_codeOf_71 : decode cX0_codeOf 71 = .ok (.if_icmp .ge 23, 3) := by decide +kernel
theorem dX0_codeOf_74 : decode cX0_codeOf 74 = .ok (.iload 4, 2) := by decide +kernel
theorem dX0_codeOf_76 : decode cX0_codeOf 76 = .ok (.getstatic 62, 3) := by decide +kernel
theorem dX0_codeOf_79 : decode cX0_codeOf 79 = .ok (.iload 6, 2) := by decide +kernel
theorem dX0_codeOf_81 : decode cX0_codeOf 81 = .ok (.iload 7, 2) := by decide +kernel
theorem dX0_codeOf_83 : decode cX0_codeOf 83 = .ok (.iadd, 1) := by decide +kernel
theorem dX0_codeOf_84 : decode cX0_codeOf 84 = .ok (.iaload, 1) := by decide +kernel
theorem dX0_codeOf_85 : decode cX0_codeOf 85 = .ok (.if_icmp .lt 9, 3) := by decide +kernel
theorem dX0_codeOf_88 : decode cX0_codeOf 88 = .ok (.iinc 7 1, 3) := by decide +kernel
theorem dX0_codeOf_91 : decode cX0_codeOf 91 = .ok (.goto (-24), 3) := by decide +kernel
theorem dX0_codeOf_94 : decode cX0_codeOf 94 = .ok (.iload_n 1, 1) := by decide +kernel
theorem dX0_codeOf_95 : decode cX0_codeOf 95 = .ok (.ifCond .ge 13, 3) := by decide +kernel
theorem dX0_codeOf_98 : decode cX0_codeOf 98 = .ok (.iconst 2, 1) := by decide +kernel
theorem dX0_codeOf_99 : decode cX0_codeOf 99 = .ok (.iload 5, 2) := by decide +kernel
theorem dX0_codeOf_101 : decode cX0_codeOf 101 = .ok (.imul, 1) := by decide +kernel
theorem dX0_codeOf_102 : decode cX0_codeOf 102 = .ok (.iconst 1, 1) := by decide +kernel
theorem dX0_codeOf_103 : decode cX0_codeOf 103 = .ok (.iadd, 1) := by decide +kernel
theorem dX0_codeOf_104 : decode cX0_codeOf 104 = .ok (.iload 7, 2) := by decide +kernel
theorem dX0_codeOf_106 : decode cX0_codeOf 106 = .ok (.isub, 1) := by decide +kernel
theorem dX0_codeOf_107 : decode cX0_codeOf 107 = .ok (.ireturn, 1) := by decide +kernel
theorem dX0_codeOf_108 : decode cX0_codeOf 108 = .ok (.iload 7, 2) := by decide +kernel
theorem dX0_codeOf_110 : decode cX0_codeOf 110 = .ok (.ifCond .le 6, 3) := by decide +kernel
theorem dX0_codeOf_113 : decode cX0_codeOf 113 = .ok (.iload 7, 2) := by decide +kernel
theorem dX0_codeOf_115 : decode cX0_codeOf 115 = .ok (.ireturn, 1) := by decide +kernel
theorem dX0_codeOf_116 : decode cX0_codeOf 116 = .ok (.aload_n 0, 1) := by decide +kernel
theorem dX0_codeOf_117 : decode cX0_codeOf 117 = .ok (.getfield 15, 3) := by decide +kernel
theorem dX0_codeOf_120 : decode cX0_codeOf 120 = .ok (.iconst 2, 1) := by decide +kernel
theorem dX0_codeOf_121 : decode cX0_codeOf 121 = .ok (.if_icmp .ne 7, 3) := by decide +kernel
theorem dX0_codeOf_124 : decode cX0_codeOf 124 = .ok (.iconst 0, 1) := by decide +kernel
theorem dX0_codeOf_125 : decode cX0_codeOf 125 = .ok (.goto 9, 3) := by decide +kernel
theorem dX0_codeOf_128 : decode cX0_codeOf 128 = .ok (.iconst 2, 1) := by decide +kernel
theorem dX0_codeOf_129 : decode cX0_codeOf 129 = .ok (.iload 5, 2) := by decide +kernel
theorem dX0_codeOf_131 : decode cX0_codeOf 131 = .ok (.imul, 1) := by decide +kernel
theorem dX0_codeOf_132 : decode cX0_codeOf 132 = .ok (.iconst 1, 1) := by decide +kernel
theorem dX0_codeOf_133 : decode cX0_codeOf 133 = .ok (.iadd, 1) := by decide +kernel
theorem dX0_codeOf_134 : decode cX0_codeOf 134 = .ok (.ireturn, 1) := by decide +kernel
theorem dX0_settle_0 : decode cX0_settle 0 = .ok (.aload_n 0, 1) := by decide +kernel
theorem dX0_settle_1 : decode cX0_settle 1 = .ok (.iload_n 1, 1) := by decide +kernel
theorem dX0_settle_2 : decode cX0_settle 2 = .ok (.invokevirtual 65, 3) := by decide +kernel
theorem dX0_settle_5 : decode cX0_settle 5 = .ok (.istore_n 2, 1) := by decide +kernel
theorem dX0_settle_6 : decode cX0_settle 6 = .ok (.iload_n 1, 1) := by decide +kernel
theorem dX0_settle_7 : decode cX0_settle 7 = .ok (.iconst 1, 1) := by decide +kernel
theorem dX0_settle_8 : decode cX0_settle 8 = .ok (.aload_n 0, 1) := by decide +kernel
theorem dX0_settle_9 : decode cX0_settle 9 = .ok (.getfield 15, 3) := by decide +kernel
theorem dX0_settle_12 : decode cX0_settle 12 = .ok (.iconst 1, 1) := by decide +kernel
theorem dX0_settle_13 : decode cX0_settle 13 = .ok (.isub, 1) := by decide +kernel
theorem dX0_settle_14 : decode cX0_settle 14 = .ok (.ishl, 1) := by decide +kernel
theorem dX0_settle_15 : decode cX0_settle 15 = .ok (.if_icmp .lt 7, 3) := by decide +kernel
theorem dX0_settle_18 : decode cX0_settle 18 = .ok (.iconst 1, 1) := by decide +kernel
theorem dX0_settle_19 : decode cX0_settle 19 = .ok (.goto 4, 3) := by decide +kernel
theorem dX0_settle_22 : decode cX0_settle 22 = .ok (.iconst 0, 1) := by decide +kernel
theorem dX0_settle_23 : decode cX0_settle 23 = .ok (.istore_n 3, 1) := by decide +kernel
theorem dX0_settle_24 : decode cX0_settle 24 = .ok (.getstatic 68, 3) := by decide +kernel
theorem dX0_settle_27 : decode cX0_settle 27 = .ok (.iload_n 2, 1) := by decide +kernel
theorem dX0_settle_28 : decode cX0_settle 28 = .ok (.iaload, 1) := by decide +kernel
theorem dX0_settle_29 : decode cX0_settle 29 = .ok (.aload_n 0, 1) := by decide +kernel
theorem dX0_settle_30 : decode cX0_settle 30 = .ok (.getfield 25, 3) := by decide +kernel
theorem dX0_settle_33 : decode cX0_settle 33 = .ok (.iconst 2, 1) := by decide +kernel
theorem dX0_settle_34 : decode cX0_settle 34 = .ok (.ishr, 1) := by decide +kernel
theorem dX0_settle_35 : decode cX0_settle 35 = .ok (.iadd, 1) := by decide +kernel
theorem dX0_settle_36 : decode cX0_settle 36 = .ok (.invokestatic 71, 3) := by decide +kernel
theorem dX0_settle_39 : decode cX0_settle 39 = .ok (.istore 4, 2) := by decide +kernel
theorem dX0_settle_41 : decode cX0_settle 41 = .ok (.iload_n 3, 1) := by decide +kernel
theorem dX0_settle_42 : decode cX0_settle 42 = .ok (.ifCond .eq 13, 3) := by decide +kernel
theorem dX0_settle_45 : decode cX0_settle 45 = .ok (.aload_n 0, 1) := by decide +kernel
theorem dX0_settle_46 : decode cX0_settle 46 = .ok (.getfield 19, 3) := by decide +kernel
theorem dX0_settle_49 : decode cX0_settle 49 = .ok (.iload 4, 2) := by decide +kernel
theorem dX0_settle_51 : decode cX0_settle 51 = .ok (.isub, 1) := by decide +kernel
theorem dX0_settle_52 : decode cX0_settle 52 = .ok (.goto 10, 3) := by decide +kernel
theorem dX0_settle_55 : decode cX0_settle 55 = .ok (.aload_n 0, 1) := by decide +kernel
theorem dX0_settle_56 : decode cX0_settle 56 = .ok (.getfield 19, 3) := by decide +kernel
theorem dX0_settle_59 : decode cX0_settle 59 = .ok (.iload 4, 2) := by decide +kernel
theorem dX0_settle_61 : decode cX0_settle 61 = .ok (.iadd, 1) := by decide +kernel
theorem dX0_settle_62 : decode cX0_settle 62 = .ok (.invokestatic 47, 3) := by decide +kernel
theorem dX0_settle_65 : decode cX0_settle 65 = .ok (.istore 5, 2) := by decide +kernel
theorem dX0_settle_67 : decode cX0_settle 67 = .ok (.iload 5, 2) := by decide +kernel
theorem dX0_settle_69 : decode cX0_settle 69 = .ok (.aload_n 0, 1) := by decide +kernel
theorem dX0_settle_70 : decode cX0_settle 70 = .ok (.getfield 22, 3) := by decide +kernel
theorem dX0_settle_73 : decode cX0_settle 73 = .ok (.iadd, 1) := by decide +kernel
theorem dX0_settle_74 : decode cX0_settle 74 = .ok (.aload_n 0, 1) := by decide +kernel
theorem dX0_settle_75 : decode cX0_settle 75 = .ok (.getfield 19, 3) := by decide +kernel
theorem dX0_settle_78 : decode cX0_settle 78 = .ok (.isub, 1) := by decide +kernel
theorem dX0_settle_79 : decode cX0_settle 79 = .ok (.invokestatic 47, 3) := by decide +kernel
theorem dX0_settle_82 : decode cX0_settle 82 = .ok (.istore 6, 2) := by decide +kernel
theorem dX0_settle_84 : decode cX0_settle 84 = .ok (.aload_n 0, 1) := by decide +kernel
theorem dX0_settle_85 : decode cX0_settle 85 = .ok (.iload 4, 2) := by decide +kernel
theorem dX0_settle_87 : decode cX0_settle 87 = .ok (.invokevirtual 74, 3) := by decide +kernel
theorem dX0_settle_90 : decode cX0_settle 90 = .ok (.istore 7, 2) := by decide +kernel
theorem dX0_settle_92 : decode cX0_settle 92 = .ok (.aload_n 0, 1) := by decide +kernel
theorem dX0_settle_93 : decode cX0_settle 93 = .ok (.getstatic 78, 3) := by decide +kernel
theorem dX0_settle_96 : decode cX0_settle 96 = .ok (.iload_n 2, 1) := by decide +kernel
theorem dX0_settle_97 : decode cX0_settle 97 = .ok (.iaload, 1) := by decide +kernel
theorem dX0_settle_98 : decode cX0_settle 98 = .ok (.invokevirtual 81, 3) := by decide +kernel
theorem dX0_settle_101 : decode cX0_settle 101 = .ok (.iload 7, 2) := by decide +kernel
theorem dX0_settle_103 : decode cX0_settle 103 = .ok (.ifCond .eq 10, 3) := by decide +kernel
theorem dX0_settle_106 : decode cX0_settle 106 = .ok (.aload_n 0, 1) := by decide +kernel
theorem dX0_settle_107 : decode cX0_settle 107 = .ok (.invokevirtual 85, 3) := by decide +kernel
theorem dX0_settle_110 : decode cX0_settle 110 = .ok (.goto 22, 3) := by decide +kernel
theorem dX0_settle_113 : decode cX0_settle 113 = .ok (.aload_n 0, 1) := by decide +kernel
theorem dX0_settle_114 : decode cX0_settle 114 = .ok (.iload 6, 2) := by decide +kernel
theorem dX0_settle_116 : decode cX0_settle 116 = .ok (.invokevirtual 88, 3) := by decide +kernel
theorem dX0_settle_119 : decode cX0_settle 119 = .ok (.aload_n 0, 1) := by decide +kernel
theorem dX0_settle_120 : decode cX0_settle 120 = .ok (.iload 6, 2) := by decide +kernel
theorem dX0_settle_122 : decode cX0_settle 122 = .ok (.invokevirtual 91, 3) := by decide +kernel
theorem dX0_settle_125 : decode cX0_settle 125 = .ok (.aload_n 0, 1) := by decide +kernel
theorem dX0_settle_126 : decode cX0_settle 126 = .ok (.iload 4, 2) := by decide +kernel
theorem dX0_settle_128 : decode cX0_settle 128 = .ok (.iload_n 3, 1) := by decide +kernel
theorem dX0_settle_129 : decode cX0_settle 129 = .ok (.invokevirtual 94, 3) := by decide +kernel
theorem dX0_settle_132 : decode cX0_settle 132 = .ok (.aload_n 0, 1) := by decide +kernel
theorem dX0_settle_133 : decode cX0_settle 133 = .ok (.iload 4, 2) := by decide +kernel
theorem dX0_settle_135 : decode cX0_settle 135 = .ok (.iload_n 3, 1) := by decide +kernel
theorem dX0_settle_136 : decode cX0_settle 136 = .ok (.invokestatic 98, 3) := by decide +kernel
theorem dX0_settle_139 : decode cX0_settle 139 = .ok (.iload 5, 2) := by decide +kernel
theorem dX0_settle_141 : decode cX0_settle 141 = .ok (.invokestatic 54, 3) := by decide +kernel
theorem dX0_settle_144 : decode cX0_settle 144 = .ok (.iload 5, 2) := by decide +kernel
theorem dX0_settle_146 : decode cX0_settle 146 = .ok (.ifCond .ge 7, 3) := by decide +kernel
theorem dX0_settle_149 : decode cX0_settle 149 = .ok (.iconst 1, 1) := by decide +kernel
theorem dX0_settle_150 : decode cX0_settle 150 = .ok (.goto 4, 3) := by decide +kernel
theorem dX0_settle_153 : decode cX0_settle 153 = .ok (.iconst 0, 1) := by decide +kernel
theorem dX0_settle_154 : decode cX0_settle 154 = .ok (.invokestatic 98, 3) := by decide +kernel
theorem dX0_settle_157 : decode cX0_settle 157 = .ok (.iload 6, 2) := by decide +kernel
theorem dX0_settle_159 : decode cX0_settle 159 = .ok (.invokestatic 102, 3) := by decide +kernel
theorem dX0_settle_162 : decode cX0_settle 162 = .ok (.invokevirtual 105, 3) := by decide +kernel
theorem dX0_settle_165 : decode cX0_settle 165 = .ok (.aload_n 0, 1) := by decide +kernel
theorem dX0_settle_166 : decode cX0_settle 166 = .ok (.getfield 11, 3) := by decide +kernel
theorem dX0_settle_169 : decode cX0_settle 169 = .ok (.iconst 5, 1) := by decide +kernel
theorem dX0_settle_170 : decode cX0_settle 170 = .ok (.iload 7, 2) := by decide +kernel
theorem dX0_settle_172 : decode cX0_settle 172 = .ok (.ifCond .ne 20, 3) := by decide +kernel
theorem dX0_settle_175 : decode cX0_settle 175 = .ok (.aload_n 0, 1) := by decide +kernel
theorem dX0_settle_176 : decode cX0_settle 176 = .ok (.getfield 11, 3) := by decide +kernel
theorem dX0_settle_179 : decode cX0_settle 179 = .ok (.bipush 7, 2) := by decide +kernel
theorem dX0_settle_181 : decode cX0_settle 181 = .ok (.iaload, 1) := by decide +kernel
theorem dX0_settle_182 : decode cX0_settle 182 = .ok (.sipush (-11776), 3) := by decide +kernel
theorem dX0_settle_185 : decode cX0_settle 185 = .ok (.if_icmp .ge 7, 3) := by decide +kernel
theorem dX0_settle_188 : decode cX0_settle 188 = .ok (.iconst 1, 1) := by decide +kernel
theorem dX0_settle_189 : decode cX0_settle 189 = .ok (.goto 4, 3) := by decide +kernel
theorem dX0_settle_192 : decode cX0_settle 192 = .ok (.iconst 0, 1) := by decide +kernel
theorem dX0_settle_193 : decode cX0_settle 193 = .ok (.iastore, 1) := by decide +kernel
theorem dX0_settle_194 : decode cX0_settle 194 = .ok (.aload_n 0, 1) := by decide +kernel
theorem dX0_settle_195 : decode cX0_settle 195 = .ok (.getstatic 109, 3) := by decide +kernel
theorem dX0_settle_198 : decode cX0_settle 198 = .ok (.iload_n 2, 1) := by decide +kernel
theorem dX0_settle_199 : decode cX0_settle 199 = .ok (.iaload, 1) := by decide +kernel
theorem dX0_settle_200 : decode cX0_settle 200 = .ok (.iload 7, 2) := by decide +kernel
theorem dX0_settle_202 : decode cX0_settle 202 = .ok (.invokevirtual 112, 3) := by decide +kernel
theorem dX0_settle_205 : decode cX0_settle 205 = .ok (.iload 5, 2) := by decide +kernel
theorem dX0_settle_207 : decode cX0_settle 207 = .ok (.ireturn, 1) := by decide +kernel
theorem dX0_tablePlace_0 : decode cX0_tablePlace 0 = .ok (.iconst 1, 1) := by decide +kernel
theorem dX0_tablePlace_1 : decode cX0_tablePlace 1 = .ok (.aload_n 0, 1) := by decide +kernel
theorem dX0_tablePlace_2 : decode cX0_tablePlace 2 = .ok (.getfield 15, 3) := by decide +kernel
theorem dX0_tablePlace_5 : decode cX0_tablePlace 5 = .ok (.iconst 1, 1) := by decide +kernel
theorem dX0_tablePlace_6 : decode cX0_tablePlace 6 = .ok (.isub, 1) := by decide +kernel
theorem dX0_tablePlace_7 : decode cX0_tablePlace 7 = .ok (.ishl, 1) := by decide +kernel
theorem dX0_tablePlace_8 : decode cX0_tablePlace 8 = .ok (.istore_n 2, 1) := by decide +kernel
theorem dX0_tablePlace_9 : decode cX0_tablePlace 9 = .ok (.iconst 2, 1) := by decide +kernel
theorem dX0_tablePlace_10 : decode cX0_tablePlace 10 = .ok (.iload_n 2, 1) := by decide +kernel
theorem dX0_tablePlace_11 : decode cX0_tablePlace 11 = .ok (.imul, 1) := by decide +kernel
theorem dX0_tablePlace_12 : decode cX0_tablePlace 12 = .ok (.iconst 1, 1) := by decide +kernel
theorem dX0_tablePlace_13 : decode cX0_tablePlace 13 = .ok (.isub, 1) := by decide +kernel
theorem dX0_tablePlace_14 : decode cX0_tablePlace 14 = .ok (.istore_n 3, 1) := by decide +kernel
theorem dX0_tablePlace_15 : decode cX0_tablePlace 15 = .ok (.iload_n 1, 1) := by decide +kernel
theorem dX0_tablePlace_16 : decode cX0_tablePlace 16 = .ok (.iload_n 2, 1) := by decide +kernel
theorem dX0_tablePlace_17 : decode cX0_tablePlace 17 = .ok (.if_icmp .ge 7, 3) := by decide +kernel
theorem dX0_tablePlace_20 : decode cX0_tablePlace 20 = .ok (.iload_n 1, 1) := by decide +kernel
theorem dX0_tablePlace_21 : decode cX0_tablePlace 21 = .ok (.goto 6, 3) := by decide +kernel
theorem dX0_tablePlace_24 : decode cX0_tablePlace 24 = .ok (.iload_n 3, 1) := by decide +kernel
theorem dX0_tablePlace_25 : decode cX0_tablePlace 25 = .ok (.iload_n 1, 1) := by decide +kernel
theorem dX0_tablePlace_26 : decode cX0_tablePlace 26 = .ok (.isub, 1) := by decide +kernel
theorem dX0_tablePlace_27 : decode cX0_tablePlace 27 = .ok (.istore 4, 2) := by decide +kernel
theorem dX0_tablePlace_29 : decode cX0_tablePlace 29 = .ok (.iload_n 2, 1) := by decide +kernel
theorem dX0_tablePlace_30 : decode cX0_tablePlace 30 = .ok (.iconst 2, 1) := by decide +kernel
theorem dX0_tablePlace_31 : decode cX0_tablePlace 31 = .ok (.isub, 1) := by decide +kernel
theorem dX0_tablePlace_32 : decode cX0_tablePlace 32 = .ok (.iload 4, 2) := by decide +kernel
theorem dX0_tablePlace_34 : decode cX0_tablePlace 34 = .ok (.iconst 0, 1) := by decide +kernel
theorem dX0_tablePlace_35 : decode cX0_tablePlace 35 = .ok (.iload_n 2, 1) := by decide +kernel
theorem dX0_tablePlace_36 : decode cX0_tablePlace 36 = .ok (.iconst 1, 1) := by decide +kernel
theorem dX0_tablePlace_37 : decode cX0_tablePlace 37 = .ok (.isub, 1) := by decide +kernel
theorem dX0_tablePlace_38 : decode cX0_tablePlace 38 = .ok (.invokestatic 115, 3) := by decide +kernel
theorem dX0_tablePlace_41 : decode cX0_tablePlace 41 = .ok (.iadd, 1) := by decide +kernel
theorem dX0_tablePlace_42 : decode cX0_tablePlace 42 = .ok (.ireturn, 1) := by decide +kernel
theorem dX0_amount_0 : decode cX0_amount 0 = .ok (.iload_n 0, 1) := by decide +kernel
theorem dX0_amount_1 : decode cX0_amount 1 = .ok (.ifCond .ge 5, 3) := by decide +kernel
theorem dX0_amount_4 : decode cX0_amount 4 = .ok (.iconst 0, 1) := by decide +kernel
theorem dX0_amount_5 : decode cX0_amount 5 = .ok (.ireturn, 1) := by decide +kernel
theorem dX0_amount_6 : decode cX0_amount 6 = .ok (.sipush 128, 3) := by decide +kernel
theorem dX0_amount_9 : decode cX0_amount 9 = .ok (.iload_n 0, 1) := by decide +kernel
theorem dX0_amount_10 : decode cX0_amount 10 = .ok (.bipush 127, 2) := by decide +kernel
theorem dX0_amount_12 : decode cX0_amount 12 = .ok (.iand, 1) := by decide +kernel
theorem dX0_amount_13 : decode cX0_amount 13 = .ok (.iadd, 1) := by decide +kernel
theorem dX0_amount_14 : decode cX0_amount 14 = .ok (.sipush 128, 3) := by decide +kernel
theorem dX0_amount_17 : decode cX0_amount 17 = .ok (.imul, 1) := by decide +kernel
theorem dX0_amount_18 : decode cX0_amount 18 = .ok (.bipush 14, 2) := by decide +kernel
theorem dX0_amount_20 : decode cX0_amount 20 = .ok (.iload_n 0, 1) := by decide +kernel
theorem dX0_amount_21 : decode cX0_amount 21 = .ok (.bipush 7, 2) := by decide +kernel
theorem dX0_amount_23 : decode cX0_amount 23 = .ok (.ishr, 1) := by decide +kernel
theorem dX0_amount_24 : decode cX0_amount 24 = .ok (.bipush 15, 2) := by decide +kernel
theorem dX0_amount_26 : decode cX0_amount 26 = .ok (.iand, 1) := by decide +kernel
theorem dX0_amount_27 : decode cX0_amount 27 = .ok (.isub, 1) := by decide +kernel
theorem dX0_amount_28 : decode cX0_amount 28 = .ok (.ishr, 1) := by decide +kernel
theorem dX0_amount_29 : decode cX0_amount 29 = .ok (.ireturn, 1) := by decide +kernel
theorem dX0_isTransition_0 : decode cX0_isTransition 0 = .ok (.aload_n 0, 1) := by decide +kernel
theorem dX0_isTransition_1 : decode cX0_isTransition 1 = .ok (.getfield 11, 3) := by decide +kernel
theorem dX0_isTransition_4 : decode cX0_isTransition 4 = .ok (.iconst 5, 1) := by decide +kernel
theorem dX0_isTransition_5 : decode cX0_isTransition 5 = .ok (.iaload, 1) := by decide +kernel
theorem dX0_isTransition_6 : decode cX0_isTransition 6 = .ok (.ifCond .ne 5, 3) := by decide +kernel
theorem dX0_isTransition_9 : decode cX0_isTransition 9 = .ok (.iconst 0, 1) := by decide +kernel
theorem dX0_isTransition_10 : decode cX0_isTransition 10 = .ok (.ireturn, 1) := by decide +kernel
theorem dX0_isTransition_11 : decode cX0_isTransition 11 = .ok (.aload_n 0, 1) := by decide +kernel
theorem dX0_isTransition_12 : decode cX0_isTransition 12 = .ok (.getfield 11, 3) := by decide +kernel
theorem dX0_isTransition_15 : decode cX0_isTransition 15 = .ok (.iconst 0, 1) := by decide +kernel
theorem dX0_isTransition_16 : decode cX0_isTransition 16 = .ok (.iaload, 1) := by decide +kernel
theorem dX0_isTransition_17 : decode cX0_isTransition 17 = .ok (.bipush 15, 2) := by decide +kernel
theorem dX0_isTransition_19 : decode cX0_isTransition 19 = .ok (.ishr, 1) := by decide +kernel
theorem dX0_isTransition_20 : decode cX0_isTransition 20 = .ok (.istore_n 2, 1) := by decide +kernel
theorem dX0_isTransition_21 : decode cX0_isTransition 21 = .ok (.iload_n 2, 1) := by decide +kernel
theorem dX0_isTransition_22 : decode cX0_isTransition 22 = .ok (.bipush 9, 2) := by decide +kernel
theorem dX0_isTransition_24 : decode cX0_isTransition 24 = .ok (.if_icmp .le 9, 3) := by decide +kernel
theorem dX0_isTransition_27 : decode cX0_isTransition 27 = .ok (.sipush 31744, 3) := by decide +kernel
theorem dX0_isTransition_30 : decode cX0_isTransition 30 = .ok (.goto 20, 3) := by decide +kernel
theorem dX0_isTransition_33 : decode cX0_isTransition 33 = .ok (.bipush 32, 2) := by decide +kernel
theorem dX0_isTransition_35 : decode cX0_isTransition 35 = .ok (.aload_n 0, 1) := by decide +kernel
theorem dX0_isTransition_36 : decode cX0_isTransition 36 = .ok (.getfield 11, 3) := by decide +kernel
theorem dX0_isTransition_39 : decode cX0_isTransition 39 = .ok (.iconst 0, 1) := by decide +kernel
theorem dX0_isTransition_40 : decode cX0_isTransition 40 = .ok (.iaload, 1) := by decide +kernel
theorem dX0_isTransition_41 : decode cX0_isTransition 41 = .ok (.bipush 10, 2) := by decide +kernel
theorem dX0_isTransition_43 : decode cX0_isTransition 43 = .ok (.ishr, 1) := by decide +kernel
theorem dX0_isTransition_44 : decode cX0_isTransition 44 = .ok (.bipush 31, 2) := by decide +kernel
theorem dX0_isTransition_46 : decode cX0_isTransition 46 = .ok (.iand, 1) := by decide +kernel
theorem dX0_isTransition_47 : decode cX0_isTransition 47 = .ok (.iadd, 1) := by decide +kernel
theorem dX0_isTransition_48 : decode cX0_isTransition 48 = .ok (.iload_n 2, 1) := by decide +kernel
theorem dX0_isTransition_49 : decode cX0_isTransition 49 = .ok (.ishl, 1) := by decide +kernel
theorem dX0_isTransition_50 : decode cX0_isTransition 50 = .ok (.istore_n 3, 1) := by decide +kernel
theorem dX0_isTransition_51 : decode cX0_isTransition 51 = .ok (.iload_n 1, 1) := by decide +kernel
theorem dX0_isTransition_52 : decode cX0_isTransition 52 = .ok (.iload_n 3, 1) := by decide +kernel
theorem dX0_isTransition_53 : decode cX0_isTransition 53 = .ok (.iload_n 3, 1) := by decide +kernel
theorem dX0_isTransition_54 : decode cX0_isTransition 54 = .ok (.iconst 1, 1) := by decide +kernel
theorem dX0_isTransition_55 : decode cX0_isTransition 55 = .ok (.ishr, 1) := by decide +kernel
theorem dX0_isTransition_56 : decode cX0_isTransition 56 = .ok (.iadd, 1) := by decide +kernel
theorem dX0_isTransition_57 : decode cX0_isTransition 57 = .ok (.iconst 1, 1) := by decide +kernel
theorem dX0_isTransition_58 : decode cX0_isTransition 58 = .ok (.ishr, 1) := by decide +kernel
theorem dX0_isTransition_59 : decode cX0_isTransition 59 = .ok (.if_icmp .le 7, 3) := by decide +kernel
theorem dX0_isTransition_62 : decode cX0_isTransition 62 = .ok (.iconst 1, 1) := by decide +kernel
theorem dX0_isTransition_63 : decode cX0_isTransition 63 = .ok (.goto 4, 3) := by decide +kernel
theorem dX0_isTransition_66 : decode cX0_isTransition 66 = .ok (.iconst 0, 1) := by decide +kernel
theorem dX0_isTransition_67 : decode cX0_isTransition 67 = .ok (.ireturn, 1) := by decide +kernel
theorem dX0_adaptStep_0 : decode cX0_adaptStep 0 = .ok (.aload_n 0, 1) := by decide +kernel
theorem dX0_adaptStep_1 : decode cX0_adaptStep 1 = .ok (.getfield 11, 3) := by decide +kernel
theorem dX0_adaptStep_4 : decode cX0_adaptStep 4 = .ok (.iconst 1, 1) := by decide +kernel
theorem dX0_adaptStep_5 : decode cX0_adaptStep 5 = .ok (.aload_n 0, 1) := by decide +kernel
theorem dX0_adaptStep_6 : decode cX0_adaptStep 6 = .ok (.getfield 25, 3) := by decide +kernel
theorem dX0_adaptStep_9 : decode cX0_adaptStep 9 = .ok (.iload_n 1, 1) := by decide +kernel
theorem dX0_adaptStep_10 : decode cX0_adaptStep 10 = .ok (.aload_n 0, 1) := by decide +kernel
theorem dX0_adaptStep_11 : decode cX0_adaptStep 11 = .ok (.getfield 25, 3) := by decide +kernel
theorem dX0_adaptStep_14 : decode cX0_adaptStep 14 = .ok (.isub, 1) := by decide +kernel
theorem dX0_adaptStep_15 : decode cX0_adaptStep 15 = .ok (.iconst 5, 1) := by decide +kernel
theorem dX0_adaptStep_16 : decode cX0_adaptStep 16 = .ok (.ishr, 1) := by decide +kernel
theorem dX0_adaptStep_17 : decode cX0_adaptStep 17 = .ok (.iadd, 1) := by decide +kernel
theorem dX0_adaptStep_18 : decode cX0_adaptStep 18 = .ok (.sipush 544, 3) := by decide +kernel
theorem dX0_adaptStep_21 : decode cX0_adaptStep 21 = .ok (.sipush 5120, 3) := by decide +kernel
theorem dX0_adaptStep_24 : decode cX0_adaptStep 24 = .ok (.invokestatic 115, 3) := by decide +kernel
theorem dX0_adaptStep_27 : decode cX0_adaptStep 27 = .ok (.iastore, 1) := by decide +kernel
theorem dX0_adaptStep_28 : decode cX0_adaptStep 28 = .ok (.aload_n 0, 1) := by decide +kernel
theorem dX0_adaptStep_29 : decode cX0_adaptStep 29 = .ok (.getfield 11, 3) := by decide +kernel
theorem dX0_adaptStep_32 : decode cX0_adaptStep 32 = .ok (.iconst 0, 1) := by decide +kernel
theorem dX0_adaptStep_33 : decode cX0_adaptStep 33 = .ok (.dup2, 1) := by decide +kernel
theorem dX0_adaptStep_34 : decode cX0_adaptStep 34 = .ok (.iaload, 1) := by decide +kernel
theorem dX0_adaptStep_35 : decode cX0_adaptStep 35 = .ok (.aload_n 0, 1) := by decide +kernel
theorem dX0_adaptStep_36 : decode cX0_adaptStep 36 = .ok (.getfield 11, 3) := by decide +kernel
theorem dX0_adaptStep_39 : decode cX0_adaptStep 39 = .ok (.iconst 1, 1) := by decide +kernel
theorem dX0_adaptStep_40 : decode cX0_adaptStep 40 = .ok (.iaload, 1) := by decide +kernel
theorem dX0_adaptStep_41 : decode cX0_adaptStep 41 = .ok (.aload_n 0, 1) := by decide +kernel
theorem dX0_adaptStep_42 : decode cX0_adaptStep 42 = .ok (.getfield 11, 3) := by decide +kernel
theorem dX0_adaptStep_45 : decode cX0_adaptStep 45 = .ok (.iconst 0, 1) := by decide +kernel
theorem dX0_adaptStep_46 : decode cX0_adaptStep 46 = .ok (.iaload, 1) := by decide +kernel
theorem dX0_adaptStep_47 : decode cX0_adaptStep 47 = .ok (.ineg, 1) := by decide +kernel
theorem dX0_adaptStep_48 : decode cX0_adaptStep 48 = .ok (.bipush 6, 2) := by decide +kernel
theorem dX0_adaptStep_50 : decode cX0_adaptStep 50 = .ok (.ishr, 1) := by decide +kernel
theorem dX0_adaptStep_51 : decode cX0_adaptStep 51 = .ok (.iadd, 1) := by decide +kernel
theorem dX0_adaptStep_52 : decode cX0_adaptStep 52 = .ok (.iadd, 1) := by decide +kernel
theorem dX0_adaptStep_53 : decode cX0_adaptStep 53 = .ok (.iastore, 1) := by decide +kernel
theorem dX0_adaptStep_54 : decode cX0_adaptStep 54 = .ok (.return_, 1) := by decide +kernel
theorem dX0_forgetFilters_0 : decode cX0_forgetFilters 0 = .ok (.aload_n 0, 1) := by decide +kernel
theorem dX0_forgetFilters_1 : decode cX0_forgetFilters 1 = .ok (.getfield 11, 3) := by decide +kernel
theorem dX0_forgetFilters_4 : decode cX0_forgetFilters 4 = .ok (.bipush 6, 2) := by decide +kernel
theorem dX0_forgetFilters_6 : decode cX0_forgetFilters 6 = .ok (.iconst 0, 1) := by decide +kernel
theorem dX0_forgetFilters_7 : decode cX0_forgetFilters 7 = .ok (.iastore, 1) := by decide +kernel
theorem dX0_forgetFilters_8 : decode cX0_forgetFilters 8 = .ok (.aload_n 0, 1) := by decide +kernel
theorem dX0_forgetFilters_9 : decode cX0_forgetFilters 9 = .ok (.getfield 11, 3) := by decide +kernel
theorem dX0_forgetFilters_12 : decode cX0_forgetFilters 12 = .ok (.bipush 7, 2) := by decide +kernel
theorem dX0_forgetFilters_14 : decode cX0_forgetFilters 14 = .ok (.iconst 0, 1) := by decide +kernel
theorem dX0_forgetFilters_15 : decode cX0_forgetFilters 15 = .ok (.iastore, 1) := by decide +kernel
theorem dX0_forgetFilters_16 : decode cX0_forgetFilters 16 = .ok (.iconst 0, 1) := by decide +kernel
theorem dX0_forgetFilters_17 : decode cX0_forgetFilters 17 = .ok (.istore_n 1, 1) := by decide +kernel
theorem dX0_forgetFilters_18 : decode cX0_forgetFilters 18 = .ok (.iload_n 1, 1) := by decide +kernel
theorem dX0_forgetFilters_19 : decode cX0_forgetFilters 19 = .ok (.bipush 6, 2) := by decide +kernel
theorem dX0_forgetFilters_21 : decode cX0_forgetFilters 21 = .ok (.if_icmp .ge 19, 3) := by decide +kernel
theorem dX0_forgetFilters_24 : decode cX0_forgetFilters 24 = .ok (.aload_n 0, 1) := by decide +kernel
theorem dX0_forgetFilters_25 : decode cX0_forgetFilters 25 = .ok (.getfield 11, 3) := by decide +kernel
theorem dX0_forgetFilters_28 : decode cX0_forgetFilters 28 = .ok (.bipush 8, 2) := by decide +kernel
theorem dX0_forgetFilters_30 : decode cX0_forgetFilters 30 = .ok (.iload_n 1, 1) := by decide +kernel
theorem dX0_forgetFilters_31 : decode cX0_forgetFilters 31 = .ok (.iadd, 1) := by decide +kernel
theorem dX0_forgetFilters_32 : decode cX0_forgetFilters 32 = .ok (.iconst 0, 1) := by decide +kernel
theorem dX0_forgetFilters_33 : decode cX0_forgetFilters 33 = .ok (.iastore, 1) := by decide +kernel
theorem dX0_forgetFilters_34 : decode cX0_forgetFilters 34 = .ok (.iinc 1 1, 3) := by decide +kernel
theorem dX0_forgetFilters_37 : decode cX0_forgetFilters 37 = .ok (.goto (-19), 3) := by decide +kernel
theorem dX0_forgetFilters_40 : decode cX0_forgetFilters 40 = .ok (.return_, 1) := by decide +kernel
theorem dX0_adaptA2_0 : decode cX0_adaptA2 0 = .ok (.aload_n 0, 1) := by decide +kernel
theorem dX0_adaptA2_1 : decode cX0_adaptA2 1 = .ok (.getfield 11, 3) := by decide +kernel
theorem dX0_adaptA2_4 : decode cX0_adaptA2 4 = .ok (.bipush 7, 2) := by decide +kernel
theorem dX0_adaptA2_6 : decode cX0_adaptA2 6 = .ok (.iaload, 1) := by decide +kernel
theorem dX0_adaptA2_7 : decode cX0_adaptA2 7 = .ok (.aload_n 0, 1) := by decide +kernel
theorem dX0_adaptA2_8 : decode cX0_adaptA2 8 = .ok (.getfield 11, 3) := by decide +kernel
theorem dX0_adaptA2_11 : decode cX0_adaptA2 11 = .ok (.bipush 7, 2) := by decide +kernel
theorem dX0_adaptA2_13 : decode cX0_adaptA2 13 = .ok (.iaload, 1) := by decide +kernel
theorem dX0_adaptA2_14 : decode cX0_adaptA2 14 = .ok (.bipush 7, 2) := by decide +kernel
theorem dX0_adaptA2_16 : decode cX0_adaptA2 16 = .ok (.ishr, 1) := by decide +kernel
theorem dX0_adaptA2_17 : decode cX0_adaptA2 17 = .ok (.isub, 1) := by decide +kernel
theorem dX0_adaptA2_18 : decode cX0_adaptA2 18 = .ok (.istore_n 2, 1) := by decide +kernel
theorem dX0_adaptA2_19 : decode cX0_adaptA2 19 = .ok (.iload_n 1, 1) := by decide +kernel
theorem dX0_adaptA2_20 : decode cX0_adaptA2 20 = .ok (.ifCond .eq 104, 3) := by decide +kernel
theorem dX0_adaptA2_23 : decode cX0_adaptA2 23 = .ok (.iload_n 1, 1) := by decide +kernel
theorem dX0_adaptA2_24 : decode cX0_adaptA2 24 = .ok (.invokestatic 102, 3) := by decide +kernel
theorem dX0_adaptA2_27 : decode cX0_adaptA2 27 = .ok (.istore_n 3, 1) := by decide +kernel
theorem dX0_adaptA2_28 : decode cX0_adaptA2 28 = .ok (.iload_n 3, 1) := by decide +kernel
theorem dX0_adaptA2_29 : decode cX0_adaptA2 29 = .ok (.aload_n 0, 1) := by decide +kernel
theorem dX0_adaptA2_30 : decode cX0_adaptA2 30 = .ok (.getfield 11, 3) := by decide +kernel
theorem dX0_adaptA2_33 : decode cX0_adaptA2 33 = .ok (.bipush 22, 2) := by decide +kernel
theorem dX0_adaptA2_35 : decode cX0_adaptA2 35 = .ok (.iaload, 1) := by decide +kernel
theorem dX0_adaptA2_36 : decode cX0_adaptA2 36 = .ok (.if_icmp .eq 13, 3) := by decide +kernel
theorem dX0_adaptA2_39 : decode cX0_adaptA2 39 = .ok (.aload_n 0, 1) := by decide +kernel
theorem dX0_adaptA2_40 : decode cX0_adaptA2 40 = .ok (.getfield 11, 3) := by decide +kernel
theorem dX0_adaptA2_43 : decode cX0_adaptA2 43 = .ok (.bipush 6, 2) := by decide +kernel
theorem dX0_adaptA2_45 : decode cX0_adaptA2 45 = .ok (.iaload, 1) := by decide +kernel
theorem dX0_adaptA2_46 : decode cX0_adaptA2 46 = .ok (.goto 11, 3) := by decide +kernel
theorem dX0_adaptA2_49 : decode cX0_adaptA2 49 = .ok (.aload_n 0, 1) := by decide +kernel
theorem dX0_adaptA2_50 : decode cX0_adaptA2 50 = .ok (.getfield 11, 3) := by decide +kernel
theorem dX0_adaptA2_53 : decode cX0_adaptA2 53 = .ok (.bipush 6, 2) := by decide +kernel
theorem dX0_adaptA2_55 : decode cX0_adaptA2 55 = .ok (.iaload, 1) := by decide +kernel
theorem dX0_adaptA2_56 : decode cX0_adaptA2 56 = .ok (.ineg, 1) := by decide +kernel
theorem dX0_adaptA2_57 : decode cX0_adaptA2 57 = .ok (.istore 4, 2) := by decide +kernel
theorem dX0_adaptA2_59 : decode cX0_adaptA2 59 = .ok (.iload 4, 2) := by decide +kernel
theorem dX0_adaptA2_61 : decode cX0_adaptA2 61 = .ok (.sipush (-8191), 3) := by decide +kernel
theorem dX0_adaptA2_64 : decode cX0_adaptA2 64 = .ok (.if_icmp .ge 12, 3) := by decide +kernel
theorem dX0_adaptA2_67 : decode cX0_adaptA2 67 = .ok (.iinc 2 (-256), 6) := by decide +kernel
theorem dX0_adaptA2_73 : decode cX0_adaptA2 73 = .ok (.goto 27, 3) := by decide +kernel
theorem dX0_adaptA2_76 : decode cX0_adaptA2 76 = .ok (.iload 4, 2) := by decide +kernel
theorem dX0_adaptA2_78 : decode cX0_adaptA2 78 = .ok (.sipush 8191, 3) := by decide +kernel
theorem dX0_adaptA2_81 : decode cX0_adaptA2 81 = .ok (.if_icmp .le 12, 3) := by decide +kernel
theorem dX0_adaptA2_84 : decode cX0_adaptA2 84 = .ok (.iinc 2 255, 6) := by decide +kernel
theorem dX0_adaptA2_90 : decode cX0_adaptA2 90 = .ok (.goto 10, 3) := by decide +kernel
theorem dX0_adaptA2_93 : decode cX0_adaptA2 93 = .ok (.iload_n 2, 1) := by decide +kernel
theorem dX0_adaptA2_94 : decode cX0_adaptA2 94 = .ok (.iload 4, 2) := by decide +kernel
theorem dX0_adaptA2_96 : decode cX0_adaptA2 96 = .ok (.iconst 5, 1) := by decide +kernel
theorem dX0_adaptA2_97 : decode cX0_adaptA2 97 = .ok (.ishr, 1) := by decide +kernel
theorem dX0_adaptA2_98 : decode cX0_adaptA2 98 = .ok (.iadd, 1) := by decide +kernel
theorem dX0_adaptA2_99 : decode cX0_adaptA2 99 = .ok (.istore_n 2, 1) := by decide +kernel
theorem dX0_adaptA2_100 : decode cX0_adaptA2 100 = .ok (.iload_n 2, 1) := by decide +kernel
theorem dX0_adaptA2_101 : decode cX0_adaptA2 101 = .ok (.iload_n 3, 1) := by decide +kernel
theorem dX0_adaptA2_102 : decode cX0_adaptA2 102 = .ok (.aload_n 0, 1) := by decide +kernel
theorem dX0_adaptA2_103 : decode cX0_adaptA2 103 = .ok (.getfield 11, 3) := by decide +kernel
theorem dX0_adaptA2_106 : decode cX0_adaptA2 106 = .ok (.bipush 23, 2) := by decide +kernel
theorem dX0_adaptA2_108 : decode cX0_adaptA2 108 = .ok (.iaload, 1) := by decide +kernel
theorem dX0_adaptA2_109 : decode cX0_adaptA2 109 = .ok (.if_icmp .eq 8, 3) := by decide +kernel
theorem dX0_adaptA2_112 : decode cX0_adaptA2 112 = .ok (.bipush (-128), 2) := by decide +kernel
theorem dX0_adaptA2_114 : decode cX0_adaptA2 114 = .ok (.goto 6, 3) := by decide +kernel
theorem dX0_adaptA2_117 : decode cX0_adaptA2 117 = .ok (.sipush 128, 3) := by decide +kernel
theorem dX0_adaptA2_120 : decode cX0_adaptA2 120 = .ok (.invokestatic 119, 3) := by decide +kernel
theorem dX0_adaptA2_123 : decode cX0_adaptA2 123 = .ok (.istore_n 2, 1) := by decide +kernel
theorem dX0_adaptA2_124 : decode cX0_adaptA2 124 = .ok (.aload_n 0, 1) := by decide +kernel
theorem dX0_adaptA2_125 : decode cX0_adaptA2 125 = .ok (.getfield 11, 3) := by decide +kernel
theorem dX0_adaptA2_128 : decode cX0_adaptA2 128 = .ok (.bipush 7, 2) := by decide +kernel
theorem dX0_adaptA2_130 : decode cX0_adaptA2 130 = .ok (.iload_n 2, 1) := by decide +kernel
theorem dX0_adaptA2_131 : decode cX0_adaptA2 131 = .ok (.iastore, 1) := by decide +kernel
theorem dX0_adaptA2_132 : decode cX0_adaptA2 132 = .ok (.return_, 1) := by decide +kernel
theorem dX0_nudgedA2_0 : decode cX0_nudgedA2 0 = .ok (.iload_n 0, 1) := by decide +kernel
theorem dX0_nudgedA2_1 : decode cX0_nudgedA2 1 = .ok (.sipush (-12288), 3) := by decide +kernel
theorem dX0_nudgedA2_4 : decode cX0_nudgedA2 4 = .ok (.iload_n 1, 1) := by decide +kernel
theorem dX0_nudgedA2_5 : decode cX0_nudgedA2 5 = .ok (.isub, 1) := by decide +kernel
theorem dX0_nudgedA2_6 : decode cX0_nudgedA2 6 = .ok (.if_icmp .gt 7, 3) := by decide +kernel
theorem dX0_nudgedA2_9 : decode cX0_nudgedA2 9 = .ok (.sipush (-12288), 3) := by decide +kernel
theorem dX0_nudgedA2_12 : decode cX0_nudgedA2 12 = .ok (.ireturn, 1) := by decide +kernel
theorem dX0_nudgedA2_13 : decode cX0_nudgedA2 13 = .ok (.iload_n 0, 1) := by decide +kernel
theorem dX0_nudgedA2_14 : decode cX0_nudgedA2 14 = .ok (.sipush 12288, 3) := by decide +kernel
theorem dX0_nudgedA2_17 : decode cX0_nudgedA2 17 = .ok (.iload_n 1, 1) := by decide +kernel
theorem dX0_nudgedA2_18 : decode cX0_nudgedA2 18 = .ok (.isub, 1) := by decide +kernel
theorem dX0_nudgedA2_19 : decode cX0_nudgedA2 19 = .ok (.if_icmp .lt 7, 3) := by decide +kernel
theorem dX0_nudgedA2_22 : decode cX0_nudgedA2 22 = .ok (.sipush 12288, 3) := by decide +kernel
theorem dX0_nudgedA2_25 : decode cX0_nudgedA2 25 = .ok (.ireturn, 1) := by decide +kernel
theorem dX0_nudgedA2_26 : decode cX0_nudgedA2 26 = .ok (.iload_n 0, 1) := by decide +kernel
theorem dX0_nudgedA2_27 : decode cX0_nudgedA2 27 = .ok (.iload_n 1, 1) := by decide +kernel
theorem dX0_nudgedA2_28 : decode cX0_nudgedA2 28 = .ok (.iadd, 1) := by decide +kernel
theorem dX0_nudgedA2_29 : decode cX0_nudgedA2 29 = .ok (.ireturn, 1) := by decide +kernel
theorem dX0_adaptA1_0 : decode cX0_adaptA1 0 = .ok (.aload_n 0, 1) := by decide +kernel
theorem dX0_adaptA1_1 : decode cX0_adaptA1 1 = .ok (.getfield 11, 3) := by decide +kernel
theorem dX0_adaptA1_4 : decode cX0_adaptA1 4 = .ok (.bipush 6, 2) := by decide +kernel
theorem dX0_adaptA1_6 : decode cX0_adaptA1 6 = .ok (.iaload, 1) := by decide +kernel
theorem dX0_adaptA1_7 : decode cX0_adaptA1 7 = .ok (.aload_n 0, 1) := by decide +kernel
theorem dX0_adaptA1_8 : decode cX0_adaptA1 8 = .ok (.getfield 11, 3) := by decide +kernel
theorem dX0_adaptA1_11 : decode cX0_adaptA1 11 = .ok (.bipush 6, 2) := by decide +kernel
theorem dX0_adaptA1_13 : decode cX0_adaptA1 13 = .ok (.iaload, 1) := by decide +kernel
theorem dX0_adaptA1_14 : decode cX0_adaptA1 14 = .ok (.bipush 8, 2) := by decide +kernel
theorem dX0_adaptA1_16 : decode cX0_adaptA1 16 = .ok (.ishr, 1) := by decide +kernel
theorem dX0_adaptA1_17 : decode cX0_adaptA1 17 = .ok (.isub, 1) := by decide +kernel
theorem dX0_adaptA1_18 : decode cX0_adaptA1 18 = .ok (.istore_n 2, 1) := by decide +kernel
theorem dX0_adaptA1_19 : decode cX0_adaptA1 19 = .ok (.iload_n 1, 1) := by decide +kernel
theorem dX0_adaptA1_20 : decode cX0_adaptA1 20 = .ok (.ifCond .eq 29, 3) := by decide +kernel
theorem dX0_adaptA1_23 : decode cX0_adaptA1 23 = .ok (.iload_n 2, 1) := by decide +kernel
theorem dX0_adaptA1_24 : decode cX0_adaptA1 24 = .ok (.iload_n 1, 1) := by decide +kernel
theorem dX0_adaptA1_25 : decode cX0_adaptA1 25 = .ok (.invokestatic 102, 3) := by decide +kernel
theorem dX0_adaptA1_28 : decode cX0_adaptA1 28 = .ok (.aload_n 0, 1) := by decide +kernel
theorem dX0_adaptA1_29 : decode cX0_adaptA1 29 = .ok (.getfield 11, 3) := by decide +kernel
theorem dX0_adaptA1_32 : decode cX0_adaptA1 32 = .ok (.bipush 22, 2) := by decide +kernel
theorem dX0_adaptA1_34 : decode cX0_adaptA1 34 = .ok (.iaload, 1) := by decide +kernel
theorem dX0_adaptA1_35 : decode cX0_adaptA1 35 = .ok (.if_icmp .ne 9, 3) := by decide +kernel
theorem dX0_adaptA1_38 : decode cX0_adaptA1 38 = .ok (.sipush 192, 3) := by decide +kernel
theorem dX0_adaptA1_41 : decode cX0_adaptA1 41 = .ok (.goto 6, 3) := by decide +kernel
theorem dX0_adaptA1_44 : decode cX0_adaptA1 44 = .ok (.sipush (-192), 3) := by decide +kernel
theorem dX0_adaptA1_47 : decode cX0_adaptA1 47 = .ok (.iadd, 1) := by decide +kernel
theorem dX0_adaptA1_48 : decode cX0_adaptA1 48 = .ok (.istore_n 2, 1) := by decide +kernel
theorem dX0_adaptA1_49 : decode cX0_adaptA1 49 = .ok (.sipush 15360, 3) := by decide +kernel
theorem dX0_adaptA1_52 : decode cX0_adaptA1 52 = .ok (.aload_n 0, 1) := by decide +kernel
theorem dX0_adaptA1_53 : decode cX0_adaptA1 53 = .ok (.getfield 11, 3) := by decide +kernel
theorem dX0_adaptA1_56 : decode cX0_adaptA1 56 = .ok (.bipush 7, 2) := by decide +kernel
theorem dX0_adaptA1_58 : decode cX0_adaptA1 58 = .ok (.iaload, 1) := by decide +kernel
theorem dX0_adaptA1_59 : decode cX0_adaptA1 59 = .ok (.isub, 1) := by decide +kernel
theorem dX0_adaptA1_60 : decode cX0_adaptA1 60 = .ok (.istore_n 3, 1) := by decide +kernel
theorem dX0_adaptA1_61 : decode cX0_adaptA1 61 = .ok (.aload_n 0, 1) := by decide +kernel
theorem dX0_adaptA1_62 : decode cX0_adaptA1 62 = .ok (.getfield 11, 3) := by decide +kernel
theorem dX0_adaptA1_65 : decode cX0_adaptA1 65 = .ok (.bipush 6, 2) := by decide +kernel
theorem dX0_adaptA1_67 : decode cX0_adaptA1 67 = .ok (.iload_n 2, 1) := by decide +kernel
theorem dX0_adaptA1_68 : decode cX0_adaptA1 68 = .ok (.iload_n 3, 1) := by decide +kernel
theorem dX0_adaptA1_69 : decode cX0_adaptA1 69 = .ok (.ineg, 1) := by decide +kernel
theorem dX0_adaptA1_70 : decode cX0_adaptA1 70 = .ok (.iload_n 3, 1) := by decide +kernel
theorem dX0_adaptA1_71 : decode cX0_adaptA1 71 = .ok (.invokestatic 115, 3) := by decide +kernel
theorem dX0_adaptA1_74 : decode cX0_adaptA1 74 = .ok (.iastore, 1) := by decide +kernel
theorem dX0_adaptA1_75 : decode cX0_adaptA1 75 = .ok (.return_, 1) := by decide +kernel
theorem dX0_adaptZeros_0 : decode cX0_adaptZeros 0 = .ok (.aload_n 0, 1) := by decide +kernel
theorem dX0_adaptZeros_1 : decode cX0_adaptZeros 1 = .ok (.getfield 15, 3) := by decide +kernel
theorem dX0_adaptZeros_4 : decode cX0_adaptZeros 4 = .ok (.iconst 5, 1) := by decide +kernel
theorem dX0_adaptZeros_5 : decode cX0_adaptZeros 5 = .ok (.if_icmp .ne 8, 3) := by decide +kernel
theorem dX0_adaptZeros_8 : decode cX0_adaptZeros 8 = .ok (.bipush 9, 2) := by decide +kernel
theorem dX0_adaptZeros_10 : decode cX0_adaptZeros 10 = .ok (.goto 5, 3) := by decide +kernel
theorem dX0_adaptZeros_13 : decode cX0_adaptZeros 13 = .ok (.bipush 8, 2) := by decide +kernel
theorem dX0_adaptZeros_15 : decode cX0_adaptZeros 15 = .ok (.istore_n 3, 1) := by decide +kernel
theorem dX0_adaptZeros_16 : decode cX0_adaptZeros 16 = .ok (.iconst 0, 1) := by decide +kernel
theorem dX0_adaptZeros_17 : decode cX0_adaptZeros 17 = .ok (.istore 4, 2) := by decide +kernel
theorem dX0_adaptZeros_19 : decode cX0_adaptZeros 19 = .ok (.iload 4, 2) := by decide +kernel
theorem dX0_adaptZeros_21 : decode cX0_adaptZeros 21 = .ok (.bipush 6, 2) := by decide +kernel
theorem dX0_adaptZeros_23 : decode cX0_adaptZeros 23 = .ok (.if_icmp .ge 84, 3) := by decide +kernel
theorem dX0_adaptZeros_26 : decode cX0_adaptZeros 26 = .ok (.aload_n 0, 1) := by decide +kernel
theorem dX0_adaptZeros_27 : decode cX0_adaptZeros 27 = .ok (.getfield 11, 3) := by decide +kernel
theorem dX0_adaptZeros_30 : decode cX0_adaptZeros 30 = .ok (.bipush 8, 2) := by decide +kernel
theorem dX0_adaptZeros_32 : decode cX0_adaptZeros 32 = .ok (.iload 4, 2) := by decide +kernel
theorem dX0_adaptZeros_34 : decode cX0_adaptZeros 34 = .ok (.iadd, 1) := by decide +kernel
theorem dX0_adaptZeros_35 : decode cX0_adaptZeros 35 = .ok (.iaload, 1) := by decide +kernel
theorem dX0_adaptZeros_36 : decode cX0_adaptZeros 36 = .ok (.istore 5, 2) := by decide +kernel
theorem dX0_adaptZeros_38 : decode cX0_adaptZeros 38 = .ok (.iload 5, 2) := by decide +kernel
theorem dX0_adaptZeros_40 : decode cX0_adaptZeros 40 = .ok (.iload 5, 2) := by decide +kernel
theorem dX0_adaptZeros_42 : decode cX0_adaptZeros 42 = .ok (.iload_n 3, 1) := by decide +kernel
theorem dX0_adaptZeros_43 : decode cX0_adaptZeros 43 = .ok (.ishr, 1) := by decide +kernel
theorem dX0_adaptZeros_44 : decode cX0_adaptZeros 44 = .ok (.isub, 1) := by decide +kernel
theorem dX0_adaptZeros_45 : decode cX0_adaptZeros 45 = .ok (.istore 5, 2) := by decide +kernel
theorem dX0_adaptZeros_47 : decode cX0_adaptZeros 47 = .ok (.iload_n 1, 1) := by decide +kernel
theorem dX0_adaptZeros_48 : decode cX0_adaptZeros 48 = .ok (.ifCond .eq 38, 3) := by decide +kernel
theorem dX0_adaptZeros_51 : decode cX0_adaptZeros 51 = .ok (.iload 5, 2) := by decide +kernel
theorem dX0_adaptZeros_53 : decode cX0_adaptZeros 53 = .ok (.iload_n 2, 1) := by decide +kernel
theorem dX0_adaptZeros_54 : decode cX0_adaptZeros 54 = .ok (.aload_n 0, 1) := by decide +kernel
theorem dX0_adaptZeros_55 : decode cX0_adaptZeros 55 = .ok (.getfield 11, 3) := by decide +kernel
theorem dX0_adaptZeros_58 : decode cX0_adaptZeros 58 = .ok (.bipush 16, 2) := by decide +kernel
theorem dX0_adaptZeros_60 : decode cX0_adaptZeros 60 = .ok (.iload 4, 2) := by decide +kernel
theorem dX0_adaptZeros_62 : decode cX0_adaptZeros 62 = .ok (.iadd, 1) := by decide +kernel
theorem dX0_adaptZeros_63 : decode cX0_adaptZeros 63 = .ok (.iaload, 1) := by decide +kernel
theorem dX0_adaptZeros_64 : decode cX0_adaptZeros 64 = .ok (.ifCond .ge 7, 3) := by decide +kernel
theorem dX0_adaptZeros_67 : decode cX0_adaptZeros 67 = .ok (.iconst 1, 1) := by decide +kernel
theorem dX0_adaptZeros_68 : decode cX0_adaptZeros 68 = .ok (.goto 4, 3) := by decide +kernel
theorem dX0_adaptZeros_71 : decode cX0_adaptZeros 71 = .ok (.iconst 0, 1) := by decide +kernel
theorem dX0_adaptZeros_72 : decode cX0_adaptZeros 72 = .ok (.if_icmp .ne 9, 3) := by decide +kernel
theorem dX0_adaptZeros_75 : decode cX0_adaptZeros 75 = .ok (.sipush 128, 3) := by decide +kernel
theorem dX0_adaptZeros_78 : decode cX0_adaptZeros 78 = .ok (.goto 5, 3) := by decide +kernel
theorem dX0_adaptZeros_81 : decode cX0_adaptZeros 81 = .ok (.bipush (-128), 2) := by decide +kernel
theorem dX0_adaptZeros_83 : decode cX0_adaptZeros 83 = .ok (.iadd, 1) := by decide +kernel
theorem dX0_adaptZeros_84 : decode cX0_adaptZeros 84 = .ok (.istore 5, 2) := by decide +kernel
theorem dX0_adaptZeros_86 : decode cX0_adaptZeros 86 = .ok (.aload_n 0, 1) := by decide +kernel
theorem dX0_adaptZeros_87 : decode cX0_adaptZeros 87 = .ok (.getfield 11, 3) := by decide +kernel
theorem dX0_adaptZeros_90 : decode cX0_adaptZeros 90 = .ok (.bipush 8, 2) := by decide +kernel
theorem dX0_adaptZeros_92 : decode cX0_adaptZeros 92 = .ok (.iload 4, 2) := by decide +kernel
theorem dX0_adaptZeros_94 : decode cX0_adaptZeros 94 = .ok (.iadd, 1) := by decide +kernel
theorem dX0_adaptZeros_95 : decode cX0_adaptZeros 95 = .ok (.iload 5, 2) := by decide +kernel
theorem dX0_adaptZeros_97 : decode cX0_adaptZeros 97 = .ok (.invokestatic 47, 3) := by decide +kernel
theorem dX0_adaptZeros_100 : decode cX0_adaptZeros 100 = .ok (.iastore, 1) := by decide +kernel
theorem dX0_adaptZeros_101 : decode cX0_adaptZeros 101 = .ok (.iinc 4 1, 3) := by decide +kernel
theorem dX0_adaptZeros_104 : decode cX0_adaptZeros 104 = .ok (.goto (-85), 3) := by decide +kernel
theorem dX0_adaptZeros_107 : decode cX0_adaptZeros 107 = .ok (.return_, 1) := by decide +kernel
theorem dX0_remember_0 : decode cX0_remember 0 = .ok (.iconst 5, 1) := by decide +kernel
theorem dX0_remember_1 : decode cX0_remember 1 = .ok (.istore 4, 2) := by decide +kernel
theorem dX0_remember_3 : decode cX0_remember 3 = .ok (.iload 4, 2) := by decide +kernel
theorem dX0_remember_5 : decode cX0_remember 5 = .ok (.ifCond .le 31, 3) := by decide +kernel
theorem dX0_remember_8 : decode cX0_remember 8 = .ok (.aload_n 0, 1) := by decide +kernel
theorem dX0_remember_9 : decode cX0_remember 9 = .ok (.getfield 11, 3) := by decide +kernel
theorem dX0_remember_12 : decode cX0_remember 12 = .ok (.bipush 16, 2) := by decide +kernel
theorem dX0_remember_14 : decode cX0_remember 14 = .ok (.iload 4, 2) := by decide +kernel
theorem dX0_remember_16 : decode cX0_remember 16 = .ok (.iadd, 1) := by decide +kernel
theorem dX0_remember_17 : decode cX0_remember 17 = .ok (.aload_n 0, 1) := by decide +kernel
theorem dX0_remember_18 : decode cX0_remember 18 = .ok (.getfield 11, 3) := by decide +kernel
theorem dX0_remember_21 : decode cX0_remember 21 = .ok (.bipush 16, 2) := by decide +kernel
theorem dX0_remember_23 : decode cX0_remember 23 = .ok (.iload 4, 2) := by decide +kernel
theorem dX0_remember_25 : decode cX0_remember 25 = .ok (.iadd, 1) := by decide +kernel
theorem dX0_remember_26 : decode cX0_remember 26 = .ok (.iconst 1, 1) := by decide +kernel
theorem dX0_remember_27 : decode cX0_remember 27 = .ok (.isub, 1) := by decide +kernel
theorem dX0_remember_28 : decode cX0_remember 28 = .ok (.iaload, 1) := by decide +kernel
theorem dX0_remember_29 : decode cX0_remember 29 = .ok (.iastore, 1) := by decide +kernel
theorem dX0_remember_30 : decode cX0_remember 30 = .ok (.iinc 4 (-1), 3) := by decide +kernel
theorem dX0_remember_33 : decode cX0_remember 33 = .ok (.goto (-30), 3) := by decide +kernel
theorem dX0_remember_36 : decode cX0_remember 36 = .ok (.aload_n 0, 1) := by decide +kernel
theorem dX0_remember_37 : decode cX0_remember 37 = .ok (.getfield 11, 3) := by decide +kernel
theorem dX0_remember_40 : decode cX0_remember 40 = .ok (.bipush 16, 2) := by decide +kernel
theorem dX0_remember_42 : decode cX0_remember 42 = .ok (.iload_n 1, 1) := by decide +kernel
theorem dX0_remember_43 : decode cX0_remember 43 = .ok (.iastore, 1) := by decide +kernel
theorem dX0_remember_44 : decode cX0_remember 44 = .ok (.aload_n 0, 1) := by decide +kernel
theorem dX0_remember_45 : decode cX0_remember 45 = .ok (.getfield 11, 3) := by decide +kernel
theorem dX0_remember_48 : decode cX0_remember 48 = .ok (.bipush 15, 2) := by decide +kernel
theorem dX0_remember_50 : decode cX0_remember 50 = .ok (.aload_n 0, 1) := by decide +kernel
theorem dX0_remember_51 : decode cX0_remember 51 = .ok (.getfield 11, 3) := by decide +kernel
theorem dX0_remember_54 : decode cX0_remember 54 = .ok (.bipush 14, 2) := by decide +kernel
theorem dX0_remember_56 : decode cX0_remember 56 = .ok (.iaload, 1) := by decide +kernel
theorem dX0_remember_57 : decode cX0_remember 57 = .ok (.iastore, 1) := by decide +kernel
theorem dX0_remember_58 : decode cX0_remember 58 = .ok (.aload_n 0, 1) := by decide +kernel
theorem dX0_remember_59 : decode cX0_remember 59 = .ok (.getfield 11, 3) := by decide +kernel
theorem dX0_remember_62 : decode cX0_remember 62 = .ok (.bipush 14, 2) := by decide +kernel
theorem dX0_remember_64 : decode cX0_remember 64 = .ok (.iload_n 2, 1) := by decide +kernel
theorem dX0_remember_65 : decode cX0_remember 65 = .ok (.iastore, 1) := by decide +kernel
theorem dX0_remember_66 : decode cX0_remember 66 = .ok (.aload_n 0, 1) := by decide +kernel
theorem dX0_remember_67 : decode cX0_remember 67 = .ok (.getfield 11, 3) := by decide +kernel
theorem dX0_remember_70 : decode cX0_remember 70 = .ok (.bipush 23, 2) := by decide +kernel
theorem dX0_remember_72 : decode cX0_remember 72 = .ok (.aload_n 0, 1) := by decide +kernel
theorem dX0_remember_73 : decode cX0_remember 73 = .ok (.getfield 11, 3) := by decide +kernel
theorem dX0_remember_76 : decode cX0_remember 76 = .ok (.bipush 22, 2) := by decide +kernel
theorem dX0_remember_78 : decode cX0_remember 78 = .ok (.iaload, 1) := by decide +kernel
theorem dX0_remember_79 : decode cX0_remember 79 = .ok (.iastore, 1) := by decide +kernel
theorem dX0_remember_80 : decode cX0_remember 80 = .ok (.aload_n 0, 1) := by decide +kernel
theorem dX0_remember_81 : decode cX0_remember 81 = .ok (.getfield 11, 3) := by decide +kernel
theorem dX0_remember_84 : decode cX0_remember 84 = .ok (.bipush 22, 2) := by decide +kernel
theorem dX0_remember_86 : decode cX0_remember 86 = .ok (.iload_n 3, 1) := by decide +kernel
theorem dX0_remember_87 : decode cX0_remember 87 = .ok (.iastore, 1) := by decide +kernel
theorem dX0_remember_88 : decode cX0_remember 88 = .ok (.return_, 1) := by decide +kernel
theorem dX0_adaptPace_0 : decode cX0_adaptPace 0 = .ok (.aload_n 0, 1) := by decide +kernel
theorem dX0_adaptPace_1 : decode cX0_adaptPace 1 = .ok (.getfield 11, 3) := by decide +kernel
theorem dX0_adaptPace_4 : decode cX0_adaptPace 4 = .ok (.iconst 2, 1) := by decide +kernel
theorem dX0_adaptPace_5 : decode cX0_adaptPace 5 = .ok (.dup2, 1) := by decide +kernel
theorem dX0_adaptPace_6 : decode cX0_adaptPace 6 = .ok (.iaload, 1) := by decide +kernel
theorem dX0_adaptPace_7 : decode cX0_adaptPace 7 = .ok (.iload_n 1, 1) := by decide +kernel
theorem dX0_adaptPace_8 : decode cX0_adaptPace 8 = .ok (.aload_n 0, 1) := by decide +kernel
theorem dX0_adaptPace_9 : decode cX0_adaptPace 9 = .ok (.getfield 11, 3) := by decide +kernel
theorem dX0_adaptPace_12 : decode cX0_adaptPace 12 = .ok (.iconst 2, 1) := by decide +kernel
theorem dX0_adaptPace_13 : decode cX0_adaptPace 13 = .ok (.iaload, 1) := by decide +kernel
theorem dX0_adaptPace_14 : decode cX0_adaptPace 14 = .ok (.isub, 1) := by decide +kernel
theorem dX0_adaptPace_15 : decode cX0_adaptPace 15 = .ok (.iconst 5, 1) := by decide +kernel
theorem dX0_adaptPace_16 : decode cX0_adaptPace 16 = .ok (.ishr, 1) := by decide +kernel
theorem dX0_adaptPace_17 : decode cX0_adaptPace 17 = .ok (.iadd, 1) := by decide +kernel
theorem dX0_adaptPace_18 : decode cX0_adaptPace 18 = .ok (.iastore, 1) := by decide +kernel
theorem dX0_adaptPace_19 : decode cX0_adaptPace 19 = .ok (.aload_n 0, 1) := by decide +kernel
theorem dX0_adaptPace_20 : decode cX0_adaptPace 20 = .ok (.getfield 11, 3) := by decide +kernel
theorem dX0_adaptPace_23 : decode cX0_adaptPace 23 = .ok (.iconst 3, 1) := by decide +kernel
theorem dX0_adaptPace_24 : decode cX0_adaptPace 24 = .ok (.dup2, 1) := by decide +kernel
theorem dX0_adaptPace_25 : decode cX0_adaptPace 25 = .ok (.iaload, 1) := by decide +kernel
theorem dX0_adaptPace_26 : decode cX0_adaptPace 26 = .ok (.iconst 4, 1) := by decide +kernel
theorem dX0_adaptPace_27 : decode cX0_adaptPace 27 = .ok (.iload_n 1, 1) := by decide +kernel
theorem dX0_adaptPace_28 : decode cX0_adaptPace 28 = .ok (.imul, 1) := by decide +kernel
theorem dX0_adaptPace_29 : decode cX0_adaptPace 29 = .ok (.aload_n 0, 1) := by decide +kernel
theorem dX0_adaptPace_30 : decode cX0_adaptPace 30 = .ok (.getfield 11, 3) := by decide +kernel
theorem dX0_adaptPace_33 : decode cX0_adaptPace 33 = .ok (.iconst 3, 1) := by decide +kernel
theorem dX0_adaptPace_34 : decode cX0_adaptPace 34 = .ok (.iaload, 1) := by decide +kernel
theorem dX0_adaptPace_35 : decode cX0_adaptPace 35 = .ok (.isub, 1) := by decide +kernel
theorem dX0_adaptPace_36 : decode cX0_adaptPace 36 = .ok (.bipush 7, 2) := by decide +kernel
theorem dX0_adaptPace_38 : decode cX0_adaptPace 38 = .ok (.ishr, 1) := by decide +kernel
theorem dX0_adaptPace_39 : decode cX0_adaptPace 39 = .ok (.iadd, 1) := by decide +kernel
theorem dX0_adaptPace_40 : decode cX0_adaptPace 40 = .ok (.iastore, 1) := by decide +kernel
theorem dX0_adaptPace_41 : decode cX0_adaptPace 41 = .ok (.iconst 4, 1) := by decide +kernel
theorem dX0_adaptPace_42 : decode cX0_adaptPace 42 = .ok (.aload_n 0, 1) := by decide +kernel
theorem dX0_adaptPace_43 : decode cX0_adaptPace 43 = .ok (.getfield 11, 3) := by decide +kernel
theorem dX0_adaptPace_46 : decode cX0_adaptPace 46 = .ok (.iconst 2, 1) := by decide +kernel
theorem dX0_adaptPace_47 : decode cX0_adaptPace 47 = .ok (.iaload, 1) := by decide +kernel
theorem dX0_adaptPace_48 : decode cX0_adaptPace 48 = .ok (.imul, 1) := by decide +kernel
theorem dX0_adaptPace_49 : decode cX0_adaptPace 49 = .ok (.aload_n 0, 1) := by decide +kernel
theorem dX0_adaptPace_50 : decode cX0_adaptPace 50 = .ok (.getfield 11, 3) := by decide +kernel
theorem dX0_adaptPace_53 : decode cX0_adaptPace 53 = .ok (.iconst 3, 1) := by decide +kernel
theorem dX0_adaptPace_54 : decode cX0_adaptPace 54 = .ok (.iaload, 1) := by decide +kernel
theorem dX0_adaptPace_55 : decode cX0_adaptPace 55 = .ok (.isub, 1) := by decide +kernel
theorem dX0_adaptPace_56 : decode cX0_adaptPace 56 = .ok (.invokestatic 54, 3) := by decide +kernel
theorem dX0_adaptPace_59 : decode cX0_adaptPace 59 = .ok (.istore_n 3, 1) := by decide +kernel
theorem dX0_adaptPace_60 : decode cX0_adaptPace 60 = .ok (.iload_n 2, 1) := by decide +kernel
theorem dX0_adaptPace_61 : decode cX0_adaptPace 61 = .ok (.ifCond .eq 15, 3) := by decide +kernel
theorem dX0_adaptPace_64 : decode cX0_adaptPace 64 = .ok (.aload_n 0, 1) := by decide +kernel
theorem dX0_adaptPace_65 : decode cX0_adaptPace 65 = .ok (.getfield 11, 3) := by decide +kernel
theorem dX0_adaptPace_68 : decode cX0_adaptPace 68 = .ok (.iconst 4, 1) := by decide +kernel
theorem dX0_adaptPace_69 : decode cX0_adaptPace 69 = .ok (.sipush 256, 3) := by decide +kernel
theorem dX0_adaptPace_72 : decode cX0_adaptPace 72 = .ok (.iastore, 1) := by decide +kernel
theorem dX0_adaptPace_73 : decode cX0_adaptPace 73 = .ok (.goto 77, 3) := by decide +kernel
theorem dX0_adaptPace_76 : decode cX0_adaptPace 76 = .ok (.aload_n 0, 1) := by decide +kernel
theorem dX0_adaptPace_77 : decode cX0_adaptPace 77 = .ok (.getfield 25, 3) := by decide +kernel
theorem dX0_adaptPace_80 : decode cX0_adaptPace 80 = .ok (.sipush 1536, 3) := by decide +kernel
theorem dX0_adaptPace_83 : decode cX0_adaptPace 83 = .ok (.if_icmp .lt 25, 3) := by decide +kernel
theorem dX0_adaptPace_86 : decode cX0_adaptPace 86 = .ok (.aload_n 0, 1) := by decide +kernel
theorem dX0_adaptPace_87 : decode cX0_adaptPace 87 = .ok (.getfield 11, 3) := by decide +kernel
theorem dX0_adaptPace_90 : decode cX0_adaptPace 90 = .ok (.iconst 5, 1) := by decide +kernel
theorem dX0_adaptPace_91 : decode cX0_adaptPace 91 = .ok (.iaload, 1) := by decide +kernel
theorem dX0_adaptPace_92 : decode cX0_adaptPace 92 = .ok (.iconst 1, 1) := by decide +kernel
theorem dX0_adaptPace_93 : decode cX0_adaptPace 93 = .ok (.if_icmp .eq 15, 3) := by decide +kernel
theorem dX0_adaptPace_96 : decode cX0_adaptPace 96 = .ok (.iload_n 3, 1) := by decide +kernel
theorem dX0_adaptPace_97 : decode cX0_adaptPace 97 = .ok (.aload_n 0, 1) := by decide +kernel
theorem dX0_adaptPace_98 : decode cX0_adaptPace 98 = .ok (.getfield 11, 3) := by decide +kernel
theorem dX0_adaptPace_101 : decode cX0_adaptPace 101 = .ok (.iconst 3, 1) := by decide +kernel
theorem dX0_adaptPace_102 : decode cX0_adaptPace 102 = .ok (.iaload, 1) := by decide +kernel
theorem dX0_adaptPace_103 : decode cX0_adaptPace 103 = .ok (.iconst 3, 1) := by decide +kernel
theorem dX0_adaptPace_104 : decode cX0_adaptPace 104 = .ok (.ishr, 1) := by decide +kernel
theorem dX0_adaptPace_105 : decode cX0_adaptPace 105 = .ok (.if_icmp .lt 27, 3) := by decide +kernel
theorem dX0_adaptPace_108 : decode cX0_adaptPace 108 = .ok (.aload_n 0, 1) := by decide +kernel
theorem dX0_adaptPace_109 : decode cX0_adaptPace 109 = .ok (.getfield 11, 3) := by decide +kernel
theorem dX0_adaptPace_112 : decode cX0_adaptPace 112 = .ok (.iconst 4, 1) := by decide +kernel
theorem dX0_adaptPace_113 : decode cX0_adaptPace 113 = .ok (.dup2, 1) := by decide +kernel
theorem dX0_adaptPace_114 : decode cX0_adaptPace 114 = .ok (.iaload, 1) := by decide +kernel
theorem dX0_adaptPace_115 : decode cX0_adaptPace 115 = .ok (.sipush 512, 3) := by decide +kernel
theorem dX0_adaptPace_118 : decode cX0_adaptPace 118 = .ok (.aload_n 0, 1) := by decide +kernel
theorem dX0_adaptPace_119 : decode cX0_adaptPace 119 = .ok (.getfield 11, 3) := by decide +kernel
theorem dX0_adaptPace_122 : decode cX0_adaptPace 122 = .ok (.iconst 4, 1) := by decide +kernel
theorem dX0_adaptPace_123 : decode cX0_adaptPace 123 = .ok (.iaload, 1) := by decide +kernel
theorem dX0_adaptPace_124 : decode cX0_adaptPace 124 = .ok (.isub, 1) := by decide +kernel
theorem dX0_adaptPace_125 : decode cX0_adaptPace 125 = .ok (.iconst 4, 1) := by decide +kernel
theorem dX0_adaptPace_126 : decode cX0_adaptPace 126 = .ok (.ishr, 1) := by decide +kernel
theorem dX0_adaptPace_127 : decode cX0_adaptPace 127 = .ok (.iadd, 1) := by decide +kernel
theorem dX0_adaptPace_128 : decode cX0_adaptPace 128 = .ok (.iastore, 1) := by decide +kernel
theorem dX0_adaptPace_129 : decode cX0_adaptPace 129 = .ok (.goto 21, 3) := by decide +kernel
theorem dX0_adaptPace_132 : decode cX0_adaptPace 132 = .ok (.aload_n 0, 1) := by decide +kernel
theorem dX0_adaptPace_133 : decode cX0_adaptPace 133 = .ok (.getfield 11, 3) := by decide +kernel
theorem dX0_adaptPace_136 : decode cX0_adaptPace 136 = .ok (.iconst 4, 1) := by decide +kernel
theorem dX0_adaptPace_137 : decode cX0_adaptPace 137 = .ok (.dup2, 1) := by decide +kernel
theorem dX0_adaptPace_138 : decode cX0_adaptPace 138 = .ok (.iaload, 1) := by decide +kernel
theorem dX0_adaptPace_139 : decode cX0_adaptPace 139 = .ok (.aload_n 0, 1) := by decide +kernel
theorem dX0_adaptPace_140 : decode cX0_adaptPace 140 = .ok (.getfield 11, 3) := by decide +kernel
theorem dX0_adaptPace_143 : decode cX0_adaptPace 143 = .ok (.iconst 4, 1) := by decide +kernel
theorem dX0_adaptPace_144 : decode cX0_adaptPace 144 = .ok (.iaload, 1) := by decide +kernel
theorem dX0_adaptPace_145 : decode cX0_adaptPace 145 = .ok (.ineg, 1) := by decide +kernel
theorem dX0_adaptPace_146 : decode cX0_adaptPace 146 = .ok (.iconst 4, 1) := by decide +kernel
theorem dX0_adaptPace_147 : decode cX0_adaptPace 147 = .ok (.ishr, 1) := by decide +kernel
theorem dX0_adaptPace_148 : decode cX0_adaptPace 148 = .ok (.iadd, 1) := by decide +kernel
theorem dX0_adaptPace_149 : decode cX0_adaptPace 149 = .ok (.iastore, 1) := by decide +kernel
theorem dX0_adaptPace_150 : decode cX0_adaptPace 150 = .ok (.return_, 1) := by decide +kernel
theorem dX0_size_0 : decode cX0_size 0 = .ok (.iconst 0, 1) := by decide +kernel
theorem dX0_size_1 : decode cX0_size 1 = .ok (.istore_n 1, 1) := by decide +kernel
theorem dX0_size_2 : decode cX0_size 2 = .ok (.iload_n 1, 1) := by decide +kernel
theorem dX0_size_3 : decode cX0_size 3 = .ok (.bipush 15, 2) := by decide +kernel
theorem dX0_size_5 : decode cX0_size 5 = .ok (.if_icmp .ge 16, 3) := by decide +kernel
theorem dX0_size_8 : decode cX0_size 8 = .ok (.iload_n 0, 1) := by decide +kernel
theorem dX0_size_9 : decode cX0_size 9 = .ok (.iconst 1, 1) := by decide +kernel
theorem dX0_size_10 : decode cX0_size 10 = .ok (.iload_n 1, 1) := by decide +kernel
theorem dX0_size_11 : decode cX0_size 11 = .ok (.ishl, 1) := by decide +kernel
theorem dX0_size_12 : decode cX0_size 12 = .ok (.if_icmp .lt 9, 3) := by decide +kernel
theorem dX0_size_15 : decode cX0_size 15 = .ok (.iinc 1 1, 3) := by decide +kernel
theorem dX0_size_18 : decode cX0_size 18 = .ok (.goto (-16), 3) := by decide +kernel
theorem dX0_size_21 : decode cX0_size 21 = .ok (.iload_n 1, 1) := by decide +kernel
theorem dX0_size_22 : decode cX0_size 22 = .ok (.ireturn, 1) := by decide +kernel
theorem dX0_times_0 : decode cX0_times 0 = .ok (.iload_n 0, 1) := by decide +kernel
theorem dX0_times_1 : decode cX0_times 1 = .ok (.invokestatic 54, 3) := by decide +kernel
theorem dX0_times_4 : decode cX0_times 4 = .ok (.sipush 8191, 3) := by decide +kernel
theorem dX0_times_7 : decode cX0_times 7 = .ok (.iand, 1) := by decide +kernel
theorem dX0_times_8 : decode cX0_times 8 = .ok (.istore_n 2, 1) := by decide +kernel
theorem dX0_times_9 : decode cX0_times 9 = .ok (.iload_n 2, 1) := by decide +kernel
theorem dX0_times_10 : decode cX0_times 10 = .ok (.invokestatic 59, 3) := by decide +kernel
theorem dX0_times_13 : decode cX0_times 13 = .ok (.bipush 6, 2) := by decide +kernel
theorem dX0_times_15 : decode cX0_times 15 = .ok (.isub, 1) := by decide +kernel
theorem dX0_times_16 : decode cX0_times 16 = .ok (.istore_n 3, 1) := by decide +kernel
theorem dX0_times_17 : decode cX0_times 17 = .ok (.iload_n 2, 1) := by decide +kernel
theorem dX0_times_18 : decode cX0_times 18 = .ok (.ifCond .ne 8, 3) := by decide +kernel
theorem dX0_times_21 : decode cX0_times 21 = .ok (.bipush 32, 2) := by decide +kernel
theorem dX0_times_23 : decode cX0_times 23 = .ok (.goto 9, 3) := by decide +kernel
theorem dX0_times_26 : decode cX0_times 26 = .ok (.iload_n 2, 1) := by decide +kernel
theorem dX0_times_27 : decode cX0_times 27 = .ok (.iload_n 3, 1) := by decide +kernel
theorem dX0_times_28 : decode cX0_times 28 = .ok (.ineg, 1) := by decide +kernel
theorem dX0_times_29 : decode cX0_times 29 = .ok (.invokestatic 122, 3) := by decide +kernel
theorem dX0_times_32 : decode cX0_times 32 = .ok (.istore 4, 2) := by decide +kernel
theorem dX0_times_34 : decode cX0_times 34 = .ok (.iload_n 3, 1) := by decide +kernel
theorem dX0_times_35 : decode cX0_times 35 = .ok (.iload_n 1, 1) := by decide +kernel
theorem dX0_times_36 : decode cX0_times 36 = .ok (.bipush 6, 2) := by decide +kernel
theorem dX0_times_38 : decode cX0_times 38 = .ok (.ishr, 1) := by decide +kernel
theorem dX0_times_39 : decode cX0_times 39 = .ok (.bipush 15, 2) := by decide +kernel
theorem dX0_times_41 : decode cX0_times 41 = .ok (.iand, 1) := by decide +kernel
theorem dX0_times_42 : decode cX0_times 42 = .ok (.iadd, 1) := by decide +kernel
theorem dX0_times_43 : decode cX0_times 43 = .ok (.bipush 13, 2) := by decide +kernel
theorem dX0_times_45 : decode cX0_times 45 = .ok (.isub, 1) := by decide +kernel
theorem dX0_times_46 : decode cX0_times 46 = .ok (.istore 5, 2) := by decide +kernel
theorem dX0_times_48 : decode cX0_times 48 = .ok (.iload 4, 2) := by decide +kernel
theorem dX0_times_50 : decode cX0_times 50 = .ok (.iload_n 1, 1) := by decide +kernel
theorem dX0_times_51 : decode cX0_times 51 = .ok (.bipush 63, 2) := by decide +kernel
theorem dX0_times_53 : decode cX0_times 53 = .ok (.iand, 1) := by decide +kernel
theorem dX0_times_54 : decode cX0_times 54 = .ok (.imul, 1) := by decide +kernel
theorem dX0_times_55 : decode cX0_times 55 = .ok (.bipush 48, 2) := by decide +kernel
theorem dX0_times_57 : decode cX0_times 57 = .ok (.iadd, 1) := by decide +kernel
theorem dX0_times_58 : decode cX0_times 58 = .ok (.iconst 4, 1) := by decide +kernel
theorem dX0_times_59 : decode cX0_times 59 = .ok (.ishr, 1) := by decide +kernel
theorem dX0_times_60 : decode cX0_times 60 = .ok (.istore 6, 2) := by decide +kernel
theorem dX0_times_62 : decode cX0_times 62 = .ok (.iload 6, 2) := by decide +kernel
theorem dX0_times_64 : decode cX0_times 64 = .ok (.iload 5, 2) := by decide +kernel
theorem dX0_times_66 : decode cX0_times 66 = .ok (.invokestatic 122, 3) := by decide +kernel
theorem dX0_times_69 : decode cX0_times 69 = .ok (.sipush 32767, 3) := by decide +kernel
theorem dX0_times_72 : decode cX0_times 72 = .ok (.iand, 1) := by decide +kernel
theorem dX0_times_73 : decode cX0_times 73 = .ok (.istore 7, 2) := by decide +kernel
theorem dX0_times_75 : decode cX0_times 75 = .ok (.iload_n 0, 1) := by decide +kernel
theorem dX0_times_76 : decode cX0_times 76 = .ok (.ifCond .ge 7, 3) := by decide +kernel
theorem dX0_times_79 : decode cX0_times 79 = .ok (.iconst 1, 1) := by decide +kernel
theorem dX0_times_80 : decode cX0_times 80 = .ok (.goto 4, 3) := by decide +kernel
theorem dX0_times_83 : decode cX0_times 83 = .ok (.iconst 0, 1) := by decide +kernel
theorem dX0_times_84 : decode cX0_times 84 = .ok (.iload_n 1, 1) := by decide +kernel
theorem dX0_times_85 : decode cX0_times 85 = .ok (.ifCond .ge 7, 3) := by decide +kernel
theorem dX0_times_88 : decode cX0_times 88 = .ok (.iconst 1, 1) := by decide +kernel
theorem dX0_times_89 : decode cX0_times 89 = .ok (.goto 4, 3) := by decide +kernel
theorem dX0_times_92 : decode cX0_times 92 = .ok (.iconst 0, 1) := by decide +kernel
theorem dX0_times_93 : decode cX0_times 93 = .ok (.if_icmp .eq 9, 3) := by decide +kernel
theorem dX0_times_96 : decode cX0_times 96 = .ok (.iload 7, 2) := by decide +kernel
theorem dX0_times_98 : decode cX0_times 98 = .ok (.ineg, 1) := by decide +kernel
theorem dX0_times_99 : decode cX0_times 99 = .ok (.goto 5, 3) := by decide +kernel
theorem dX0_times_102 : decode cX0_times 102 = .ok (.iload 7, 2) := by decide +kernel
theorem dX0_times_104 : decode cX0_times 104 = .ok (.ireturn, 1) := by decide +kernel
theorem dX0_shifted_0 : decode cX0_shifted 0 = .ok (.iload_n 1, 1) := by decide +kernel
theorem dX0_shifted_1 : decode cX0_shifted 1 = .ok (.ifCond .ge 10, 3) := by decide +kernel
theorem dX0_shifted_4 : decode cX0_shifted 4 = .ok (.iload_n 0, 1) := by decide +kernel
theorem dX0_shifted_5 : decode cX0_shifted 5 = .ok (.iload_n 1, 1) := by decide +kernel
theorem dX0_shifted_6 : decode cX0_shifted 6 = .ok (.ineg, 1) := by decide +kernel
theorem dX0_shifted_7 : decode cX0_shifted 7 = .ok (.ishr, 1) := by decide +kernel
theorem dX0_shifted_8 : decode cX0_shifted 8 = .ok (.goto 6, 3) := by decide +kernel
theorem dX0_shifted_11 : decode cX0_shifted 11 = .ok (.iload_n 0, 1) := by decide +kernel
theorem dX0_shifted_12 : decode cX0_shifted 12 = .ok (.iload_n 1, 1) := by decide +kernel
theorem dX0_shifted_13 : decode cX0_shifted 13 = .ok (.ishl, 1) := by decide +kernel
theorem dX0_shifted_14 : decode cX0_shifted 14 = .ok (.ireturn, 1) := by decide +kernel
theorem dX0_floatOf_0 : decode cX0_floatOf 0 = .ok (.bipush 32, 2) := by decide +kernel
theorem dX0_floatOf_2 : decode cX0_floatOf 2 = .ok (.istore_n 2, 1) := by decide +kernel
theorem dX0_floatOf_3 : decode cX0_floatOf 3 = .ok (.iload_n 0, 1) := by decide +kernel
theorem dX0_floatOf_4 : decode cX0_floatOf 4 = .ok (.ifCond .le 26, 3) := by decide +kernel
theorem dX0_floatOf_7 : decode cX0_floatOf 7 = .ok (.iload_n 0, 1) := by decide +kernel
theorem dX0_floatOf_8 : decode cX0_floatOf 8 = .ok (.ldc 125, 2) := by decide +kernel
theorem dX0_floatOf_10 : decode cX0_floatOf 10 = .ok (.if_icmp .ge 20, 3) := by decide +kernel
theorem dX0_floatOf_13 : decode cX0_floatOf 13 = .ok (.iload_n 0, 1) := by decide +kernel
theorem dX0_floatOf_14 : decode cX0_floatOf 14 = .ok (.invokestatic 59, 3) := by decide +kernel
theorem dX0_floatOf_17 : decode cX0_floatOf 17 = .ok (.istore_n 3, 1) := by decide +kernel
theorem dX0_floatOf_18 : decode cX0_floatOf 18 = .ok (.bipush 64, 2) := by decide +kernel
theorem dX0_floatOf_20 : decode cX0_floatOf 20 = .ok (.iload_n 3, 1) := by decide +kernel
theorem dX0_floatOf_21 : decode cX0_floatOf 21 = .ok (.imul, 1) := by decide +kernel
theorem dX0_floatOf_22 : decode cX0_floatOf 22 = .ok (.bipush 64, 2) := by decide +kernel
theorem dX0_floatOf_24 : decode cX0_floatOf 24 = .ok (.iload_n 0, 1) := by decide +kernel
theorem dX0_floatOf_25 : decode cX0_floatOf 25 = .ok (.imul, 1) := by decide +kernel
theorem dX0_floatOf_26 : decode cX0_floatOf 26 = .ok (.iload_n 3, 1) := by decide +kernel
theorem dX0_floatOf_27 : decode cX0_floatOf 27 = .ok (.ishr, 1) := by decide +kernel
theorem dX0_floatOf_28 : decode cX0_floatOf 28 = .ok (.iadd, 1) := by decide +kernel
theorem dX0_floatOf_29 : decode cX0_floatOf 29 = .ok (.istore_n 2, 1) := by decide +kernel
theorem dX0_floatOf_30 : decode cX0_floatOf 30 = .ok (.iload_n 1, 1) := by decide +kernel
theorem dX0_floatOf_31 : decode cX0_floatOf 31 = .ok (.ifCond .eq 11, 3) := by decide +kernel
theorem dX0_floatOf_34 : decode cX0_floatOf 34 = .ok (.iload_n 2, 1) := by decide +kernel
theorem dX0_floatOf_35 : decode cX0_floatOf 35 = .ok (.sipush 1024, 3) := by decide +kernel
theorem dX0_floatOf_38 : decode cX0_floatOf 38 = .ok (.isub, 1) := by decide +kernel
theorem dX0_floatOf_39 : decode cX0_floatOf 39 = .ok (.goto 4, 3) := by decide +kernel
theorem dX0_floatOf_42 : decode cX0_floatOf 42 = .ok (.iload_n 2, 1) := by decide +kernel
theorem dX0_floatOf_43 : decode cX0_floatOf 43 = .ok (.ireturn, 1) := by decide +kernel
theorem dX1_init_0 : decode cX1_init 0 = .ok (.aload_n 0, 1) := by decide +kernel
theorem dX1_init_1 : decode cX1_init 1 = .ok (.invokespecial 3, 3) := by decide +kernel
theorem dX1_init_4 : decode cX1_init 4 = .ok (.aload_n 0, 1) := by decide +kernel
theorem dX1_init_5 : decode cX1_init 5 = .ok (.bipush 23, 2) := by decide +kernel
theorem dX1_init_7 : decode cX1_init 7 = .ok (.newarray .int, 2) := by decide +kernel
theorem dX1_init_9 : decode cX1_init 9 = .ok (.putfield 11, 3) := by decide +kernel
theorem dX1_init_12 : decode cX1_init 12 = .ok (.return_, 1) := by decide +kernel
theorem dX1_begin_0 : decode cX1_begin 0 = .ok (.iconst 0, 1) := by decide +kernel
theorem dX1_begin_1 : decode cX1_begin 1 = .ok (.istore_n 2, 1) := by decide +kernel
theorem dX1_begin_2 : decode cX1_begin 2 = .ok (.iload_n 2, 1) := by decide +kernel
theorem dX1_begin_3 : decode cX1_begin 3 = .ok (.bipush 23, 2) := by decide +kernel
theorem dX1_begin_5 : decode cX1_begin 5 = .ok (.if_icmp .ge 16, 3) := by decide +kernel
theorem dX1_begin_8 : decode cX1_begin 8 = .ok (.aload_n 0, 1) := by decide +kernel
theorem dX1_begin_9 : decode cX1_begin 9 = .ok (.getfield 11, 3) := by decide +kernel
theorem dX1_begin_12 : decode cX1_begin 12 = .ok (.iload_n 2, 1) := by decide +kernel
theorem dX1_begin_13 : decode cX1_begin 13 = .ok (.iconst 0, 1) := by decide +kernel
theorem dX1_begin_14 : decode cX1_begin 14 = .ok (.iastore, 1) := by decide +kernel
theorem dX1_begin_15 : decode cX1_begin 15 = .ok (.iinc 2 1, 3) := by decide +kernel
theorem dX1_begin_18 : decode cX1_begin 18 = .ok (.goto (-16), 3) := by decide +kernel
theorem dX1_begin_21 : decode cX1_begin 21 = .ok (.aload_n 0, 1) := by decide +kernel
theorem dX1_begin_22 : decode cX1_begin 22 = .ok (.getfield 11, 3) := by decide +kernel
theorem dX1_begin_25 : decode cX1_begin 25 = .ok (.iconst 1, 1) := by decide +kernel
theorem dX1_begin_26 : decode cX1_begin 26 = .ok (.iload_n 1, 1) := by decide +kernel
theorem dX1_begin_27 : decode cX1_begin 27 = .ok (.iastore, 1) := by decide +kernel
theorem dX1_begin_28 : decode cX1_begin 28 = .ok (.return_, 1) := by decide +kernel
theorem dX1_number_0 : decode cX1_number 0 = .ok (.iload_n 1, 1) := by decide +kernel
theorem dX1_number_1 : decode cX1_number 1 = .ok (.ifCond .lt 9, 3) := by decide +kernel
theorem dX1_number_4 : decode cX1_number 4 = .ok (.iload_n 1, 1) := by decide +kernel
theorem dX1_number_5 : decode cX1_number 5 = .ok (.bipush 23, 2) := by decide +kernel
theorem dX1_number_7 : decode cX1_number 7 = .ok (.if_icmp .lt 8, 3) := by decide +kernel
theorem dX1_number_10 : decode cX1_number 10 = .ok (.ldc 15, 2) := by decide +kernel
theorem dX1_number_12 : decode cX1_number 12 = .ok (.goto 9, 3) := by decide +kernel
theorem dX1_number_15 : decode cX1_number 15 = .ok (.aload_n 0, 1) := by decide +kernel
theorem dX1_number_16 : decode cX1_number 16 = .ok (.getfield 11, 3) := by decide +kernel
theorem dX1_number_19 : decode cX1_number 19 = .ok (.iload_n 1, 1) := by decide +kernel
theorem dX1_number_20 : decode cX1_number 20 = .ok (.iaload, 1) := by decide +kernel
theorem dX1_number_21 : decode cX1_number 21 = .ok (.ireturn, 1) := by decide +kernel
theorem dX1_error_0 : decode cX1_error 0 = .ok (.iload_n 1, 1) := by decide +kernel
theorem dX1_error_1 : decode cX1_error 1 = .ok (.aload_n 0, 1) := by decide +kernel
theorem dX1_error_2 : decode cX1_error 2 = .ok (.getfield 11, 3) := by decide +kernel
theorem dX1_error_5 : decode cX1_error 5 = .ok (.iconst 2, 1) := by decide +kernel
theorem dX1_error_6 : decode cX1_error 6 = .ok (.iaload, 1) := by decide +kernel
theorem dX1_error_7 : decode cX1_error 7 = .ok (.isub, 1) := by decide +kernel
theorem dX1_error_8 : decode cX1_error 8 = .ok (.invokestatic 16, 3) := by decide +kernel
theorem dX1_error_11 : decode cX1_error 11 = .ok (.ireturn, 1) := by decide +kernel
theorem dX1_scaled_0 : decode cX1_scaled 0 = .ok (.iload_n 1, 1) := by decide +kernel
theorem dX1_scaled_1 : decode cX1_scaled 1 = .ok (.aload_n 0, 1) := by decide +kernel
theorem dX1_scaled_2 : decode cX1_scaled 2 = .ok (.getfield 11, 3) := by decide +kernel
theorem dX1_scaled_5 : decode cX1_scaled 5 = .ok (.iconst 1, 1) := by decide +kernel
theorem dX1_scaled_6 : decode cX1_scaled 6 = .ok (.iaload, 1) := by decide +kernel
theorem dX1_scaled_7 : decode cX1_scaled 7 = .ok (.imul, 1) := by decide +kernel
theorem dX1_scaled_8 : decode cX1_scaled 8 = .ok (.bipush 12, 2) := by decide +kernel
theorem dX1_scaled_10 : decode cX1_scaled 10 = .ok (.ishr, 1) := by decide +kernel
theorem dX1_scaled_11 : decode cX1_scaled 11 = .ok (.ireturn, 1) := by decide +kernel
theorem dX1_heard_0 : decode cX1_heard 0 = .ok (.aload_n 0, 1) := by decide +kernel
theorem dX1_heard_1 : decode cX1_heard 1 = .ok (.getfield 11, 3) := by decide +kernel
theorem dX1_heard_4 : decode cX1_heard 4 = .ok (.iconst 2, 1) := by decide +kernel
theorem dX1_heard_5 : decode cX1_heard 5 = .ok (.iaload, 1) := by decide +kernel
theorem dX1_heard_6 : decode cX1_heard 6 = .ok (.aload_n 0, 1) := by decide +kernel
theorem dX1_heard_7 : decode cX1_heard 7 = .ok (.iload_n 1, 1) := by decide +kernel
theorem dX1_heard_8 : decode cX1_heard 8 = .ok (.invokevirtual 20, 3) := by decide +kernel
theorem dX1_heard_11 : decode cX1_heard 11 = .ok (.iadd, 1) := by decide +kernel
theorem dX1_heard_12 : decode cX1_heard 12 = .ok (.sipush (-16384), 3) := by decide +kernel
theorem dX1_heard_15 : decode cX1_heard 15 = .ok (.sipush 16383, 3) := by decide +kernel
theorem dX1_heard_18 : decode cX1_heard 18 = .ok (.invokestatic 23, 3) := by decide +kernel
theorem dX1_heard_21 : decode cX1_heard 21 = .ok (.ireturn, 1) := by decide +kernel
theorem dX1_difference_0 : decode cX1_difference 0 = .ok (.aload_n 0, 1) := by decide +kernel
theorem dX1_difference_1 : decode cX1_difference 1 = .ok (.getfield 11, 3) := by decide +kernel
theorem dX1_difference_4 : decode cX1_difference 4 = .ok (.iconst 1, 1) := by decide +kernel
theorem dX1_difference_5 : decode cX1_difference 5 = .ok (.iaload, 1) := by decide +kernel
theorem dX1_difference_6 : decode cX1_difference 6 = .ok (.iload_n 1, 1) := by decide +kernel
theorem dX1_difference_7 : decode cX1_difference 7 = .ok (.imul, 1) := by decide +kernel
theorem dX1_difference_8 : decode cX1_difference 8 = .ok (.bipush 15, 2) := by decide +kernel
theorem dX1_difference_10 : decode cX1_difference 10 = .ok (.ishr, 1) := by decide +kernel
theorem dX1_difference_11 : decode cX1_difference 11 = .ok (.ireturn, 1) := by decide +kernel
theorem dX1_settle_0 : decode cX1_settle 0 = .ok (.aload_n 0, 1) := by decide +kernel
theorem dX1_settle_1 : decode cX1_settle 1 = .ok (.iload_n 1, 1) := by decide +kernel
theorem dX1_settle_2 : decode cX1_settle 2 = .ok (.invokevirtual 20, 3) := by decide +kernel
theorem dX1_settle_5 : decode cX1_settle 5 = .ok (.istore 5, 2) := by decide +kernel
theorem dX1_settle_7 : decode cX1_settle 7 = .ok (.aload_n 0, 1) := by decide +kernel
theorem dX1_settle_8 : decode cX1_settle 8 = .ok (.getfield 11, 3) := by decide +kernel
theorem dX1_settle_11 : decode cX1_settle 11 = .ok (.iconst 2, 1) := by decide +kernel
theorem dX1_settle_12 : decode cX1_settle 12 = .ok (.iaload, 1) := by decide +kernel
theorem dX1_settle_13 : decode cX1_settle 13 = .ok (.iload 5, 2) := by decide +kernel
theorem dX1_settle_15 : decode cX1_settle 15 = .ok (.iadd, 1) := by decide +kernel
theorem dX1_settle_16 : decode cX1_settle 16 = .ok (.invokestatic 16, 3) := by decide +kernel
theorem dX1_settle_19 : decode cX1_settle 19 = .ok (.istore 6, 2) := by decide +kernel
theorem dX1_settle_21 : decode cX1_settle 21 = .ok (.aload_n 0, 1) := by decide +kernel
theorem dX1_settle_22 : decode cX1_settle 22 = .ok (.getfield 11, 3) := by decide +kernel
theorem dX1_settle_25 : decode cX1_settle 25 = .ok (.iconst 4, 1) := by decide +kernel
theorem dX1_settle_26 : decode cX1_settle 26 = .ok (.iaload, 1) := by decide +kernel
theorem dX1_settle_27 : decode cX1_settle 27 = .ok (.iload 5, 2) := by decide +kernel
theorem dX1_settle_29 : decode cX1_settle 29 = .ok (.iadd, 1) := by decide +kernel
theorem dX1_settle_30 : decode cX1_settle 30 = .ok (.invokestatic 16, 3) := by decide +kernel
theorem dX1_settle_33 : decode cX1_settle 33 = .ok (.istore 7, 2) := by decide +kernel
theorem dX1_settle_35 : decode cX1_settle 35 = .ok (.aload_n 0, 1) := by decide +kernel
theorem dX1_settle_36 : decode cX1_settle 36 = .ok (.iload_n 2, 1) := by decide +kernel
theorem dX1_settle_37 : decode cX1_settle 37 = .ok (.iload_n 3, 1) := by decide +kernel
theorem dX1_settle_38 : decode cX1_settle 38 = .ok (.iload 4, 2) := by decide +kernel
theorem dX1_settle_40 : decode cX1_settle 40 = .ok (.invokevirtual 27, 3) := by decide +kernel
theorem dX1_settle_43 : decode cX1_settle 43 = .ok (.aload_n 0, 1) := by decide +kernel
theorem dX1_settle_44 : decode cX1_settle 44 = .ok (.iload 7, 2) := by decide +kernel
theorem dX1_settle_46 : decode cX1_settle 46 = .ok (.invokevirtual 31, 3) := by decide +kernel
theorem dX1_settle_49 : decode cX1_settle 49 = .ok (.aload_n 0, 1) := by decide +kernel
theorem dX1_settle_50 : decode cX1_settle 50 = .ok (.iload 5, 2) := by decide +kernel
theorem dX1_settle_52 : decode cX1_settle 52 = .ok (.invokevirtual 35, 3) := by decide +kernel
theorem dX1_settle_55 : decode cX1_settle 55 = .ok (.aload_n 0, 1) := by decide +kernel
theorem dX1_settle_56 : decode cX1_settle 56 = .ok (.iload 5, 2) := by decide +kernel
theorem dX1_settle_58 : decode cX1_settle 58 = .ok (.iload 6, 2) := by decide +kernel
theorem dX1_settle_60 : decode cX1_settle 60 = .ok (.iload 7, 2) := by decide +kernel
theorem dX1_settle_62 : decode cX1_settle 62 = .ok (.invokevirtual 38, 3) := by decide +kernel
theorem dX1_settle_65 : decode cX1_settle 65 = .ok (.iconst 0, 1) := by decide +kernel
theorem dX1_settle_66 : decode cX1_settle 66 = .ok (.istore 8, 2) := by decide +kernel
theorem dX1_settle_68 : decode cX1_settle 68 = .ok (.iconst 0, 1) := by decide +kernel
theorem dX1_settle_69 : decode cX1_settle 69 = .ok (.istore 9, 2) := by decide +kernel
theorem dX1_settle_71 : decode cX1_settle 71 = .ok (.iload 9, 2) := by decide +kernel
theorem dX1_settle_73 : decode cX1_settle 73 = .ok (.bipush 6, 2) := by decide +kernel
theorem dX1_settle_75 : decode cX1_settle 75 = .ok (.if_icmp .ge 28, 3) := by decide +kernel
theorem dX1_settle_78 : decode cX1_settle 78 = .ok (.iload 8, 2) := by decide +kernel
theorem dX1_settle_80 : decode cX1_settle 80 = .ok (.aload_n 0, 1) := by decide +kernel
theorem dX1_settle_81 : decode cX1_settle 81 = .ok (.bipush 7, 2) := by decide +kernel
theorem dX1_settle_83 : decode cX1_settle 83 = .ok (.iload 9, 2) := by decide +kernel
theorem dX1_settle_85 : decode cX1_settle 85 = .ok (.iadd, 1) := by decide +kernel
theorem dX1_settle_86 : decode cX1_settle 86 = .ok (.bipush 17, 2) := by decide +kernel
theorem dX1_settle_88 : decode cX1_settle 88 = .ok (.iload 9, 2) := by decide +kernel
theorem dX1_settle_90 : decode cX1_settle 90 = .ok (.iadd, 1) := by decide +kernel
theorem dX1_settle_91 : decode cX1_settle 91 = .ok (.invokevirtual 41, 3) := by decide +kernel
theorem dX1_settle_94 : decode cX1_settle 94 = .ok (.iadd, 1) := by decide +kernel
theorem dX1_settle_95 : decode cX1_settle 95 = .ok (.istore 8, 2) := by decide +kernel
theorem dX1_settle_97 : decode cX1_settle 97 = .ok (.iinc 9 1, 3) := by decide +kernel
theorem dX1_settle_100 : decode cX1_settle 100 = .ok (.goto (-29), 3) := by decide +kernel
theorem dX1_settle_103 : decode cX1_settle 103 = .ok (.aload_n 0, 1) := by decide +kernel
theorem dX1_settle_104 : decode cX1_settle 104 = .ok (.getfield 11, 3) := by decide +kernel
theorem dX1_settle_107 : decode cX1_settle 107 = .ok (.iconst 3, 1) := by decide +kernel
theorem dX1_settle_108 : decode cX1_settle 108 = .ok (.aload_n 0, 1) := by decide +kernel
theorem dX1_settle_109 : decode cX1_settle 109 = .ok (.iconst 5, 1) := by decide +kernel
theorem dX1_settle_110 : decode cX1_settle 110 = .ok (.bipush 13, 2) := by decide +kernel
theorem dX1_settle_112 : decode cX1_settle 112 = .ok (.invokevirtual 41, 3) := by decide +kernel
theorem dX1_settle_115 : decode cX1_settle 115 = .ok (.aload_n 0, 1) := by decide +kernel
theorem dX1_settle_116 : decode cX1_settle 116 = .ok (.bipush 6, 2) := by decide +kernel
theorem dX1_settle_118 : decode cX1_settle 118 = .ok (.bipush 14, 2) := by decide +kernel
theorem dX1_settle_120 : decode cX1_settle 120 = .ok (.invokevirtual 41, 3) := by decide +kernel
theorem dX1_settle_123 : decode cX1_settle 123 = .ok (.iadd, 1) := by decide +kernel
theorem dX1_settle_124 : decode cX1_settle 124 = .ok (.invokestatic 16, 3) := by decide +kernel
theorem dX1_settle_127 : decode cX1_settle 127 = .ok (.iastore, 1) := by decide +kernel
theorem dX1_settle_128 : decode cX1_settle 128 = .ok (.aload_n 0, 1) := by decide +kernel
theorem dX1_settle_129 : decode cX1_settle 129 = .ok (.getfield 11, 3) := by decide +kernel
theorem dX1_settle_132 : decode cX1_settle 132 = .ok (.iconst 4, 1) := by decide +kernel
theorem dX1_settle_133 : decode cX1_settle 133 = .ok (.iload 8, 2) := by decide +kernel
theorem dX1_settle_135 : decode cX1_settle 135 = .ok (.invokestatic 16, 3) := by decide +kernel
theorem dX1_settle_138 : decode cX1_settle 138 = .ok (.iastore, 1) := by decide +kernel
theorem dX1_settle_139 : decode cX1_settle 139 = .ok (.aload_n 0, 1) := by decide +kernel
theorem dX1_settle_140 : decode cX1_settle 140 = .ok (.getfield 11, 3) := by decide +kernel
theorem dX1_settle_143 : decode cX1_settle 143 = .ok (.iconst 2, 1) := by decide +kernel
theorem dX1_settle_144 : decode cX1_settle 144 = .ok (.aload_n 0, 1) := by decide +kernel
theorem dX1_settle_145 : decode cX1_settle 145 = .ok (.getfield 11, 3) := by decide +kernel
theorem dX1_settle_148 : decode cX1_settle 148 = .ok (.iconst 3, 1) := by decide +kernel
theorem dX1_settle_149 : decode cX1_settle 149 = .ok (.iaload, 1) := by decide +kernel
theorem dX1_settle_150 : decode cX1_settle 150 = .ok (.aload_n 0, 1) := by decide +kernel
theorem dX1_settle_151 : decode cX1_settle 151 = .ok (.getfield 11, 3) := by decide +kernel
theorem dX1_settle_154 : decode cX1_settle 154 = .ok (.iconst 4, 1) := by decide +kernel
theorem dX1_settle_155 : decode cX1_settle 155 = .ok (.iaload, 1) := by decide +kernel
theorem dX1_settle_156 : decode cX1_settle 156 = .ok (.iadd, 1) := by decide +kernel
theorem dX1_settle_157 : decode cX1_settle 157 = .ok (.invokestatic 16, 3) := by decide +kernel
theorem dX1_settle_160 : decode cX1_settle 160 = .ok (.iastore, 1) := by decide +kernel
theorem dX1_settle_161 : decode cX1_settle 161 = .ok (.return_, 1) := by decide +kernel
theorem dX1_adaptScale_0 : decode cX1_adaptScale 0 = .ok (.bipush 127, 2) := by decide +kernel
theorem dX1_adaptScale_2 : decode cX1_adaptScale 2 = .ok (.aload_n 0, 1) := by decide +kernel
theorem dX1_adaptScale_3 : decode cX1_adaptScale 3 = .ok (.getfield 11, 3) := by decide +kernel
theorem dX1_adaptScale_6 : decode cX1_adaptScale 6 = .ok (.iconst 0, 1) := by decide +kernel
theorem dX1_adaptScale_7 : decode cX1_adaptScale 7 = .ok (.iaload, 1) := by decide +kernel
theorem dX1_adaptScale_8 : decode cX1_adaptScale 8 = .ok (.imul, 1) := by decide +kernel
theorem dX1_adaptScale_9 : decode cX1_adaptScale 9 = .ok (.bipush 7, 2) := by decide +kernel
theorem dX1_adaptScale_11 : decode cX1_adaptScale 11 = .ok (.ishr, 1) := by decide +kernel
theorem dX1_adaptScale_12 : decode cX1_adaptScale 12 = .ok (.iload_n 1, 1) := by decide +kernel
theorem dX1_adaptScale_13 : decode cX1_adaptScale 13 = .ok (.iadd, 1) := by decide +kernel
theorem dX1_adaptScale_14 : decode cX1_adaptScale 14 = .ok (.iconst 0, 1) := by decide +kernel
theorem dX1_adaptScale_15 : decode cX1_adaptScale 15 = .ok (.iload_n 2, 1) := by decide +kernel
theorem dX1_adaptScale_16 : decode cX1_adaptScale 16 = .ok (.invokestatic 23, 3) := by decide +kernel
theorem dX1_adaptScale_19 : decode cX1_adaptScale 19 = .ok (.istore 4, 2) := by decide +kernel
theorem dX1_adaptScale_21 : decode cX1_adaptScale 21 = .ok (.getstatic 45, 3) := by decide +kernel
theorem dX1_adaptScale_24 : decode cX1_adaptScale 24 = .ok (.iload 4, 2) := by decide +kernel
theorem dX1_adaptScale_26 : decode cX1_adaptScale 26 = .ok (.bipush 6, 2) := by decide +kernel
theorem dX1_adaptScale_28 : decode cX1_adaptScale 28 = .ok (.ishr, 1) := by decide +kernel
theorem dX1_adaptScale_29 : decode cX1_adaptScale 29 = .ok (.bipush 31, 2) := by decide +kernel
theorem dX1_adaptScale_31 : decode cX1_adaptScale 31 = .ok (.iand, 1) := by decide +kernel
theorem dX1_adaptScale_32 : decode cX1_adaptScale 32 = .ok (.iaload, 1) := by decide +kernel
theorem dX1_adaptScale_33 : decode cX1_adaptScale 33 = .ok (.istore 5, 2) := by decide +kernel
theorem dX1_adaptScale_35 : decode cX1_adaptScale 35 = .ok (.iload_n 3, 1) := by decide +kernel
theorem dX1_adaptScale_36 : decode cX1_adaptScale 36 = .ok (.iload 4, 2) := by decide +kernel
theorem dX1_adaptScale_38 : decode cX1_adaptScale 38 = .ok (.bipush 11, 2) := by decide +kernel
theorem dX1_adaptScale_40 : decode cX1_adaptScale 40 = .ok (.ishr, 1) := by decide +kernel
theorem dX1_adaptScale_41 : decode cX1_adaptScale 41 = .ok (.isub, 1) := by decide +kernel
theorem dX1_adaptScale_42 : decode cX1_adaptScale 42 = .ok (.istore 6, 2) := by decide +kernel
theorem dX1_adaptScale_44 : decode cX1_adaptScale 44 = .ok (.aload_n 0, 1) := by decide +kernel
theorem dX1_adaptScale_45 : decode cX1_adaptScale 45 = .ok (.getfield 11, 3) := by decide +kernel
theorem dX1_adaptScale_48 : decode cX1_adaptScale 48 = .ok (.iconst 0, 1) := by decide +kernel
theorem dX1_adaptScale_49 : decode cX1_adaptScale 49 = .ok (.iload 4, 2) := by decide +kernel
theorem dX1_adaptScale_51 : decode cX1_adaptScale 51 = .ok (.iastore, 1) := by decide +kernel
theorem dX1_adaptScale_52 : decode cX1_adaptScale 52 = .ok (.aload_n 0, 1) := by decide +kernel
theorem dX1_adaptScale_53 : decode cX1_adaptScale 53 = .ok (.getfield 11, 3) := by decide +kernel
theorem dX1_adaptScale_56 : decode cX1_adaptScale 56 = .ok (.iconst 1, 1) := by decide +kernel
theorem dX1_adaptScale_57 : decode cX1_adaptScale 57 = .ok (.iconst 4, 1) := by decide +kernel
theorem dX1_adaptScale_58 : decode cX1_adaptScale 58 = .ok (.iload 6, 2) := by decide +kernel
theorem dX1_adaptScale_60 : decode cX1_adaptScale 60 = .ok (.ifCond .ge 12, 3) := by decide +kernel
theorem dX1_adaptScale_63 : decode cX1_adaptScale 63 = .ok (.iload 5, 2) := by decide +kernel
theorem dX1_adaptScale_65 : decode cX1_adaptScale 65 = .ok (.iload 6, 2) := by decide +kernel
theorem dX1_adaptScale_67 : decode cX1_adaptScale 67 = .ok (.ineg, 1) := by decide +kernel
theorem dX1_adaptScale_68 : decode cX1_adaptScale 68 = .ok (.ishl, 1) := by decide +kernel
theorem dX1_adaptScale_69 : decode cX1_adaptScale 69 = .ok (.goto 8, 3) := by decide +kernel
theorem dX1_adaptScale_72 : decode cX1_adaptScale 72 = .ok (.iload 5, 2) := by decide +kernel
theorem dX1_adaptScale_74 : decode cX1_adaptScale 74 = .ok (.iload 6, 2) := by decide +kernel
theorem dX1_adaptScale_76 : decode cX1_adaptScale 76 = .ok (.ishr, 1) := by decide +kernel
theorem dX1_adaptScale_77 : decode cX1_adaptScale 77 = .ok (.imul, 1) := by decide +kernel
theorem dX1_adaptScale_78 : decode cX1_adaptScale 78 = .ok (.iastore, 1) := by decide +kernel
theorem dX1_adaptScale_79 : decode cX1_adaptScale 79 = .ok (.return_, 1) := by decide +kernel
theorem dX1_product_0 : decode cX1_product 0 = .ok (.aload_n 0, 1) := by decide +kernel
theorem dX1_product_1 : decode cX1_product 1 = .ok (.getfield 11, 3) := by decide +kernel
theorem dX1_product_4 : decode cX1_product 4 = .ok (.iload_n 1, 1) := by decide +kernel
theorem dX1_product_5 : decode cX1_product 5 = .ok (.iaload, 1) := by decide +kernel
theorem dX1_product_6 : decode cX1_product 6 = .ok (.iconst 2, 1) := by decide +kernel
theorem dX1_product_7 : decode cX1_product 7 = .ok (.aload_n 0, 1) := by decide +kernel
theorem dX1_product_8 : decode cX1_product 8 = .ok (.getfield 11, 3) := by decide +kernel
theorem dX1_product_11 : decode cX1_product 11 = .ok (.iload_n 2, 1) := by decide +kernel
theorem dX1_product_12 : decode cX1_product 12 = .ok (.iaload, 1) := by decide +kernel
theorem dX1_product_13 : decode cX1_product 13 = .ok (.imul, 1) := by decide +kernel
theorem dX1_product_14 : decode cX1_product 14 = .ok (.invokestatic 16, 3) := by decide +kernel
theorem dX1_product_17 : decode cX1_product 17 = .ok (.imul, 1) := by decide +kernel
theorem dX1_product_18 : decode cX1_product 18 = .ok (.bipush 15, 2) := by decide +kernel
theorem dX1_product_20 : decode cX1_product 20 = .ok (.ishr, 1) := by decide +kernel
theorem dX1_product_21 : decode cX1_product 21 = .ok (.ireturn, 1) := by decide +kernel
theorem dX1_adaptPoles_0 : decode cX1_adaptPoles 0 = .ok (.iload_n 1, 1) := by decide +kernel
theorem dX1_adaptPoles_1 : decode cX1_adaptPoles 1 = .ok (.invokestatic 48, 3) := by decide +kernel
theorem dX1_adaptPoles_4 : decode cX1_adaptPoles 4 = .ok (.aload_n 0, 1) := by decide +kernel
theorem dX1_adaptPoles_5 : decode cX1_adaptPoles 5 = .ok (.getfield 11, 3) := by decide +kernel
theorem dX1_adaptPoles_8 : decode cX1_adaptPoles 8 = .ok (.bipush 15, 2) := by decide +kernel
theorem dX1_adaptPoles_10 : decode cX1_adaptPoles 10 = .ok (.iaload, 1) := by decide +kernel
theorem dX1_adaptPoles_11 : decode cX1_adaptPoles 11 = .ok (.invokestatic 48, 3) := by decide +kernel
theorem dX1_adaptPoles_14 : decode cX1_adaptPoles 14 = .ok (.if_icmp .ne 7, 3) := by decide +kernel
theorem dX1_adaptPoles_17 : decode cX1_adaptPoles 17 = .ok (.iconst 1, 1) := by decide +kernel
theorem dX1_adaptPoles_18 : decode cX1_adaptPoles 18 = .ok (.goto 4, 3) := by decide +kernel
theorem dX1_adaptPoles_21 : decode cX1_adaptPoles 21 = .ok (.iconst 0, 1) := by decide +kernel
theorem dX1_adaptPoles_22 : decode cX1_adaptPoles 22 = .ok (.istore_n 2, 1) := by decide +kernel
theorem dX1_adaptPoles_23 : decode cX1_adaptPoles 23 = .ok (.iload_n 1, 1) := by decide +kernel
theorem dX1_adaptPoles_24 : decode cX1_adaptPoles 24 = .ok (.invokestatic 48, 3) := by decide +kernel
theorem dX1_adaptPoles_27 : decode cX1_adaptPoles 27 = .ok (.aload_n 0, 1) := by decide +kernel
theorem dX1_adaptPoles_28 : decode cX1_adaptPoles 28 = .ok (.getfield 11, 3) := by decide +kernel
theorem dX1_adaptPoles_31 : decode cX1_adaptPoles 31 = .ok (.bipush 16, 2) := by decide +kernel
theorem dX1_adaptPoles_33 : decode cX1_adaptPoles 33 = .ok (.iaload, 1) := by decide +kernel
theorem dX1_adaptPoles_34 : decode cX1_adaptPoles 34 = .ok (.invokestatic 48, 3) := by decide +kernel
theorem dX1_adaptPoles_37 : decode cX1_adaptPoles 37 = .ok (.if_icmp .ne 7, 3) := by decide +kernel
theorem dX1_adaptPoles_40 : decode cX1_adaptPoles 40 = .ok (.iconst 1, 1) := by decide +kernel
theorem dX1_adaptPoles_41 : decode cX1_adaptPoles 41 = .ok (.goto 4, 3) := by decide +kernel
theorem dX1_adaptPoles_44 : decode cX1_adaptPoles 44 = .ok (.iconst 0, 1) := by decide +kernel
theorem dX1_adaptPoles_45 : decode cX1_adaptPoles 45 = .ok (.istore_n 3, 1) := by decide +kernel
theorem dX1_adaptPoles_46 : decode cX1_adaptPoles 46 = .ok (.iconst 4, 1) := by decide +kernel
theorem dX1_adaptPoles_47 : decode cX1_adaptPoles 47 = .ok (.aload_n 0, 1) := by decide +kernel
theorem dX1_adaptPoles_48 : decode cX1_adaptPoles 48 = .ok (.getfield 11, 3) := by decide +kernel
theorem dX1_adaptPoles_51 : decode cX1_adaptPoles 51 = .ok (.iconst 5, 1) := by decide +kernel
theorem dX1_adaptPoles_52 : decode cX1_adaptPoles 52 = .ok (.iaload, 1) := by decide +kernel
theorem dX1_adaptPoles_53 : decode cX1_adaptPoles 53 = .ok (.imul, 1) := by decide +kernel
theorem dX1_adaptPoles_54 : decode cX1_adaptPoles 54 = .ok (.invokestatic 16, 3) := by decide +kernel
theorem dX1_adaptPoles_57 : decode cX1_adaptPoles 57 = .ok (.istore 4, 2) := by decide +kernel
theorem dX1_adaptPoles_59 : decode cX1_adaptPoles 59 = .ok (.iload_n 2, 1) := by decide +kernel
theorem dX1_adaptPoles_60 : decode cX1_adaptPoles 60 = .ok (.ifCond .eq 14, 3) := by decide +kernel
theorem dX1_adaptPoles_63 : decode cX1_adaptPoles 63 = .ok (.iload 4, 2) := by decide +kernel
theorem dX1_adaptPoles_65 : decode cX1_adaptPoles 65 = .ok (.ineg, 1) := by decide +kernel
theorem dX1_adaptPoles_66 : decode cX1_adaptPoles 66 = .ok (.sipush 32767, 3) := by decide +kernel
theorem dX1_adaptPoles_69 : decode cX1_adaptPoles 69 = .ok (.invokestatic 51, 3) := by decide +kernel
theorem dX1_adaptPoles_72 : decode cX1_adaptPoles 72 = .ok (.istore 4, 2) := by decide +kernel
theorem dX1_adaptPoles_74 : decode cX1_adaptPoles 74 = .ok (.iload_n 3, 1) := by decide +kernel
theorem dX1_adaptPoles_75 : decode cX1_adaptPoles 75 = .ok (.ifCond .eq 9, 3) := by decide +kernel
theorem dX1_adaptPoles_78 : decode cX1_adaptPoles 78 = .ok (.sipush 128, 3) := by decide +kernel
theorem dX1_adaptPoles_81 : decode cX1_adaptPoles 81 = .ok (.goto 5, 3) := by decide +kernel
theorem dX1_adaptPoles_84 : decode cX1_adaptPoles 84 = .ok (.bipush (-128), 2) := by decide +kernel
theorem dX1_adaptPoles_86 : decode cX1_adaptPoles 86 = .ok (.iload 4, 2) := by decide +kernel
theorem dX1_adaptPoles_88 : decode cX1_adaptPoles 88 = .ok (.bipush 7, 2) := by decide +kernel
theorem dX1_adaptPoles_90 : decode cX1_adaptPoles 90 = .ok (.ishr, 1) := by decide +kernel
theorem dX1_adaptPoles_91 : decode cX1_adaptPoles 91 = .ok (.iadd, 1) := by decide +kernel
theorem dX1_adaptPoles_92 : decode cX1_adaptPoles 92 = .ok (.aload_n 0, 1) := by decide +kernel
theorem dX1_adaptPoles_93 : decode cX1_adaptPoles 93 = .ok (.getfield 11, 3) := by decide +kernel
theorem dX1_adaptPoles_96 : decode cX1_adaptPoles 96 = .ok (.bipush 6, 2) := by decide +kernel
theorem dX1_adaptPoles_98 : decode cX1_adaptPoles 98 = .ok (.iaload, 1) := by decide +kernel
theorem dX1_adaptPoles_99 : decode cX1_adaptPoles 99 = .ok (.sipush 32512, 3) := by decide +kernel
theorem dX1_adaptPoles_102 : decode cX1_adaptPoles 102 = .ok (.imul, 1) := by decide +kernel
theorem dX1_adaptPoles_103 : decode cX1_adaptPoles 103 = .ok (.bipush 15, 2) := by decide +kernel
theorem dX1_adaptPoles_105 : decode cX1_adaptPoles 105 = .ok (.ishr, 1) := by decide +kernel
theorem dX1_adaptPoles_106 : decode cX1_adaptPoles 106 = .ok (.iadd, 1) := by decide +kernel
theorem dX1_adaptPoles_107 : decode cX1_adaptPoles 107 = .ok (.istore 5, 2) := by decide +kernel
theorem dX1_adaptPoles_109 : decode cX1_adaptPoles 109 = .ok (.aload_n 0, 1) := by decide +kernel
theorem dX1_adaptPoles_110 : decode cX1_adaptPoles 110 = .ok (.getfield 11, 3) := by decide +kernel
theorem dX1_adaptPoles_113 : decode cX1_adaptPoles 113 = .ok (.bipush 6, 2) := by decide +kernel
theorem dX1_adaptPoles_115 : decode cX1_adaptPoles 115 = .ok (.iload 5, 2) := by decide +kernel
theorem dX1_adaptPoles_117 : decode cX1_adaptPoles 117 = .ok (.sipush (-12288), 3) := by decide +kernel
theorem dX1_adaptPoles_120 : decode cX1_adaptPoles 120 = .ok (.sipush 12288, 3) := by decide +kernel
theorem dX1_adaptPoles_123 : decode cX1_adaptPoles 123 = .ok (.invokestatic 23, 3) := by decide +kernel
theorem dX1_adaptPoles_126 : decode cX1_adaptPoles 126 = .ok (.iastore, 1) := by decide +kernel
theorem dX1_adaptPoles_127 : decode cX1_adaptPoles 127 = .ok (.iload_n 2, 1) := by decide +kernel
theorem dX1_adaptPoles_128 : decode cX1_adaptPoles 128 = .ok (.ifCond .eq 9, 3) := by decide +kernel
theorem dX1_adaptPoles_131 : decode cX1_adaptPoles 131 = .ok (.sipush 192, 3) := by decide +kernel
theorem dX1_adaptPoles_134 : decode cX1_adaptPoles 134 = .ok (.goto 6, 3) := by decide +kernel
theorem dX1_adaptPoles_137 : decode cX1_adaptPoles 137 = .ok (.sipush (-192), 3) := by decide +kernel
theorem dX1_adaptPoles_140 : decode cX1_adaptPoles 140 = .ok (.aload_n 0, 1) := by decide +kernel
theorem dX1_adaptPoles_141 : decode cX1_adaptPoles 141 = .ok (.getfield 11, 3) := by decide +kernel
theorem dX1_adaptPoles_144 : decode cX1_adaptPoles 144 = .ok (.iconst 5, 1) := by decide +kernel
theorem dX1_adaptPoles_145 : decode cX1_adaptPoles 145 = .ok (.iaload, 1) := by decide +kernel
theorem dX1_adaptPoles_146 : decode cX1_adaptPoles 146 = .ok (.sipush 32640, 3) := by decide +kernel
theorem dX1_adaptPoles_149 : decode cX1_adaptPoles 149 = .ok (.imul, 1) := by decide +kernel
theorem dX1_adaptPoles_150 : decode cX1_adaptPoles 150 = .ok (.bipush 15, 2) := by decide +kernel
theorem dX1_adaptPoles_152 : decode cX1_adaptPoles 152 = .ok (.ishr, 1) := by decide +kernel
theorem dX1_adaptPoles_153 : decode cX1_adaptPoles 153 = .ok (.iadd, 1) := by decide +kernel
theorem dX1_adaptPoles_154 : decode cX1_adaptPoles 154 = .ok (.invokestatic 16, 3) := by decide +kernel
theorem dX1_adaptPoles_157 : decode cX1_adaptPoles 157 = .ok (.istore 6, 2) := by decide +kernel
theorem dX1_adaptPoles_159 : decode cX1_adaptPoles 159 = .ok (.sipush 15360, 3) := by decide +kernel
theorem dX1_adaptPoles_162 : decode cX1_adaptPoles 162 = .ok (.aload_n 0, 1) := by decide +kernel
theorem dX1_adaptPoles_163 : decode cX1_adaptPoles 163 = .ok (.getfield 11, 3) := by decide +kernel
theorem dX1_adaptPoles_166 : decode cX1_adaptPoles 166 = .ok (.bipush 6, 2) := by decide +kernel
theorem dX1_adaptPoles_168 : decode cX1_adaptPoles 168 = .ok (.iaload, 1) := by decide +kernel
theorem dX1_adaptPoles_169 : decode cX1_adaptPoles 169 = .ok (.isub, 1) := by decide +kernel
theorem dX1_adaptPoles_170 : decode cX1_adaptPoles 170 = .ok (.istore 7, 2) := by decide +kernel
theorem dX1_adaptPoles_172 : decode cX1_adaptPoles 172 = .ok (.aload_n 0, 1) := by decide +kernel
theorem dX1_adaptPoles_173 : decode cX1_adaptPoles 173 = .ok (.getfield 11, 3) := by decide +kernel
theorem dX1_adaptPoles_176 : decode cX1_adaptPoles 176 = .ok (.iconst 5, 1) := by decide +kernel
theorem dX1_adaptPoles_177 : decode cX1_adaptPoles 177 = .ok (.iload 6, 2) := by decide +kernel
theorem dX1_adaptPoles_179 : decode cX1_adaptPoles 179 = .ok (.iload 7, 2) := by decide +kernel
theorem dX1_adaptPoles_181 : decode cX1_adaptPoles 181 = .ok (.ineg, 1) := by decide +kernel
theorem dX1_adaptPoles_182 : decode cX1_adaptPoles 182 = .ok (.iload 7, 2) := by decide +kernel
theorem dX1_adaptPoles_184 : decode cX1_adaptPoles 184 = .ok (.invokestatic 23, 3) := by decide +kernel
theorem dX1_adaptPoles_187 : decode cX1_adaptPoles 187 = .ok (.iastore, 1) := by decide +kernel
theorem dX1_adaptPoles_188 : decode cX1_adaptPoles 188 = .ok (.return_, 1) := by decide +kernel
theorem dX1_adaptZeros_0 : decode cX1_adaptZeros 0 = .ok (.iconst 0, 1) := by decide +kernel
theorem dX1_adaptZeros_1 : decode cX1_adaptZeros 1 = .ok (.istore_n 2, 1) := by decide +kernel
theorem dX1_adaptZeros_2 : decode cX1_adaptZeros 2 = .ok (.iload_n 2, 1) := by decide +kernel
theorem dX1_adaptZeros_3 : decode cX1_adaptZeros 3 = .ok (.bipush 6, 2) := by decide +kernel
theorem dX1_adaptZeros_5 : decode cX1_adaptZeros 5 = .ok (.if_icmp .ge 73, 3) := by decide +kernel
theorem dX1_adaptZeros_8 : decode cX1_adaptZeros 8 = .ok (.iload_n 1, 1) := by decide +kernel
theorem dX1_adaptZeros_9 : decode cX1_adaptZeros 9 = .ok (.invokestatic 48, 3) := by decide +kernel
theorem dX1_adaptZeros_12 : decode cX1_adaptZeros 12 = .ok (.aload_n 0, 1) := by decide +kernel
theorem dX1_adaptZeros_13 : decode cX1_adaptZeros 13 = .ok (.getfield 11, 3) := by decide +kernel
theorem dX1_adaptZeros_16 : decode cX1_adaptZeros 16 = .ok (.bipush 17, 2) := by decide +kernel
theorem dX1_adaptZeros_18 : decode cX1_adaptZeros 18 = .ok (.iload_n 2, 1) := by decide +kernel
theorem dX1_adaptZeros_19 : decode cX1_adaptZeros 19 = .ok (.iadd, 1) := by decide +kernel
theorem dX1_adaptZeros_20 : decode cX1_adaptZeros 20 = .ok (.iaload, 1) := by decide +kernel
theorem dX1_adaptZeros_21 : decode cX1_adaptZeros 21 = .ok (.invokestatic 48, 3) := by decide +kernel
theorem dX1_adaptZeros_24 : decode cX1_adaptZeros 24 = .ok (.if_icmp .ne 9, 3) := by decide +kernel
theorem dX1_adaptZeros_27 : decode cX1_adaptZeros 27 = .ok (.sipush 128, 3) := by decide +kernel
theorem dX1_adaptZeros_30 : decode cX1_adaptZeros 30 = .ok (.goto 5, 3) := by decide +kernel
theorem dX1_adaptZeros_33 : decode cX1_adaptZeros 33 = .ok (.bipush (-128), 2) := by decide +kernel
theorem dX1_adaptZeros_35 : decode cX1_adaptZeros 35 = .ok (.istore_n 3, 1) := by decide +kernel
theorem dX1_adaptZeros_36 : decode cX1_adaptZeros 36 = .ok (.iload_n 1, 1) := by decide +kernel
theorem dX1_adaptZeros_37 : decode cX1_adaptZeros 37 = .ok (.ifCond .ne 5, 3) := by decide +kernel
theorem dX1_adaptZeros_40 : decode cX1_adaptZeros 40 = .ok (.iconst 0, 1) := by decide +kernel
theorem dX1_adaptZeros_41 : decode cX1_adaptZeros 41 = .ok (.istore_n 3, 1) := by decide +kernel
theorem dX1_adaptZeros_42 : decode cX1_adaptZeros 42 = .ok (.aload_n 0, 1) := by decide +kernel
theorem dX1_adaptZeros_43 : decode cX1_adaptZeros 43 = .ok (.getfield 11, 3) := by decide +kernel
theorem dX1_adaptZeros_46 : decode cX1_adaptZeros 46 = .ok (.bipush 7, 2) := by decide +kernel
theorem dX1_adaptZeros_48 : decode cX1_adaptZeros 48 = .ok (.iload_n 2, 1) := by decide +kernel
theorem dX1_adaptZeros_49 : decode cX1_adaptZeros 49 = .ok (.iadd, 1) := by decide +kernel
theorem dX1_adaptZeros_50 : decode cX1_adaptZeros 50 = .ok (.iload_n 3, 1) := by decide +kernel
theorem dX1_adaptZeros_51 : decode cX1_adaptZeros 51 = .ok (.aload_n 0, 1) := by decide +kernel
theorem dX1_adaptZeros_52 : decode cX1_adaptZeros 52 = .ok (.getfield 11, 3) := by decide +kernel
theorem dX1_adaptZeros_55 : decode cX1_adaptZeros 55 = .ok (.bipush 7, 2) := by decide +kernel
theorem dX1_adaptZeros_57 : decode cX1_adaptZeros 57 = .ok (.iload_n 2, 1) := by decide +kernel
theorem dX1_adaptZeros_58 : decode cX1_adaptZeros 58 = .ok (.iadd, 1) := by decide +kernel
theorem dX1_adaptZeros_59 : decode cX1_adaptZeros 59 = .ok (.iaload, 1) := by decide +kernel
theorem dX1_adaptZeros_60 : decode cX1_adaptZeros 60 = .ok (.sipush 32640, 3) := by decide +kernel
theorem dX1_adaptZeros_63 : decode cX1_adaptZeros 63 = .ok (.imul, 1) := by decide +kernel
theorem dX1_adaptZeros_64 : decode cX1_adaptZeros 64 = .ok (.bipush 15, 2) := by decide +kernel
theorem dX1_adaptZeros_66 : decode cX1_adaptZeros 66 = .ok (.ishr, 1) := by decide +kernel
theorem dX1_adaptZeros_67 : decode cX1_adaptZeros 67 = .ok (.iadd, 1) := by decide +kernel
theorem dX1_adaptZeros_68 : decode cX1_adaptZeros 68 = .ok (.invokestatic 16, 3) := by decide +kernel
theorem dX1_adaptZeros_71 : decode cX1_adaptZeros 71 = .ok (.iastore, 1) := by decide +kernel
theorem dX1_adaptZeros_72 : decode cX1_adaptZeros 72 = .ok (.iinc 2 1, 3) := by decide +kernel
theorem dX1_adaptZeros_75 : decode cX1_adaptZeros 75 = .ok (.goto (-73), 3) := by decide +kernel
theorem dX1_adaptZeros_78 : decode cX1_adaptZeros 78 = .ok (.return_, 1) := by decide +kernel
theorem dX1_remember_0 : decode cX1_remember 0 = .ok (.iconst 5, 1) := by decide +kernel
theorem dX1_remember_1 : decode cX1_remember 1 = .ok (.istore 4, 2) := by decide +kernel
theorem dX1_remember_3 : decode cX1_remember 3 = .ok (.iload 4, 2) := by decide +kernel
theorem dX1_remember_5 : decode cX1_remember 5 = .ok (.ifCond .le 31, 3) := by decide +kernel
theorem dX1_remember_8 : decode cX1_remember 8 = .ok (.aload_n 0, 1) := by decide +kernel
theorem dX1_remember_9 : decode cX1_remember 9 = .ok (.getfield 11, 3) := by decide +kernel
theorem dX1_remember_12 : decode cX1_remember 12 = .ok (.bipush 17, 2) := by decide +kernel
theorem dX1_remember_14 : decode cX1_remember 14 = .ok (.iload 4, 2) := by decide +kernel
theorem dX1_remember_16 : decode cX1_remember 16 = .ok (.iadd, 1) := by decide +kernel
theorem dX1_remember_17 : decode cX1_remember 17 = .ok (.aload_n 0, 1) := by decide +kernel
theorem dX1_remember_18 : decode cX1_remember 18 = .ok (.getfield 11, 3) := by decide +kernel
theorem dX1_remember_21 : decode cX1_remember 21 = .ok (.bipush 17, 2) := by decide +kernel
theorem dX1_remember_23 : decode cX1_remember 23 = .ok (.iload 4, 2) := by decide +kernel
theorem dX1_remember_25 : decode cX1_remember 25 = .ok (.iadd, 1) := by decide +kernel
theorem dX1_remember_26 : decode cX1_remember 26 = .ok (.iconst 1, 1) := by decide +kernel
theorem dX1_remember_27 : decode cX1_remember 27 = .ok (.isub, 1) := by decide +kernel
theorem dX1_remember_28 : decode cX1_remember 28 = .ok (.iaload, 1) := by decide +kernel
theorem dX1_remember_29 : decode cX1_remember 29 = .ok (.iastore, 1) := by decide +kernel
theorem dX1_remember_30 : decode cX1_remember 30 = .ok (.iinc 4 (-1), 3) := by decide +kernel
theorem dX1_remember_33 : decode cX1_remember 33 = .ok (.goto (-30), 3) := by decide +kernel
theorem dX1_remember_36 : decode cX1_remember 36 = .ok (.aload_n 0, 1) := by decide +kernel
theorem dX1_remember_37 : decode cX1_remember 37 = .ok (.getfield 11, 3) := by decide +kernel
theorem dX1_remember_40 : decode cX1_remember 40 = .ok (.bipush 17, 2) := by decide +kernel
theorem dX1_remember_42 : decode cX1_remember 42 = .ok (.iload_n 1, 1) := by decide +kernel
theorem dX1_remember_43 : decode cX1_remember 43 = .ok (.iastore, 1) := by decide +kernel
theorem dX1_remember_44 : decode cX1_remember 44 = .ok (.aload_n 0, 1) := by decide +kernel
theorem dX1_remember_45 : decode cX1_remember 45 = .ok (.getfield 11, 3) := by decide +kernel
theorem dX1_remember_48 : decode cX1_remember 48 = .ok (.bipush 14, 2) := by decide +kernel
theorem dX1_remember_50 : decode cX1_remember 50 = .ok (.aload_n 0, 1) := by decide +kernel
theorem dX1_remember_51 : decode cX1_remember 51 = .ok (.getfield 11, 3) := by decide +kernel
theorem dX1_remember_54 : decode cX1_remember 54 = .ok (.bipush 13, 2) := by decide +kernel
theorem dX1_remember_56 : decode cX1_remember 56 = .ok (.iaload, 1) := by decide +kernel
theorem dX1_remember_57 : decode cX1_remember 57 = .ok (.iastore, 1) := by decide +kernel
theorem dX1_remember_58 : decode cX1_remember 58 = .ok (.aload_n 0, 1) := by decide +kernel
theorem dX1_remember_59 : decode cX1_remember 59 = .ok (.getfield 11, 3) := by decide +kernel
theorem dX1_remember_62 : decode cX1_remember 62 = .ok (.bipush 13, 2) := by decide +kernel
theorem dX1_remember_64 : decode cX1_remember 64 = .ok (.iload_n 2, 1) := by decide +kernel
theorem dX1_remember_65 : decode cX1_remember 65 = .ok (.iastore, 1) := by decide +kernel
theorem dX1_remember_66 : decode cX1_remember 66 = .ok (.aload_n 0, 1) := by decide +kernel
theorem dX1_remember_67 : decode cX1_remember 67 = .ok (.getfield 11, 3) := by decide +kernel
theorem dX1_remember_70 : decode cX1_remember 70 = .ok (.bipush 16, 2) := by decide +kernel
theorem dX1_remember_72 : decode cX1_remember 72 = .ok (.aload_n 0, 1) := by decide +kernel
theorem dX1_remember_73 : decode cX1_remember 73 = .ok (.getfield 11, 3) := by decide +kernel
theorem dX1_remember_76 : decode cX1_remember 76 = .ok (.bipush 15, 2) := by decide +kernel
theorem dX1_remember_78 : decode cX1_remember 78 = .ok (.iaload, 1) := by decide +kernel
theorem dX1_remember_79 : decode cX1_remember 79 = .ok (.iastore, 1) := by decide +kernel
theorem dX1_remember_80 : decode cX1_remember 80 = .ok (.aload_n 0, 1) := by decide +kernel
theorem dX1_remember_81 : decode cX1_remember 81 = .ok (.getfield 11, 3) := by decide +kernel
theorem dX1_remember_84 : decode cX1_remember 84 = .ok (.bipush 15, 2) := by decide +kernel
theorem dX1_remember_86 : decode cX1_remember 86 = .ok (.iload_n 3, 1) := by decide +kernel
theorem dX1_remember_87 : decode cX1_remember 87 = .ok (.iastore, 1) := by decide +kernel
theorem dX1_remember_88 : decode cX1_remember 88 = .ok (.return_, 1) := by decide +kernel
theorem dX2_init_0 : decode cX2_init 0 = .ok (.aload_n 0, 1) := by decide +kernel
theorem dX2_init_1 : decode cX2_init 1 = .ok (.invokespecial 3, 3) := by decide +kernel
theorem dX2_init_4 : decode cX2_init 4 = .ok (.aload_n 0, 1) := by decide +kernel
theorem dX2_init_5 : decode cX2_init 5 = .ok (.sipush 1000, 3) := by decide +kernel
theorem dX2_init_8 : decode cX2_init 8 = .ok (.newarray .int, 2) := by decide +kernel
theorem dX2_init_10 : decode cX2_init 10 = .ok (.putfield 11, 3) := by decide +kernel
theorem dX2_init_13 : decode cX2_init 13 = .ok (.aload_n 0, 1) := by decide +kernel
theorem dX2_init_14 : decode cX2_init 14 = .ok (.iconst 0, 1) := by decide +kernel
theorem dX2_init_15 : decode cX2_init 15 = .ok (.putfield 15, 3) := by decide +kernel
theorem dX2_init_18 : decode cX2_init 18 = .ok (.return_, 1) := by decide +kernel
theorem dX2_needed_0 : decode cX2_needed 0 = .ok (.iload_n 0, 1) := by decide +kernel
theorem dX2_needed_1 : decode cX2_needed 1 = .ok (.bipush 7, 2) := by decide +kernel
theorem dX2_needed_3 : decode cX2_needed 3 = .ok (.iadd, 1) := by decide +kernel
theorem dX2_needed_4 : decode cX2_needed 4 = .ok (.iconst 3, 1) := by decide +kernel
theorem dX2_needed_5 : decode cX2_needed 5 = .ok (.ishr, 1) := by decide +kernel
theorem dX2_needed_6 : decode cX2_needed 6 = .ok (.ireturn, 1) := by decide +kernel
theorem dX2_byteAt_0 : decode cX2_byteAt 0 = .ok (.iload_n 1, 1) := by decide +kernel
theorem dX2_byteAt_1 : decode cX2_byteAt 1 = .ok (.ifCond .lt 11, 3) := by decide +kernel
theorem dX2_byteAt_4 : decode cX2_byteAt 4 = .ok (.iload_n 1, 1) := by decide +kernel
theorem dX2_byteAt_5 : decode cX2_byteAt 5 = .ok (.aload_n 0, 1) := by decide +kernel
theorem dX2_byteAt_6 : decode cX2_byteAt 6 = .ok (.getfield 15, 3) := by decide +kernel
theorem dX2_byteAt_9 : decode cX2_byteAt 9 = .ok (.if_icmp .lt 8, 3) := by decide +kernel
theorem dX2_byteAt_12 : decode cX2_byteAt 12 = .ok (.ldc 19, 2) := by decide +kernel
theorem dX2_byteAt_14 : decode cX2_byteAt 14 = .ok (.goto 9, 3) := by decide +kernel
theorem dX2_byteAt_17 : decode cX2_byteAt 17 = .ok (.aload_n 0, 1) := by decide +kernel
theorem dX2_byteAt_18 : decode cX2_byteAt 18 = .ok (.getfield 11, 3) := by decide +kernel
theorem dX2_byteAt_21 : decode cX2_byteAt 21 = .ok (.iload_n 1, 1) := by decide +kernel
theorem dX2_byteAt_22 : decode cX2_byteAt 22 = .ok (.iaload, 1) := by decide +kernel
theorem dX2_byteAt_23 : decode cX2_byteAt 23 = .ok (.ireturn, 1) := by decide +kernel
theorem dX2_add_0 : decode cX2_add 0 = .ok (.aload_n 0, 1) := by decide +kernel
theorem dX2_add_1 : decode cX2_add 1 = .ok (.getfield 15, 3) := by decide +kernel
theorem dX2_add_4 : decode cX2_add 4 = .ok (.sipush 1000, 3) := by decide +kernel
theorem dX2_add_7 : decode cX2_add 7 = .ok (.if_icmp .ge 27, 3) := by decide +kernel
theorem dX2_add_10 : decode cX2_add 10 = .ok (.aload_n 0, 1) := by decide +kernel
theorem dX2_add_11 : decode cX2_add 11 = .ok (.getfield 11, 3) := by decide +kernel
theorem dX2_add_14 : decode cX2_add 14 = .ok (.aload_n 0, 1) := by decide +kernel
theorem dX2_add_15 : decode cX2_add 15 = .ok (.getfield 15, 3) := by decide +kernel
theorem dX2_add_18 : decode cX2_add 18 = .ok (.iload_n 1, 1) := by decide +kernel
theorem dX2_add_19 : decode cX2_add 19 = .ok (.sipush 255, 3) := by decide +kernel
theorem dX2_add_22 : decode cX2_add 22 = .ok (.iand, 1) := by decide +kernel
theorem dX2_add_23 : decode cX2_add 23 = .ok (.iastore, 1) := by decide +kernel
theorem dX2_add_24 : decode cX2_add 24 = .ok (.aload_n 0, 1) := by decide +kernel
theorem dX2_add_25 : decode cX2_add 25 = .ok (.dup, 1) := by decide +kernel
theorem dX2_add_26 : decode cX2_add 26 = .ok (.getfield 15, 3) := by decide +kernel
theorem dX2_add_29 : decode cX2_add 29 = .ok (.iconst 1, 1) := by decide +kernel
theorem dX2_add_30 : decode cX2_add 30 = .ok (.iadd, 1) := by decide +kernel
theorem dX2_add_31 : decode cX2_add 31 = .ok (.putfield 15, 3) := by decide +kernel
theorem dX2_add_34 : decode cX2_add 34 = .ok (.return_, 1) := by decide +kernel
theorem dX2_addInt_0 : decode cX2_addInt 0 = .ok (.aload_n 0, 1) := by decide +kernel
theorem dX2_addInt_1 : decode cX2_addInt 1 = .ok (.iload_n 1, 1) := by decide +kernel
theorem dX2_addInt_2 : decode cX2_addInt 2 = .ok (.bipush 24, 2) := by decide +kernel
theorem dX2_addInt_4 : decode cX2_addInt 4 = .ok (.ishr, 1) := by decide +kernel
theorem dX2_addInt_5 : decode cX2_addInt 5 = .ok (.invokevirtual 20, 3) := by decide +kernel
theorem dX2_addInt_8 : decode cX2_addInt 8 = .ok (.aload_n 0, 1) := by decide +kernel
theorem dX2_addInt_9 : decode cX2_addInt 9 = .ok (.iload_n 1, 1) := by decide +kernel
theorem dX2_addInt_10 : decode cX2_addInt 10 = .ok (.bipush 16, 2) := by decide +kernel
theorem dX2_addInt_12 : decode cX2_addInt 12 = .ok (.ishr, 1) := by decide +kernel
theorem dX2_addInt_13 : decode cX2_addInt 13 = .ok (.invokevirtual 20, 3) := by decide +kernel
theorem dX2_addInt_16 : decode cX2_addInt 16 = .ok (.aload_n 0, 1) := by decide +kernel
theorem dX2_addInt_17 : decode cX2_addInt 17 = .ok (.iload_n 1, 1) := by decide +kernel
theorem dX2_addInt_18 : decode cX2_addInt 18 = .ok (.bipush 8, 2) := by decide +kernel
theorem dX2_addInt_20 : decode cX2_addInt 20 = .ok (.ishr, 1) := by decide +kernel
theorem dX2_addInt_21 : decode cX2_addInt 21 = .ok (.invokevirtual 20, 3) := by decide +kernel
theorem dX2_addInt_24 : decode cX2_addInt 24 = .ok (.aload_n 0, 1) := by decide +kernel
theorem dX2_addInt_25 : decode cX2_addInt 25 = .ok (.iload_n 1, 1) := by decide +kernel
theorem dX2_addInt_26 : decode cX2_addInt 26 = .ok (.invokevirtual 20, 3) := by decide +kernel
theorem dX2_addInt_29 : decode cX2_addInt 29 = .ok (.return_, 1) := by decide +kernel
theorem dX2_addSample_0 : decode cX2_addSample 0 = .ok (.aload_n 0, 1) := by decide +kernel
theorem dX2_addSample_1 : decode cX2_addSample 1 = .ok (.iload_n 1, 1) := by decide +kernel
theorem dX2_addSample_2 : decode cX2_addSample 2 = .ok (.bipush 8, 2) := by decide +kernel
theorem dX2_addSample_4 : decode cX2_addSample 4 = .ok (.ishr, 1) := by decide +kernel
theorem dX2_addSample_5 : decode cX2_addSample 5 = .ok (.invokevirtual 20, 3) := by decide +kernel
theorem dX2_addSample_8 : decode cX2_addSample 8 = .ok (.aload_n 0, 1) := by decide +kernel
theorem dX2_addSample_9 : decode cX2_addSample 9 = .ok (.iload_n 1, 1) := by decide +kernel
theorem dX2_addSample_10 : decode cX2_addSample 10 = .ok (.invokevirtual 20, 3) := by decide +kernel
theorem dX2_addSample_13 : decode cX2_addSample 13 = .ok (.return_, 1) := by decide +kernel
theorem dX2_sampleAt_0 : decode cX2_sampleAt 0 = .ok (.aload_n 0, 1) := by decide +kernel
theorem dX2_sampleAt_1 : decode cX2_sampleAt 1 = .ok (.iload_n 1, 1) := by decide +kernel
theorem dX2_sampleAt_2 : decode cX2_sampleAt 2 = .ok (.invokevirtual 24, 3) := by decide +kernel
theorem dX2_sampleAt_5 : decode cX2_sampleAt 5 = .ok (.bipush 8, 2) := by decide +kernel
theorem dX2_sampleAt_7 : decode cX2_sampleAt 7 = .ok (.ishl, 1) := by decide +kernel
theorem dX2_sampleAt_8 : decode cX2_sampleAt 8 = .ok (.aload_n 0, 1) := by decide +kernel
theorem dX2_sampleAt_9 : decode cX2_sampleAt 9 = .ok (.iload_n 1, 1) := by decide +kernel
theorem dX2_sampleAt_10 : decode cX2_sampleAt 10 = .ok (.iconst 1, 1) := by decide +kernel
theorem dX2_sampleAt_11 : decode cX2_sampleAt 11 = .ok (.iadd, 1) := by decide +kernel
theorem dX2_sampleAt_12 : decode cX2_sampleAt 12 = .ok (.invokevirtual 24, 3) := by decide +kernel
theorem dX2_sampleAt_15 : decode cX2_sampleAt 15 = .ok (.ior, 1) := by decide +kernel
theorem dX2_sampleAt_16 : decode cX2_sampleAt 16 = .ok (.invokestatic 28, 3) := by decide +kernel
theorem dX2_sampleAt_19 : decode cX2_sampleAt 19 = .ok (.ireturn, 1) := by decide +kernel
theorem dX2_copyFrom_0 : decode cX2_copyFrom 0 = .ok (.aload_n 0, 1) := by decide +kernel
theorem dX2_copyFrom_1 : decode cX2_copyFrom 1 = .ok (.aload_n 1, 1) := by decide +kernel
theorem dX2_copyFrom_2 : decode cX2_copyFrom 2 = .ok (.getfield 15, 3) := by decide +kernel
theorem dX2_copyFrom_5 : decode cX2_copyFrom 5 = .ok (.putfield 15, 3) := by decide +kernel
theorem dX2_copyFrom_8 : decode cX2_copyFrom 8 = .ok (.iconst 0, 1) := by decide +kernel
theorem dX2_copyFrom_9 : decode cX2_copyFrom 9 = .ok (.istore_n 2, 1) := by decide +kernel
theorem dX2_copyFrom_10 : decode cX2_copyFrom 10 = .ok (.iload_n 2, 1) := by decide +kernel
theorem dX2_copyFrom_11 : decode cX2_copyFrom 11 = .ok (.aload_n 0, 1) := by decide +kernel
theorem dX2_copyFrom_12 : decode cX2_copyFrom 12 = .ok (.getfield 15, 3) := by decide +kernel
theorem dX2_copyFrom_15 : decode cX2_copyFrom 15 = .ok (.if_icmp .ge 21, 3) := by decide +kernel
theorem dX2_copyFrom_18 : decode cX2_copyFrom 18 = .ok (.aload_n 0, 1) := by decide +kernel
theorem dX2_copyFrom_19 : decode cX2_copyFrom 19 = .ok (.getfield 11, 3) := by decide +kernel
theorem dX2_copyFrom_22 : decode cX2_copyFrom 22 = .ok (.iload_n 2, 1) := by decide +kernel
theorem dX2_copyFrom_23 : decode cX2_copyFrom 23 = .ok (.aload_n 1, 1) := by decide +kernel
theorem dX2_copyFrom_24 : decode cX2_copyFrom 24 = .ok (.getfield 11, 3) := by decide +kernel
theorem dX2_copyFrom_27 : decode cX2_copyFrom 27 = .ok (.iload_n 2, 1) := by decide +kernel
theorem dX2_copyFrom_28 : decode cX2_copyFrom 28 = .ok (.iaload, 1) := by decide +kernel
theorem dX2_copyFrom_29 : decode cX2_copyFrom 29 = .ok (.iastore, 1) := by decide +kernel
theorem dX2_copyFrom_30 : decode cX2_copyFrom 30 = .ok (.iinc 2 1, 3) := by decide +kernel
theorem dX2_copyFrom_33 : decode cX2_copyFrom 33 = .ok (.goto (-23), 3) := by decide +kernel
theorem dX2_copyFrom_36 : decode cX2_copyFrom 36 = .ok (.return_, 1) := by decide +kernel
theorem dX2_clearFor_0 : decode cX2_clearFor 0 = .ok (.aload_n 0, 1) := by decide +kernel
theorem dX2_clearFor_1 : decode cX2_clearFor 1 = .ok (.sipush 1000, 3) := by decide +kernel
theorem dX2_clearFor_4 : decode cX2_clearFor 4 = .ok (.iload_n 1, 1) := by decide +kernel
theorem dX2_clearFor_5 : decode cX2_clearFor 5 = .ok (.invokestatic 31, 3) := by decide +kernel
theorem dX2_clearFor_8 : decode cX2_clearFor 8 = .ok (.invokestatic 34, 3) := by decide +kernel
theorem dX2_clearFor_11 : decode cX2_clearFor 11 = .ok (.putfield 15, 3) := by decide +kernel
theorem dX2_clearFor_14 : decode cX2_clearFor 14 = .ok (.iconst 0, 1) := by decide +kernel
theorem dX2_clearFor_15 : decode cX2_clearFor 15 = .ok (.istore_n 2, 1) := by decide +kernel
theorem dX2_clearFor_16 : decode cX2_clearFor 16 = .ok (.iload_n 2, 1) := by decide +kernel
theorem dX2_clearFor_17 : decode cX2_clearFor 17 = .ok (.aload_n 0, 1) := by decide +kernel
theorem dX2_clearFor_18 : decode cX2_clearFor 18 = .ok (.getfield 15, 3) := by decide +kernel
theorem dX2_clearFor_21 : decode cX2_clearFor 21 = .ok (.if_icmp .ge 16, 3) := by decide +kernel
theorem dX2_clearFor_24 : decode cX2_clearFor 24 = .ok (.aload_n 0, 1) := by decide +kernel
theorem dX2_clearFor_25 : decode cX2_clearFor 25 = .ok (.getfield 11, 3) := by decide +kernel
theorem dX2_clearFor_28 : decode cX2_clearFor 28 = .ok (.iload_n 2, 1) := by decide +kernel
theorem dX2_clearFor_29 : decode cX2_clearFor 29 = .ok (.iconst 0, 1) := by decide +kernel
theorem dX2_clearFor_30 : decode cX2_clearFor 30 = .ok (.iastore, 1) := by decide +kernel
theorem dX2_clearFor_31 : decode cX2_clearFor 31 = .ok (.iinc 2 1, 3) := by decide +kernel
theorem dX2_clearFor_34 : decode cX2_clearFor 34 = .ok (.goto (-18), 3) := by decide +kernel
theorem dX2_clearFor_37 : decode cX2_clearFor 37 = .ok (.return_, 1) := by decide +kernel
