theorem dX2_putCode_0 : decode cX2_putCode 0 = .ok (.iconst 0, 1) := by decide +kernel
theorem dX2_putCode_1 : decode cX2_putCode 1 = .ok (.istore 5, 2) := by decide +kernel
theorem dX2_putCode_3 : decode cX2_putCode 3 = .ok (.iload 5, 2) := by decide +kernel
theorem dX2_putCode_5 : decode cX2_putCode 5 = .ok (.iload_n 2, 1) := by decide +kernel
theorem dX2_putCode_6 : decode cX2_putCode 6 = .ok (.if_icmp .ge 70, 3) := by decide +kernel
theorem dX2_putCode_9 : decode cX2_putCode 9 = .ok (.iload_n 1, 1) := by decide +kernel
theorem dX2_putCode_10 : decode cX2_putCode 10 = .ok (.iload_n 2, 1) := by decide +kernel
theorem dX2_putCode_11 : decode cX2_putCode 11 = .ok (.imul, 1) := by decide +kernel
theorem dX2_putCode_12 : decode cX2_putCode 12 = .ok (.iload 5, 2) := by decide +kernel
theorem dX2_putCode_14 : decode cX2_putCode 14 = .ok (.iadd, 1) := by decide +kernel
theorem dX2_putCode_15 : decode cX2_putCode 15 = .ok (.istore 6, 2) := by decide +kernel
theorem dX2_putCode_17 : decode cX2_putCode 17 = .ok (.iload 6, 2) := by decide +kernel
theorem dX2_putCode_19 : decode cX2_putCode 19 = .ok (.iconst 3, 1) := by decide +kernel
theorem dX2_putCode_20 : decode cX2_putCode 20 = .ok (.ishr, 1) := by decide +kernel
theorem dX2_putCode_21 : decode cX2_putCode 21 = .ok (.istore 7, 2) := by decide +kernel
theorem dX2_putCode_23 : decode cX2_putCode 23 = .ok (.iload 4, 2) := by decide +kernel
theorem dX2_putCode_25 : decode cX2_putCode 25 = .ok (.iload 5, 2) := by decide +kernel
theorem dX2_putCode_27 : decode cX2_putCode 27 = .ok (.iload_n 2, 1) := by decide +kernel
theorem dX2_putCode_28 : decode cX2_putCode 28 = .ok (.iload_n 3, 1) := by decide +kernel
theorem dX2_putCode_29 : decode cX2_putCode 29 = .ok (.invokestatic 40, 3) := by decide +kernel
theorem dX2_putCode_32 : decode cX2_putCode 32 = .ok (.ishr, 1) := by decide +kernel
theorem dX2_putCode_33 : decode cX2_putCode 33 = .ok (.iconst 1, 1) := by decide +kernel
theorem dX2_putCode_34 : decode cX2_putCode 34 = .ok (.iand, 1) := by decide +kernel
theorem dX2_putCode_35 : decode cX2_putCode 35 = .ok (.istore 8, 2) := by decide +kernel
theorem dX2_putCode_37 : decode cX2_putCode 37 = .ok (.iload 7, 2) := by decide +kernel
theorem dX2_putCode_39 : decode cX2_putCode 39 = .ok (.ifCond .lt 31, 3) := by decide +kernel
theorem dX2_putCode_42 : decode cX2_putCode 42 = .ok (.iload 7, 2) := by decide +kernel
theorem dX2_putCode_44 : decode cX2_putCode 44 = .ok (.aload_n 0, 1) := by decide +kernel
theorem dX2_putCode_45 : decode cX2_putCode 45 = .ok (.getfield 15, 3) := by decide +kernel
theorem dX2_putCode_48 : decode cX2_putCode 48 = .ok (.if_icmp .ge 22, 3) := by decide +kernel
theorem dX2_putCode_51 : decode cX2_putCode 51 = .ok (.aload_n 0, 1) := by decide +kernel
theorem dX2_putCode_52 : decode cX2_putCode 52 = .ok (.getfield 11, 3) := by decide +kernel
theorem dX2_putCode_55 : decode cX2_putCode 55 = .ok (.iload 7, 2) := by decide +kernel
theorem dX2_putCode_57 : decode cX2_putCode 57 = .ok (.dup2, 1) := by decide +kernel
theorem dX2_putCode_58 : decode cX2_putCode 58 = .ok (.iaload, 1) := by decide +kernel
theorem dX2_putCode_59 : decode cX2_putCode 59 = .ok (.iload 8, 2) := by decide +kernel
theorem dX2_putCode_61 : decode cX2_putCode 61 = .ok (.iload 6, 2) := by decide +kernel
theorem dX2_putCode_63 : decode cX2_putCode 63 = .ok (.iload_n 3, 1) := by decide +kernel
theorem dX2_putCode_64 : decode cX2_putCode 64 = .ok (.invokestatic 44, 3) := by decide +kernel
theorem dX2_putCode_67 : decode cX2_putCode 67 = .ok (.ishl, 1) := by decide +kernel
theorem dX2_putCode_68 : decode cX2_putCode 68 = .ok (.ior, 1) := by decide +kernel
theorem dX2_putCode_69 : decode cX2_putCode 69 = .ok (.iastore, 1) := by decide +kernel
theorem dX2_putCode_70 : decode cX2_putCode 70 = .ok (.iinc 5 1, 3) := by decide +kernel
theorem dX2_putCode_73 : decode cX2_putCode 73 = .ok (.goto (-70), 3) := by decide +kernel
theorem dX2_putCode_76 : decode cX2_putCode 76 = .ok (.return_, 1) := by decide +kernel
theorem dX2_codeAt_0 : decode cX2_codeAt 0 = .ok (.iconst 0, 1) := by decide +kernel
theorem dX2_codeAt_1 : decode cX2_codeAt 1 = .ok (.istore 4, 2) := by decide +kernel
theorem dX2_codeAt_3 : decode cX2_codeAt 3 = .ok (.iconst 0, 1) := by decide +kernel
theorem dX2_codeAt_4 : decode cX2_codeAt 4 = .ok (.istore 5, 2) := by decide +kernel
theorem dX2_codeAt_6 : decode cX2_codeAt 6 = .ok (.iload 5, 2) := by decide +kernel
theorem dX2_codeAt_8 : decode cX2_codeAt 8 = .ok (.iload_n 2, 1) := by decide +kernel
theorem dX2_codeAt_9 : decode cX2_codeAt 9 = .ok (.if_icmp .ge 51, 3) := by decide +kernel
theorem dX2_codeAt_12 : decode cX2_codeAt 12 = .ok (.iload_n 1, 1) := by decide +kernel
theorem dX2_codeAt_13 : decode cX2_codeAt 13 = .ok (.iload_n 2, 1) := by decide +kernel
theorem dX2_codeAt_14 : decode cX2_codeAt 14 = .ok (.imul, 1) := by decide +kernel
theorem dX2_codeAt_15 : decode cX2_codeAt 15 = .ok (.iload 5, 2) := by decide +kernel
theorem dX2_codeAt_17 : decode cX2_codeAt 17 = .ok (.iadd, 1) := by decide +kernel
theorem dX2_codeAt_18 : decode cX2_codeAt 18 = .ok (.istore 6, 2) := by decide +kernel
theorem dX2_codeAt_20 : decode cX2_codeAt 20 = .ok (.aload_n 0, 1) := by decide +kernel
theorem dX2_codeAt_21 : decode cX2_codeAt 21 = .ok (.iload 6, 2) := by decide +kernel
theorem dX2_codeAt_23 : decode cX2_codeAt 23 = .ok (.iconst 3, 1) := by decide +kernel
theorem dX2_codeAt_24 : decode cX2_codeAt 24 = .ok (.ishr, 1) := by decide +kernel
theorem dX2_codeAt_25 : decode cX2_codeAt 25 = .ok (.invokevirtual 24, 3) := by decide +kernel
theorem dX2_codeAt_28 : decode cX2_codeAt 28 = .ok (.iload 6, 2) := by decide +kernel
theorem dX2_codeAt_30 : decode cX2_codeAt 30 = .ok (.iload_n 3, 1) := by decide +kernel
theorem dX2_codeAt_31 : decode cX2_codeAt 31 = .ok (.invokestatic 44, 3) := by decide +kernel
theorem dX2_codeAt_34 : decode cX2_codeAt 34 = .ok (.ishr, 1) := by decide +kernel
theorem dX2_codeAt_35 : decode cX2_codeAt 35 = .ok (.iconst 1, 1) := by decide +kernel
theorem dX2_codeAt_36 : decode cX2_codeAt 36 = .ok (.iand, 1) := by decide +kernel
theorem dX2_codeAt_37 : decode cX2_codeAt 37 = .ok (.istore 7, 2) := by decide +kernel
theorem dX2_codeAt_39 : decode cX2_codeAt 39 = .ok (.iload 4, 2) := by decide +kernel
theorem dX2_codeAt_41 : decode cX2_codeAt 41 = .ok (.iload 7, 2) := by decide +kernel
theorem dX2_codeAt_43 : decode cX2_codeAt 43 = .ok (.iload 5, 2) := by decide +kernel
theorem dX2_codeAt_45 : decode cX2_codeAt 45 = .ok (.iload_n 2, 1) := by decide +kernel
theorem dX2_codeAt_46 : decode cX2_codeAt 46 = .ok (.iload_n 3, 1) := by decide +kernel
theorem dX2_codeAt_47 : decode cX2_codeAt 47 = .ok (.invokestatic 40, 3) := by decide +kernel
theorem dX2_codeAt_50 : decode cX2_codeAt 50 = .ok (.ishl, 1) := by decide +kernel
theorem dX2_codeAt_51 : decode cX2_codeAt 51 = .ok (.ior, 1) := by decide +kernel
theorem dX2_codeAt_52 : decode cX2_codeAt 52 = .ok (.istore 4, 2) := by decide +kernel
theorem dX2_codeAt_54 : decode cX2_codeAt 54 = .ok (.iinc 5 1, 3) := by decide +kernel
theorem dX2_codeAt_57 : decode cX2_codeAt 57 = .ok (.goto (-51), 3) := by decide +kernel
theorem dX2_codeAt_60 : decode cX2_codeAt 60 = .ok (.iload 4, 2) := by decide +kernel
theorem dX2_codeAt_62 : decode cX2_codeAt 62 = .ok (.ireturn, 1) := by decide +kernel
theorem dX2_codeBit_0 : decode cX2_codeBit 0 = .ok (.iload_n 2, 1) := by decide +kernel
theorem dX2_codeBit_1 : decode cX2_codeBit 1 = .ok (.ifCond .eq 11, 3) := by decide +kernel
theorem dX2_codeBit_4 : decode cX2_codeBit 4 = .ok (.iload_n 1, 1) := by decide +kernel
theorem dX2_codeBit_5 : decode cX2_codeBit 5 = .ok (.iconst 1, 1) := by decide +kernel
theorem dX2_codeBit_6 : decode cX2_codeBit 6 = .ok (.isub, 1) := by decide +kernel
theorem dX2_codeBit_7 : decode cX2_codeBit 7 = .ok (.iload_n 0, 1) := by decide +kernel
theorem dX2_codeBit_8 : decode cX2_codeBit 8 = .ok (.isub, 1) := by decide +kernel
theorem dX2_codeBit_9 : decode cX2_codeBit 9 = .ok (.goto 4, 3) := by decide +kernel
theorem dX2_codeBit_12 : decode cX2_codeBit 12 = .ok (.iload_n 0, 1) := by decide +kernel
theorem dX2_codeBit_13 : decode cX2_codeBit 13 = .ok (.ireturn, 1) := by decide +kernel
theorem dX2_byteBit_0 : decode cX2_byteBit 0 = .ok (.iload_n 1, 1) := by decide +kernel
theorem dX2_byteBit_1 : decode cX2_byteBit 1 = .ok (.ifCond .eq 13, 3) := by decide +kernel
theorem dX2_byteBit_4 : decode cX2_byteBit 4 = .ok (.bipush 7, 2) := by decide +kernel
theorem dX2_byteBit_6 : decode cX2_byteBit 6 = .ok (.iload_n 0, 1) := by decide +kernel
theorem dX2_byteBit_7 : decode cX2_byteBit 7 = .ok (.bipush 7, 2) := by decide +kernel
theorem dX2_byteBit_9 : decode cX2_byteBit 9 = .ok (.iand, 1) := by decide +kernel
theorem dX2_byteBit_10 : decode cX2_byteBit 10 = .ok (.isub, 1) := by decide +kernel
theorem dX2_byteBit_11 : decode cX2_byteBit 11 = .ok (.goto 7, 3) := by decide +kernel
theorem dX2_byteBit_14 : decode cX2_byteBit 14 = .ok (.iload_n 0, 1) := by decide +kernel
theorem dX2_byteBit_15 : decode cX2_byteBit 15 = .ok (.bipush 7, 2) := by decide +kernel
theorem dX2_byteBit_17 : decode cX2_byteBit 17 = .ok (.iand, 1) := by decide +kernel
theorem dX2_byteBit_18 : decode cX2_byteBit 18 = .ok (.ireturn, 1) := by decide +kernel
theorem dX3_muCode_0 : decode cX3_muCode 0 = .ok (.iload_n 0, 1) := by decide +kernel
theorem dX3_muCode_1 : decode cX3_muCode 1 = .ok (.iconst 2, 1) := by decide +kernel
theorem dX3_muCode_2 : decode cX3_muCode 2 = .ok (.ishr, 1) := by decide +kernel
theorem dX3_muCode_3 : decode cX3_muCode 3 = .ok (.istore_n 1, 1) := by decide +kernel
theorem dX3_muCode_4 : decode cX3_muCode 4 = .ok (.iload_n 1, 1) := by decide +kernel
theorem dX3_muCode_5 : decode cX3_muCode 5 = .ok (.invokestatic 9, 3) := by decide +kernel
theorem dX3_muCode_8 : decode cX3_muCode 8 = .ok (.sipush 8158, 3) := by decide +kernel
theorem dX3_muCode_11 : decode cX3_muCode 11 = .ok (.invokestatic 17, 3) := by decide +kernel
theorem dX3_muCode_14 : decode cX3_muCode 14 = .ok (.bipush 33, 2) := by decide +kernel
theorem dX3_muCode_16 : decode cX3_muCode 16 = .ok (.iadd, 1) := by decide +kernel
theorem dX3_muCode_17 : decode cX3_muCode 17 = .ok (.istore_n 2, 1) := by decide +kernel
theorem dX3_muCode_18 : decode cX3_muCode 18 = .ok (.iload_n 2, 1) := by decide +kernel
theorem dX3_muCode_19 : decode cX3_muCode 19 = .ok (.bipush 64, 2) := by decide +kernel
theorem dX3_muCode_21 : decode cX3_muCode 21 = .ok (.invokestatic 21, 3) := by decide +kernel
theorem dX3_muCode_24 : decode cX3_muCode 24 = .ok (.istore_n 3, 1) := by decide +kernel
theorem dX3_muCode_25 : decode cX3_muCode 25 = .ok (.iload_n 1, 1) := by decide +kernel
theorem dX3_muCode_26 : decode cX3_muCode 26 = .ok (.ifCond .ge 8, 3) := by decide +kernel
theorem dX3_muCode_29 : decode cX3_muCode 29 = .ok (.bipush 127, 2) := by decide +kernel
theorem dX3_muCode_31 : decode cX3_muCode 31 = .ok (.goto 6, 3) := by decide +kernel
theorem dX3_muCode_34 : decode cX3_muCode 34 = .ok (.sipush 255, 3) := by decide +kernel
theorem dX3_muCode_37 : decode cX3_muCode 37 = .ok (.istore 4, 2) := by decide +kernel
theorem dX3_muCode_39 : decode cX3_muCode 39 = .ok (.iload 4, 2) := by decide +kernel
theorem dX3_muCode_41 : decode cX3_muCode 41 = .ok (.bipush 16, 2) := by decide +kernel
theorem dX3_muCode_43 : decode cX3_muCode 43 = .ok (.iload_n 3, 1) := by decide +kernel
theorem dX3_muCode_44 : decode cX3_muCode 44 = .ok (.imul, 1) := by decide +kernel
theorem dX3_muCode_45 : decode cX3_muCode 45 = .ok (.iload_n 2, 1) := by decide +kernel
theorem dX3_muCode_46 : decode cX3_muCode 46 = .ok (.iload_n 3, 1) := by decide +kernel
theorem dX3_muCode_47 : decode cX3_muCode 47 = .ok (.iconst 1, 1) := by decide +kernel
theorem dX3_muCode_48 : decode cX3_muCode 48 = .ok (.iadd, 1) := by decide +kernel
theorem dX3_muCode_49 : decode cX3_muCode 49 = .ok (.ishr, 1) := by decide +kernel
theorem dX3_muCode_50 : decode cX3_muCode 50 = .ok (.bipush 15, 2) := by decide +kernel
theorem dX3_muCode_52 : decode cX3_muCode 52 = .ok (.iand, 1) := by decide +kernel
theorem dX3_muCode_53 : decode cX3_muCode 53 = .ok (.iadd, 1) := by decide +kernel
theorem dX3_muCode_54 : decode cX3_muCode 54 = .ok (.isub, 1) := by decide +kernel
theorem dX3_muCode_55 : decode cX3_muCode 55 = .ok (.ireturn, 1) := by decide +kernel
theorem dX3_muSample_0 : decode cX3_muSample 0 = .ok (.sipush 255, 3) := by decide +kernel
theorem dX3_muSample_3 : decode cX3_muSample 3 = .ok (.iload_n 0, 1) := by decide +kernel
theorem dX3_muSample_4 : decode cX3_muSample 4 = .ok (.isub, 1) := by decide +kernel
theorem dX3_muSample_5 : decode cX3_muSample 5 = .ok (.istore_n 1, 1) := by decide +kernel
theorem dX3_muSample_6 : decode cX3_muSample 6 = .ok (.bipush 8, 2) := by decide +kernel
theorem dX3_muSample_8 : decode cX3_muSample 8 = .ok (.iload_n 1, 1) := by decide +kernel
theorem dX3_muSample_9 : decode cX3_muSample 9 = .ok (.bipush 15, 2) := by decide +kernel
theorem dX3_muSample_11 : decode cX3_muSample 11 = .ok (.iand, 1) := by decide +kernel
theorem dX3_muSample_12 : decode cX3_muSample 12 = .ok (.imul, 1) := by decide +kernel
theorem dX3_muSample_13 : decode cX3_muSample 13 = .ok (.sipush 132, 3) := by decide +kernel
theorem dX3_muSample_16 : decode cX3_muSample 16 = .ok (.iadd, 1) := by decide +kernel
theorem dX3_muSample_17 : decode cX3_muSample 17 = .ok (.iload_n 1, 1) := by decide +kernel
theorem dX3_muSample_18 : decode cX3_muSample 18 = .ok (.iconst 4, 1) := by decide +kernel
theorem dX3_muSample_19 : decode cX3_muSample 19 = .ok (.ishr, 1) := by decide +kernel
theorem dX3_muSample_20 : decode cX3_muSample 20 = .ok (.bipush 7, 2) := by decide +kernel
theorem dX3_muSample_22 : decode cX3_muSample 22 = .ok (.iand, 1) := by decide +kernel
theorem dX3_muSample_23 : decode cX3_muSample 23 = .ok (.ishl, 1) := by decide +kernel
theorem dX3_muSample_24 : decode cX3_muSample 24 = .ok (.sipush 132, 3) := by decide +kernel
theorem dX3_muSample_27 : decode cX3_muSample 27 = .ok (.isub, 1) := by decide +kernel
theorem dX3_muSample_28 : decode cX3_muSample 28 = .ok (.istore_n 2, 1) := by decide +kernel
theorem dX3_muSample_29 : decode cX3_muSample 29 = .ok (.iload_n 1, 1) := by decide +kernel
theorem dX3_muSample_30 : decode cX3_muSample 30 = .ok (.sipush 128, 3) := by decide +kernel
theorem dX3_muSample_33 : decode cX3_muSample 33 = .ok (.iand, 1) := by decide +kernel
theorem dX3_muSample_34 : decode cX3_muSample 34 = .ok (.ifCond .ne 7, 3) := by decide +kernel
theorem dX3_muSample_37 : decode cX3_muSample 37 = .ok (.iload_n 2, 1) := by decide +kernel
theorem dX3_muSample_38 : decode cX3_muSample 38 = .ok (.goto 5, 3) := by decide +kernel
theorem dX3_muSample_41 : decode cX3_muSample 41 = .ok (.iload_n 2, 1) := by decide +kernel
theorem dX3_muSample_42 : decode cX3_muSample 42 = .ok (.ineg, 1) := by decide +kernel
theorem dX3_muSample_43 : decode cX3_muSample 43 = .ok (.ireturn, 1) := by decide +kernel
theorem dX3_aCode_0 : decode cX3_aCode 0 = .ok (.iload_n 0, 1) := by decide +kernel
theorem dX3_aCode_1 : decode cX3_aCode 1 = .ok (.iconst 3, 1) := by decide +kernel
theorem dX3_aCode_2 : decode cX3_aCode 2 = .ok (.ishr, 1) := by decide +kernel
theorem dX3_aCode_3 : decode cX3_aCode 3 = .ok (.istore_n 1, 1) := by decide +kernel
theorem dX3_aCode_4 : decode cX3_aCode 4 = .ok (.iload_n 1, 1) := by decide +kernel
theorem dX3_aCode_5 : decode cX3_aCode 5 = .ok (.ifCond .ge 10, 3) := by decide +kernel
theorem dX3_aCode_8 : decode cX3_aCode 8 = .ok (.iload_n 1, 1) := by decide +kernel
theorem dX3_aCode_9 : decode cX3_aCode 9 = .ok (.ineg, 1) := by decide +kernel
theorem dX3_aCode_10 : decode cX3_aCode 10 = .ok (.iconst 1, 1) := by decide +kernel
theorem dX3_aCode_11 : decode cX3_aCode 11 = .ok (.isub, 1) := by decide +kernel
theorem dX3_aCode_12 : decode cX3_aCode 12 = .ok (.goto 4, 3) := by decide +kernel
theorem dX3_aCode_15 : decode cX3_aCode 15 = .ok (.iload_n 1, 1) := by decide +kernel
theorem dX3_aCode_16 : decode cX3_aCode 16 = .ok (.istore_n 2, 1) := by decide +kernel
theorem dX3_aCode_17 : decode cX3_aCode 17 = .ok (.iload_n 2, 1) := by decide +kernel
theorem dX3_aCode_18 : decode cX3_aCode 18 = .ok (.bipush 32, 2) := by decide +kernel
theorem dX3_aCode_20 : decode cX3_aCode 20 = .ok (.invokestatic 21, 3) := by decide +kernel
theorem dX3_aCode_23 : decode cX3_aCode 23 = .ok (.istore_n 3, 1) := by decide +kernel
theorem dX3_aCode_24 : decode cX3_aCode 24 = .ok (.bipush 16, 2) := by decide +kernel
theorem dX3_aCode_26 : decode cX3_aCode 26 = .ok (.iload_n 3, 1) := by decide +kernel
theorem dX3_aCode_27 : decode cX3_aCode 27 = .ok (.imul, 1) := by decide +kernel
theorem dX3_aCode_28 : decode cX3_aCode 28 = .ok (.iload_n 2, 1) := by decide +kernel
theorem dX3_aCode_29 : decode cX3_aCode 29 = .ok (.iload_n 3, 1) := by decide +kernel
theorem dX3_aCode_30 : decode cX3_aCode 30 = .ok (.iconst 1, 1) := by decide +kernel
theorem dX3_aCode_31 : decode cX3_aCode 31 = .ok (.invokestatic 24, 3) := by decide +kernel
theorem dX3_aCode_34 : decode cX3_aCode 34 = .ok (.ishr, 1) := by decide +kernel
theorem dX3_aCode_35 : decode cX3_aCode 35 = .ok (.bipush 15, 2) := by decide +kernel
theorem dX3_aCode_37 : decode cX3_aCode 37 = .ok (.iand, 1) := by decide +kernel
theorem dX3_aCode_38 : decode cX3_aCode 38 = .ok (.iadd, 1) := by decide +kernel
theorem dX3_aCode_39 : decode cX3_aCode 39 = .ok (.istore 4, 2) := by decide +kernel
theorem dX3_aCode_41 : decode cX3_aCode 41 = .ok (.iload 4, 2) := by decide +kernel
theorem dX3_aCode_43 : decode cX3_aCode 43 = .ok (.iload_n 0, 1) := by decide +kernel
theorem dX3_aCode_44 : decode cX3_aCode 44 = .ok (.ifCond .ge 8, 3) := by decide +kernel
theorem dX3_aCode_47 : decode cX3_aCode 47 = .ok (.bipush 85, 2) := by decide +kernel
theorem dX3_aCode_49 : decode cX3_aCode 49 = .ok (.goto 6, 3) := by decide +kernel
theorem dX3_aCode_52 : decode cX3_aCode 52 = .ok (.sipush 213, 3) := by decide +kernel
theorem dX3_aCode_55 : decode cX3_aCode 55 = .ok (.ixor, 1) := by decide +kernel
theorem dX3_aCode_56 : decode cX3_aCode 56 = .ok (.ireturn, 1) := by decide +kernel
theorem dX3_aSample_0 : decode cX3_aSample 0 = .ok (.iload_n 0, 1) := by decide +kernel
theorem dX3_aSample_1 : decode cX3_aSample 1 = .ok (.bipush 85, 2) := by decide +kernel
theorem dX3_aSample_3 : decode cX3_aSample 3 = .ok (.ixor, 1) := by decide +kernel
theorem dX3_aSample_4 : decode cX3_aSample 4 = .ok (.istore_n 1, 1) := by decide +kernel
theorem dX3_aSample_5 : decode cX3_aSample 5 = .ok (.bipush 16, 2) := by decide +kernel
theorem dX3_aSample_7 : decode cX3_aSample 7 = .ok (.iload_n 1, 1) := by decide +kernel
theorem dX3_aSample_8 : decode cX3_aSample 8 = .ok (.bipush 15, 2) := by decide +kernel
theorem dX3_aSample_10 : decode cX3_aSample 10 = .ok (.iand, 1) := by decide +kernel
theorem dX3_aSample_11 : decode cX3_aSample 11 = .ok (.imul, 1) := by decide +kernel
theorem dX3_aSample_12 : decode cX3_aSample 12 = .ok (.bipush 8, 2) := by decide +kernel
theorem dX3_aSample_14 : decode cX3_aSample 14 = .ok (.iadd, 1) := by decide +kernel
theorem dX3_aSample_15 : decode cX3_aSample 15 = .ok (.istore_n 2, 1) := by decide +kernel
theorem dX3_aSample_16 : decode cX3_aSample 16 = .ok (.iload_n 1, 1) := by decide +kernel
theorem dX3_aSample_17 : decode cX3_aSample 17 = .ok (.iconst 4, 1) := by decide +kernel
theorem dX3_aSample_18 : decode cX3_aSample 18 = .ok (.ishr, 1) := by decide +kernel
theorem dX3_aSample_19 : decode cX3_aSample 19 = .ok (.bipush 7, 2) := by decide +kernel
theorem dX3_aSample_21 : decode cX3_aSample 21 = .ok (.iand, 1) := by decide +kernel
theorem dX3_aSample_22 : decode cX3_aSample 22 = .ok (.istore_n 3, 1) := by decide +kernel
theorem dX3_aSample_23 : decode cX3_aSample 23 = .ok (.iload_n 3, 1) := by decide +kernel
theorem dX3_aSample_24 : decode cX3_aSample 24 = .ok (.ifCond .le 13, 3) := by decide +kernel
theorem dX3_aSample_27 : decode cX3_aSample 27 = .ok (.iload_n 2, 1) := by decide +kernel
theorem dX3_aSample_28 : decode cX3_aSample 28 = .ok (.sipush 256, 3) := by decide +kernel
theorem dX3_aSample_31 : decode cX3_aSample 31 = .ok (.iadd, 1) := by decide +kernel
theorem dX3_aSample_32 : decode cX3_aSample 32 = .ok (.iload_n 3, 1) := by decide +kernel
theorem dX3_aSample_33 : decode cX3_aSample 33 = .ok (.iconst 1, 1) := by decide +kernel
theorem dX3_aSample_34 : decode cX3_aSample 34 = .ok (.isub, 1) := by decide +kernel
theorem dX3_aSample_35 : decode cX3_aSample 35 = .ok (.ishl, 1) := by decide +kernel
theorem dX3_aSample_36 : decode cX3_aSample 36 = .ok (.istore_n 2, 1) := by decide +kernel
theorem dX3_aSample_37 : decode cX3_aSample 37 = .ok (.iload_n 1, 1) := by decide +kernel
theorem dX3_aSample_38 : decode cX3_aSample 38 = .ok (.sipush 128, 3) := by decide +kernel
theorem dX3_aSample_41 : decode cX3_aSample 41 = .ok (.iand, 1) := by decide +kernel
theorem dX3_aSample_42 : decode cX3_aSample 42 = .ok (.ifCond .ne 8, 3) := by decide +kernel
theorem dX3_aSample_45 : decode cX3_aSample 45 = .ok (.iload_n 2, 1) := by decide +kernel
theorem dX3_aSample_46 : decode cX3_aSample 46 = .ok (.ineg, 1) := by decide +kernel
theorem dX3_aSample_47 : decode cX3_aSample 47 = .ok (.goto 4, 3) := by decide +kernel
theorem dX3_aSample_50 : decode cX3_aSample 50 = .ok (.iload_n 2, 1) := by decide +kernel
theorem dX3_aSample_51 : decode cX3_aSample 51 = .ok (.ireturn, 1) := by decide +kernel
theorem dX3_segment_0 : decode cX3_segment 0 = .ok (.iconst 0, 1) := by decide +kernel
theorem dX3_segment_1 : decode cX3_segment 1 = .ok (.istore_n 2, 1) := by decide +kernel
theorem dX3_segment_2 : decode cX3_segment 2 = .ok (.iload_n 2, 1) := by decide +kernel
theorem dX3_segment_3 : decode cX3_segment 3 = .ok (.bipush 7, 2) := by decide +kernel
theorem dX3_segment_5 : decode cX3_segment 5 = .ok (.if_icmp .ge 16, 3) := by decide +kernel
theorem dX3_segment_8 : decode cX3_segment 8 = .ok (.iload_n 0, 1) := by decide +kernel
theorem dX3_segment_9 : decode cX3_segment 9 = .ok (.iload_n 1, 1) := by decide +kernel
theorem dX3_segment_10 : decode cX3_segment 10 = .ok (.iload_n 2, 1) := by decide +kernel
theorem dX3_segment_11 : decode cX3_segment 11 = .ok (.ishl, 1) := by decide +kernel
theorem dX3_segment_12 : decode cX3_segment 12 = .ok (.if_icmp .lt 9, 3) := by decide +kernel
theorem dX3_segment_15 : decode cX3_segment 15 = .ok (.iinc 2 1, 3) := by decide +kernel
theorem dX3_segment_18 : decode cX3_segment 18 = .ok (.goto (-16), 3) := by decide +kernel
theorem dX3_segment_21 : decode cX3_segment 21 = .ok (.iload_n 2, 1) := by decide +kernel
theorem dX3_segment_22 : decode cX3_segment 22 = .ok (.ireturn, 1) := by decide +kernel
theorem dX3_muEdge_0 : decode cX3_muEdge 0 = .ok (.sipush 255, 3) := by decide +kernel
theorem dX3_muEdge_3 : decode cX3_muEdge 3 = .ok (.iload_n 0, 1) := by decide +kernel
theorem dX3_muEdge_4 : decode cX3_muEdge 4 = .ok (.isub, 1) := by decide +kernel
theorem dX3_muEdge_5 : decode cX3_muEdge 5 = .ok (.istore_n 2, 1) := by decide +kernel
theorem dX3_muEdge_6 : decode cX3_muEdge 6 = .ok (.iload_n 2, 1) := by decide +kernel
theorem dX3_muEdge_7 : decode cX3_muEdge 7 = .ok (.iconst 4, 1) := by decide +kernel
theorem dX3_muEdge_8 : decode cX3_muEdge 8 = .ok (.ishr, 1) := by decide +kernel
theorem dX3_muEdge_9 : decode cX3_muEdge 9 = .ok (.bipush 7, 2) := by decide +kernel
theorem dX3_muEdge_11 : decode cX3_muEdge 11 = .ok (.iand, 1) := by decide +kernel
theorem dX3_muEdge_12 : decode cX3_muEdge 12 = .ok (.istore_n 3, 1) := by decide +kernel
theorem dX3_muEdge_13 : decode cX3_muEdge 13 = .ok (.bipush 16, 2) := by decide +kernel
theorem dX3_muEdge_15 : decode cX3_muEdge 15 = .ok (.iload_n 2, 1) := by decide +kernel
theorem dX3_muEdge_16 : decode cX3_muEdge 16 = .ok (.bipush 15, 2) := by decide +kernel
theorem dX3_muEdge_18 : decode cX3_muEdge 18 = .ok (.iand, 1) := by decide +kernel
theorem dX3_muEdge_19 : decode cX3_muEdge 19 = .ok (.iadd, 1) := by decide +kernel
theorem dX3_muEdge_20 : decode cX3_muEdge 20 = .ok (.istore 4, 2) := by decide +kernel
theorem dX3_muEdge_22 : decode cX3_muEdge 22 = .ok (.iload_n 2, 1) := by decide +kernel
theorem dX3_muEdge_23 : decode cX3_muEdge 23 = .ok (.sipush 128, 3) := by decide +kernel
theorem dX3_muEdge_26 : decode cX3_muEdge 26 = .ok (.iand, 1) := by decide +kernel
theorem dX3_muEdge_27 : decode cX3_muEdge 27 = .ok (.ifCond .eq 7, 3) := by decide +kernel
theorem dX3_muEdge_30 : decode cX3_muEdge 30 = .ok (.iconst 1, 1) := by decide +kernel
theorem dX3_muEdge_31 : decode cX3_muEdge 31 = .ok (.goto 4, 3) := by decide +kernel
theorem dX3_muEdge_34 : decode cX3_muEdge 34 = .ok (.iconst 0, 1) := by decide +kernel
theorem dX3_muEdge_35 : decode cX3_muEdge 35 = .ok (.istore 5, 2) := by decide +kernel
theorem dX3_muEdge_37 : decode cX3_muEdge 37 = .ok (.iload 4, 2) := by decide +kernel
theorem dX3_muEdge_39 : decode cX3_muEdge 39 = .ok (.iconst 1, 1) := by decide +kernel
theorem dX3_muEdge_40 : decode cX3_muEdge 40 = .ok (.iadd, 1) := by decide +kernel
theorem dX3_muEdge_41 : decode cX3_muEdge 41 = .ok (.iload_n 3, 1) := by decide +kernel
theorem dX3_muEdge_42 : decode cX3_muEdge 42 = .ok (.iconst 1, 1) := by decide +kernel
theorem dX3_muEdge_43 : decode cX3_muEdge 43 = .ok (.iadd, 1) := by decide +kernel
theorem dX3_muEdge_44 : decode cX3_muEdge 44 = .ok (.ishl, 1) := by decide +kernel
theorem dX3_muEdge_45 : decode cX3_muEdge 45 = .ok (.iconst 1, 1) := by decide +kernel
theorem dX3_muEdge_46 : decode cX3_muEdge 46 = .ok (.isub, 1) := by decide +kernel
theorem dX3_muEdge_47 : decode cX3_muEdge 47 = .ok (.bipush 33, 2) := by decide +kernel
theorem dX3_muEdge_49 : decode cX3_muEdge 49 = .ok (.isub, 1) := by decide +kernel
theorem dX3_muEdge_50 : decode cX3_muEdge 50 = .ok (.istore 6, 2) := by decide +kernel
theorem dX3_muEdge_52 : decode cX3_muEdge 52 = .ok (.iload 6, 2) := by decide +kernel
theorem dX3_muEdge_54 : decode cX3_muEdge 54 = .ok (.sipush 8158, 3) := by decide +kernel
theorem dX3_muEdge_57 : decode cX3_muEdge 57 = .ok (.if_icmp .ne 19, 3) := by decide +kernel
theorem dX3_muEdge_60 : decode cX3_muEdge 60 = .ok (.iload 5, 2) := by decide +kernel
theorem dX3_muEdge_62 : decode cX3_muEdge 62 = .ok (.ifCond .eq 9, 3) := by decide +kernel
theorem dX3_muEdge_65 : decode cX3_muEdge 65 = .ok (.sipush 8192, 3) := by decide +kernel
theorem dX3_muEdge_68 : decode cX3_muEdge 68 = .ok (.goto 6, 3) := by decide +kernel
theorem dX3_muEdge_71 : decode cX3_muEdge 71 = .ok (.sipush 8191, 3) := by decide +kernel
theorem dX3_muEdge_74 : decode cX3_muEdge 74 = .ok (.istore 6, 2) := by decide +kernel
theorem dX3_muEdge_76 : decode cX3_muEdge 76 = .ok (.iload 4, 2) := by decide +kernel
theorem dX3_muEdge_78 : decode cX3_muEdge 78 = .ok (.iload_n 3, 1) := by decide +kernel
theorem dX3_muEdge_79 : decode cX3_muEdge 79 = .ok (.iconst 1, 1) := by decide +kernel
theorem dX3_muEdge_80 : decode cX3_muEdge 80 = .ok (.iadd, 1) := by decide +kernel
theorem dX3_muEdge_81 : decode cX3_muEdge 81 = .ok (.ishl, 1) := by decide +kernel
theorem dX3_muEdge_82 : decode cX3_muEdge 82 = .ok (.bipush 33, 2) := by decide +kernel
theorem dX3_muEdge_84 : decode cX3_muEdge 84 = .ok (.isub, 1) := by decide +kernel
theorem dX3_muEdge_85 : decode cX3_muEdge 85 = .ok (.iload 5, 2) := by decide +kernel
theorem dX3_muEdge_87 : decode cX3_muEdge 87 = .ok (.ifCond .eq 7, 3) := by decide +kernel
theorem dX3_muEdge_90 : decode cX3_muEdge 90 = .ok (.iconst 1, 1) := by decide +kernel
theorem dX3_muEdge_91 : decode cX3_muEdge 91 = .ok (.goto 4, 3) := by decide +kernel
theorem dX3_muEdge_94 : decode cX3_muEdge 94 = .ok (.iconst 0, 1) := by decide +kernel
theorem dX3_muEdge_95 : decode cX3_muEdge 95 = .ok (.invokestatic 24, 3) := by decide +kernel
theorem dX3_muEdge_98 : decode cX3_muEdge 98 = .ok (.istore 7, 2) := by decide +kernel
theorem dX3_muEdge_100 : decode cX3_muEdge 100 = .ok (.iload 7, 2) := by decide +kernel
theorem dX3_muEdge_102 : decode cX3_muEdge 102 = .ok (.iload 6, 2) := by decide +kernel
theorem dX3_muEdge_104 : decode cX3_muEdge 104 = .ok (.if_icmp .le 6, 3) := by decide +kernel
theorem dX3_muEdge_107 : decode cX3_muEdge 107 = .ok (.ldc 27, 2) := by decide +kernel
theorem dX3_muEdge_109 : decode cX3_muEdge 109 = .ok (.ireturn, 1) := by decide +kernel
theorem dX3_muEdge_110 : decode cX3_muEdge 110 = .ok (.iload 5, 2) := by decide +kernel
theorem dX3_muEdge_112 : decode cX3_muEdge 112 = .ok (.ifCond .eq 22, 3) := by decide +kernel
theorem dX3_muEdge_115 : decode cX3_muEdge 115 = .ok (.iload_n 1, 1) := by decide +kernel
theorem dX3_muEdge_116 : decode cX3_muEdge 116 = .ok (.ifCond .eq 12, 3) := by decide +kernel
theorem dX3_muEdge_119 : decode cX3_muEdge 119 = .ok (.iconst 3, 1) := by decide +kernel
theorem dX3_muEdge_120 : decode cX3_muEdge 120 = .ok (.iconst 4, 1) := by decide +kernel
theorem dX3_muEdge_121 : decode cX3_muEdge 121 = .ok (.iload 7, 2) := by decide +kernel
theorem dX3_muEdge_123 : decode cX3_muEdge 123 = .ok (.imul, 1) := by decide +kernel
theorem dX3_muEdge_124 : decode cX3_muEdge 124 = .ok (.isub, 1) := by decide +kernel
theorem dX3_muEdge_125 : decode cX3_muEdge 125 = .ok (.goto 8, 3) := by decide +kernel
theorem dX3_muEdge_128 : decode cX3_muEdge 128 = .ok (.bipush (-4), 2) := by decide +kernel
theorem dX3_muEdge_130 : decode cX3_muEdge 130 = .ok (.iload 6, 2) := by decide +kernel
theorem dX3_muEdge_132 : decode cX3_muEdge 132 = .ok (.imul, 1) := by decide +kernel
theorem dX3_muEdge_133 : decode cX3_muEdge 133 = .ok (.ireturn, 1) := by decide +kernel
theorem dX3_muEdge_134 : decode cX3_muEdge 134 = .ok (.iload_n 1, 1) := by decide +kernel
theorem dX3_muEdge_135 : decode cX3_muEdge 135 = .ok (.ifCond .eq 12, 3) := by decide +kernel
theorem dX3_muEdge_138 : decode cX3_muEdge 138 = .ok (.iconst 4, 1) := by decide +kernel
theorem dX3_muEdge_139 : decode cX3_muEdge 139 = .ok (.iload 6, 2) := by decide +kernel
theorem dX3_muEdge_141 : decode cX3_muEdge 141 = .ok (.imul, 1) := by decide +kernel
theorem dX3_muEdge_142 : decode cX3_muEdge 142 = .ok (.iconst 3, 1) := by decide +kernel
theorem dX3_muEdge_143 : decode cX3_muEdge 143 = .ok (.iadd, 1) := by decide +kernel
theorem dX3_muEdge_144 : decode cX3_muEdge 144 = .ok (.goto 7, 3) := by decide +kernel
theorem dX3_muEdge_147 : decode cX3_muEdge 147 = .ok (.iconst 4, 1) := by decide +kernel
theorem dX3_muEdge_148 : decode cX3_muEdge 148 = .ok (.iload 7, 2) := by decide +kernel
theorem dX3_muEdge_150 : decode cX3_muEdge 150 = .ok (.imul, 1) := by decide +kernel
theorem dX3_muEdge_151 : decode cX3_muEdge 151 = .ok (.ireturn, 1) := by decide +kernel
theorem dX3_aEdge_0 : decode cX3_aEdge 0 = .ok (.iload_n 0, 1) := by decide +kernel
theorem dX3_aEdge_1 : decode cX3_aEdge 1 = .ok (.bipush 85, 2) := by decide +kernel
theorem dX3_aEdge_3 : decode cX3_aEdge 3 = .ok (.ixor, 1) := by decide +kernel
theorem dX3_aEdge_4 : decode cX3_aEdge 4 = .ok (.istore_n 2, 1) := by decide +kernel
theorem dX3_aEdge_5 : decode cX3_aEdge 5 = .ok (.iload_n 2, 1) := by decide +kernel
theorem dX3_aEdge_6 : decode cX3_aEdge 6 = .ok (.iconst 4, 1) := by decide +kernel
theorem dX3_aEdge_7 : decode cX3_aEdge 7 = .ok (.ishr, 1) := by decide +kernel
theorem dX3_aEdge_8 : decode cX3_aEdge 8 = .ok (.bipush 7, 2) := by decide +kernel
theorem dX3_aEdge_10 : decode cX3_aEdge 10 = .ok (.iand, 1) := by decide +kernel
theorem dX3_aEdge_11 : decode cX3_aEdge 11 = .ok (.istore_n 3, 1) := by decide +kernel
theorem dX3_aEdge_12 : decode cX3_aEdge 12 = .ok (.iload_n 3, 1) := by decide +kernel
theorem dX3_aEdge_13 : decode cX3_aEdge 13 = .ok (.ifCond .ne 10, 3) := by decide +kernel
theorem dX3_aEdge_16 : decode cX3_aEdge 16 = .ok (.iload_n 2, 1) := by decide +kernel
theorem dX3_aEdge_17 : decode cX3_aEdge 17 = .ok (.bipush 15, 2) := by decide +kernel
theorem dX3_aEdge_19 : decode cX3_aEdge 19 = .ok (.iand, 1) := by decide +kernel
theorem dX3_aEdge_20 : decode cX3_aEdge 20 = .ok (.goto 10, 3) := by decide +kernel
theorem dX3_aEdge_23 : decode cX3_aEdge 23 = .ok (.bipush 16, 2) := by decide +kernel
theorem dX3_aEdge_25 : decode cX3_aEdge 25 = .ok (.iload_n 2, 1) := by decide +kernel
theorem dX3_aEdge_26 : decode cX3_aEdge 26 = .ok (.bipush 15, 2) := by decide +kernel
theorem dX3_aEdge_28 : decode cX3_aEdge 28 = .ok (.iand, 1) := by decide +kernel
theorem dX3_aEdge_29 : decode cX3_aEdge 29 = .ok (.iadd, 1) := by decide +kernel
theorem dX3_aEdge_30 : decode cX3_aEdge 30 = .ok (.istore 4, 2) := by decide +kernel
theorem dX3_aEdge_32 : decode cX3_aEdge 32 = .ok (.iload_n 3, 1) := by decide +kernel
theorem dX3_aEdge_33 : decode cX3_aEdge 33 = .ok (.iconst 1, 1) := by decide +kernel
theorem dX3_aEdge_34 : decode cX3_aEdge 34 = .ok (.invokestatic 24, 3) := by decide +kernel
theorem dX3_aEdge_37 : decode cX3_aEdge 37 = .ok (.istore 5, 2) := by decide +kernel
theorem dX3_aEdge_39 : decode cX3_aEdge 39 = .ok (.iload 4, 2) := by decide +kernel
theorem dX3_aEdge_41 : decode cX3_aEdge 41 = .ok (.iload 5, 2) := by decide +kernel
theorem dX3_aEdge_43 : decode cX3_aEdge 43 = .ok (.ishl, 1) := by decide +kernel
theorem dX3_aEdge_44 : decode cX3_aEdge 44 = .ok (.istore 6, 2) := by decide +kernel
theorem dX3_aEdge_46 : decode cX3_aEdge 46 = .ok (.iload 4, 2) := by decide +kernel
theorem dX3_aEdge_48 : decode cX3_aEdge 48 = .ok (.iconst 1, 1) := by decide +kernel
theorem dX3_aEdge_49 : decode cX3_aEdge 49 = .ok (.iadd, 1) := by decide +kernel
theorem dX3_aEdge_50 : decode cX3_aEdge 50 = .ok (.iload 5, 2) := by decide +kernel
theorem dX3_aEdge_52 : decode cX3_aEdge 52 = .ok (.ishl, 1) := by decide +kernel
theorem dX3_aEdge_53 : decode cX3_aEdge 53 = .ok (.iconst 1, 1) := by decide +kernel
theorem dX3_aEdge_54 : decode cX3_aEdge 54 = .ok (.isub, 1) := by decide +kernel
theorem dX3_aEdge_55 : decode cX3_aEdge 55 = .ok (.istore 7, 2) := by decide +kernel
theorem dX3_aEdge_57 : decode cX3_aEdge 57 = .ok (.iload_n 2, 1) := by decide +kernel
theorem dX3_aEdge_58 : decode cX3_aEdge 58 = .ok (.sipush 128, 3) := by decide +kernel
theorem dX3_aEdge_61 : decode cX3_aEdge 61 = .ok (.iand, 1) := by decide +kernel
theorem dX3_aEdge_62 : decode cX3_aEdge 62 = .ok (.ifCond .ne 26, 3) := by decide +kernel
theorem dX3_aEdge_65 : decode cX3_aEdge 65 = .ok (.iload_n 1, 1) := by decide +kernel
theorem dX3_aEdge_66 : decode cX3_aEdge 66 = .ok (.ifCond .eq 13, 3) := by decide +kernel
theorem dX3_aEdge_69 : decode cX3_aEdge 69 = .ok (.bipush (-8), 2) := by decide +kernel
theorem dX3_aEdge_71 : decode cX3_aEdge 71 = .ok (.iload 6, 2) := by decide +kernel
theorem dX3_aEdge_73 : decode cX3_aEdge 73 = .ok (.imul, 1) := by decide +kernel
theorem dX3_aEdge_74 : decode cX3_aEdge 74 = .ok (.iconst 1, 1) := by decide +kernel
theorem dX3_aEdge_75 : decode cX3_aEdge 75 = .ok (.isub, 1) := by decide +kernel
theorem dX3_aEdge_76 : decode cX3_aEdge 76 = .ok (.goto 11, 3) := by decide +kernel
theorem dX3_aEdge_79 : decode cX3_aEdge 79 = .ok (.bipush (-8), 2) := by decide +kernel
theorem dX3_aEdge_81 : decode cX3_aEdge 81 = .ok (.iload 7, 2) := by decide +kernel
theorem dX3_aEdge_83 : decode cX3_aEdge 83 = .ok (.imul, 1) := by decide +kernel
theorem dX3_aEdge_84 : decode cX3_aEdge 84 = .ok (.bipush 8, 2) := by decide +kernel
theorem dX3_aEdge_86 : decode cX3_aEdge 86 = .ok (.isub, 1) := by decide +kernel
theorem dX3_aEdge_87 : decode cX3_aEdge 87 = .ok (.ireturn, 1) := by decide +kernel
theorem dX3_aEdge_88 : decode cX3_aEdge 88 = .ok (.iload_n 1, 1) := by decide +kernel
theorem dX3_aEdge_89 : decode cX3_aEdge 89 = .ok (.ifCond .eq 14, 3) := by decide +kernel
theorem dX3_aEdge_92 : decode cX3_aEdge 92 = .ok (.bipush 8, 2) := by decide +kernel
theorem dX3_aEdge_94 : decode cX3_aEdge 94 = .ok (.iload 7, 2) := by decide +kernel
theorem dX3_aEdge_96 : decode cX3_aEdge 96 = .ok (.imul, 1) := by decide +kernel
theorem dX3_aEdge_97 : decode cX3_aEdge 97 = .ok (.bipush 7, 2) := by decide +kernel
theorem dX3_aEdge_99 : decode cX3_aEdge 99 = .ok (.iadd, 1) := by decide +kernel
theorem dX3_aEdge_100 : decode cX3_aEdge 100 = .ok (.goto 8, 3) := by decide +kernel
theorem dX3_aEdge_103 : decode cX3_aEdge 103 = .ok (.bipush 8, 2) := by decide +kernel
theorem dX3_aEdge_105 : decode cX3_aEdge 105 = .ok (.iload 6, 2) := by decide +kernel
theorem dX3_aEdge_107 : decode cX3_aEdge 107 = .ok (.imul, 1) := by decide +kernel
theorem dX3_aEdge_108 : decode cX3_aEdge 108 = .ok (.ireturn, 1) := by decide +kernel
theorem dX4_init_0 : decode cX4_init 0 = .ok (.aload_n 0, 1) := by decide +kernel
theorem dX4_init_1 : decode cX4_init 1 = .ok (.invokespecial 3, 3) := by decide +kernel
theorem dX4_init_4 : decode cX4_init 4 = .ok (.aload_n 0, 1) := by decide +kernel
theorem dX4_init_5 : decode cX4_init 5 = .ok (.new 9, 3) := by decide +kernel
theorem dX4_init_8 : decode cX4_init 8 = .ok (.dup, 1) := by decide +kernel
theorem dX4_init_9 : decode cX4_init 9 = .ok (.invokespecial 11, 3) := by decide +kernel
theorem dX4_init_12 : decode cX4_init 12 = .ok (.putfield 12, 3) := by decide +kernel
theorem dX4_init_15 : decode cX4_init 15 = .ok (.aload_n 0, 1) := by decide +kernel
theorem dX4_init_16 : decode cX4_init 16 = .ok (.new 9, 3) := by decide +kernel
theorem dX4_init_19 : decode cX4_init 19 = .ok (.dup, 1) := by decide +kernel
theorem dX4_init_20 : decode cX4_init 20 = .ok (.invokespecial 11, 3) := by decide +kernel
theorem dX4_init_23 : decode cX4_init 23 = .ok (.putfield 18, 3) := by decide +kernel
theorem dX4_init_26 : decode cX4_init 26 = .ok (.aload_n 0, 1) := by decide +kernel
theorem dX4_init_27 : decode cX4_init 27 = .ok (.new 21, 3) := by decide +kernel
theorem dX4_init_30 : decode cX4_init 30 = .ok (.dup, 1) := by decide +kernel
theorem dX4_init_31 : decode cX4_init 31 = .ok (.invokespecial 23, 3) := by decide +kernel
theorem dX4_init_34 : decode cX4_init 34 = .ok (.putfield 24, 3) := by decide +kernel
theorem dX4_init_37 : decode cX4_init 37 = .ok (.aload_n 0, 1) := by decide +kernel
theorem dX4_init_38 : decode cX4_init 38 = .ok (.new 21, 3) := by decide +kernel
theorem dX4_init_41 : decode cX4_init 41 = .ok (.dup, 1) := by decide +kernel
theorem dX4_init_42 : decode cX4_init 42 = .ok (.invokespecial 23, 3) := by decide +kernel
theorem dX4_init_45 : decode cX4_init 45 = .ok (.putfield 28, 3) := by decide +kernel
theorem dX4_init_48 : decode cX4_init 48 = .ok (.aload_n 0, 1) := by decide +kernel
theorem dX4_init_49 : decode cX4_init 49 = .ok (.ldc 31, 2) := by decide +kernel
theorem dX4_init_51 : decode cX4_init 51 = .ok (.putfield 32, 3) := by decide +kernel
theorem dX4_init_54 : decode cX4_init 54 = .ok (.return_, 1) := by decide +kernel
theorem dX4_begin_0 : decode cX4_begin 0 = .ok (.aload_n 0, 1) := by decide +kernel
theorem dX4_begin_1 : decode cX4_begin 1 = .ok (.iload_n 1, 1) := by decide +kernel
theorem dX4_begin_2 : decode cX4_begin 2 = .ok (.putfield 32, 3) := by decide +kernel
theorem dX4_begin_5 : decode cX4_begin 5 = .ok (.aload_n 0, 1) := by decide +kernel
theorem dX4_begin_6 : decode cX4_begin 6 = .ok (.invokevirtual 36, 3) := by decide +kernel
theorem dX4_begin_9 : decode cX4_begin 9 = .ok (.ifCond .eq 22, 3) := by decide +kernel
theorem dX4_begin_12 : decode cX4_begin 12 = .ok (.aload_n 0, 1) := by decide +kernel
theorem dX4_begin_13 : decode cX4_begin 13 = .ok (.getfield 12, 3) := by decide +kernel
theorem dX4_begin_16 : decode cX4_begin 16 = .ok (.iload_n 1, 1) := by decide +kernel
theorem dX4_begin_17 : decode cX4_begin 17 = .ok (.invokevirtual 40, 3) := by decide +kernel
theorem dX4_begin_20 : decode cX4_begin 20 = .ok (.aload_n 0, 1) := by decide +kernel
theorem dX4_begin_21 : decode cX4_begin 21 = .ok (.getfield 18, 3) := by decide +kernel
theorem dX4_begin_24 : decode cX4_begin 24 = .ok (.iload_n 1, 1) := by decide +kernel
theorem dX4_begin_25 : decode cX4_begin 25 = .ok (.invokevirtual 40, 3) := by decide +kernel
theorem dX4_begin_28 : decode cX4_begin 28 = .ok (.goto 24, 3) := by decide +kernel
theorem dX4_begin_31 : decode cX4_begin 31 = .ok (.aload_n 0, 1) := by decide +kernel
theorem dX4_begin_32 : decode cX4_begin 32 = .ok (.invokevirtual 44, 3) := by decide +kernel
theorem dX4_begin_35 : decode cX4_begin 35 = .ok (.ifCond .eq 17, 3) := by decide +kernel
theorem dX4_begin_38 : decode cX4_begin 38 = .ok (.aload_n 0, 1) := by decide +kernel
theorem dX4_begin_39 : decode cX4_begin 39 = .ok (.getfield 24, 3) := by decide +kernel
theorem dX4_begin_42 : decode cX4_begin 42 = .ok (.invokevirtual 47, 3) := by decide +kernel
theorem dX4_begin_45 : decode cX4_begin 45 = .ok (.aload_n 0, 1) := by decide +kernel
theorem dX4_begin_46 : decode cX4_begin 46 = .ok (.getfield 28, 3) := by decide +kernel
theorem dX4_begin_49 : decode cX4_begin 49 = .ok (.invokevirtual 47, 3) := by decide +kernel
theorem dX4_begin_52 : decode cX4_begin 52 = .ok (.return_, 1) := by decide +kernel
theorem dX4_isAdpcm_0 : decode cX4_isAdpcm 0 = .ok (.aload_n 0, 1) := by decide +kernel
theorem dX4_isAdpcm_1 : decode cX4_isAdpcm 1 = .ok (.getfield 32, 3) := by decide +kernel
theorem dX4_isAdpcm_4 : decode cX4_isAdpcm 4 = .ok (.iconst 2, 1) := by decide +kernel
theorem dX4_isAdpcm_5 : decode cX4_isAdpcm 5 = .ok (.if_icmp .lt 15, 3) := by decide +kernel
theorem dX4_isAdpcm_8 : decode cX4_isAdpcm 8 = .ok (.aload_n 0, 1) := by decide +kernel
theorem dX4_isAdpcm_9 : decode cX4_isAdpcm 9 = .ok (.getfield 32, 3) := by decide +kernel
theorem dX4_isAdpcm_12 : decode cX4_isAdpcm 12 = .ok (.iconst 5, 1) := by decide +kernel
theorem dX4_isAdpcm_13 : decode cX4_isAdpcm 13 = .ok (.if_icmp .gt 7, 3) := by decide +kernel
theorem dX4_isAdpcm_16 : decode cX4_isAdpcm 16 = .ok (.iconst 1, 1) := by decide +kernel
theorem dX4_isAdpcm_17 : decode cX4_isAdpcm 17 = .ok (.goto 4, 3) := by decide +kernel
theorem dX4_isAdpcm_20 : decode cX4_isAdpcm 20 = .ok (.iconst 0, 1) := by decide +kernel
theorem dX4_isAdpcm_21 : decode cX4_isAdpcm 21 = .ok (.ireturn, 1) := by decide +kernel
theorem dX4_isWide_0 : decode cX4_isWide 0 = .ok (.aload_n 0, 1) := by decide +kernel
theorem dX4_isWide_1 : decode cX4_isWide 1 = .ok (.getfield 32, 3) := by decide +kernel
theorem dX4_isWide_4 : decode cX4_isWide 4 = .ok (.bipush 6, 2) := by decide +kernel
theorem dX4_isWide_6 : decode cX4_isWide 6 = .ok (.if_icmp .lt 7, 3) := by decide +kernel
theorem dX4_isWide_9 : decode cX4_isWide 9 = .ok (.iconst 1, 1) := by decide +kernel
theorem dX4_isWide_10 : decode cX4_isWide 10 = .ok (.goto 4, 3) := by decide +kernel
theorem dX4_isWide_13 : decode cX4_isWide 13 = .ok (.iconst 0, 1) := by decide +kernel
theorem dX4_isWide_14 : decode cX4_isWide 14 = .ok (.ireturn, 1) := by decide +kernel
theorem dX4_codeBits_0 : decode cX4_codeBits 0 = .ok (.aload_n 0, 1) := by decide +kernel
theorem dX4_codeBits_1 : decode cX4_codeBits 1 = .ok (.invokevirtual 36, 3) := by decide +kernel
theorem dX4_codeBits_4 : decode cX4_codeBits 4 = .ok (.ifCond .eq 10, 3) := by decide +kernel
theorem dX4_codeBits_7 : decode cX4_codeBits 7 = .ok (.aload_n 0, 1) := by decide +kernel
theorem dX4_codeBits_8 : decode cX4_codeBits 8 = .ok (.getfield 32, 3) := by decide +kernel
theorem dX4_codeBits_11 : decode cX4_codeBits 11 = .ok (.goto 5, 3) := by decide +kernel
theorem dX4_codeBits_14 : decode cX4_codeBits 14 = .ok (.bipush 8, 2) := by decide +kernel
theorem dX4_codeBits_16 : decode cX4_codeBits 16 = .ok (.ireturn, 1) := by decide +kernel
theorem dX4_hasCode_0 : decode cX4_hasCode 0 = .ok (.iload_n 1, 1) := by decide +kernel
theorem dX4_hasCode_1 : decode cX4_hasCode 1 = .ok (.ifCond .lt 17, 3) := by decide +kernel
theorem dX4_hasCode_4 : decode cX4_hasCode 4 = .ok (.iload_n 1, 1) := by decide +kernel
theorem dX4_hasCode_5 : decode cX4_hasCode 5 = .ok (.iconst 1, 1) := by decide +kernel
theorem dX4_hasCode_6 : decode cX4_hasCode 6 = .ok (.aload_n 0, 1) := by decide +kernel
theorem dX4_hasCode_7 : decode cX4_hasCode 7 = .ok (.invokevirtual 49, 3) := by decide +kernel
theorem dX4_hasCode_10 : decode cX4_hasCode 10 = .ok (.ishl, 1) := by decide +kernel
theorem dX4_hasCode_11 : decode cX4_hasCode 11 = .ok (.if_icmp .ge 7, 3) := by decide +kernel
theorem dX4_hasCode_14 : decode cX4_hasCode 14 = .ok (.iconst 1, 1) := by decide +kernel
theorem dX4_hasCode_15 : decode cX4_hasCode 15 = .ok (.goto 4, 3) := by decide +kernel
theorem dX4_hasCode_18 : decode cX4_hasCode 18 = .ok (.iconst 0, 1) := by decide +kernel
theorem dX4_hasCode_19 : decode cX4_hasCode 19 = .ok (.ireturn, 1) := by decide +kernel
theorem dX4_encode_0 : decode cX4_encode 0 = .ok (.aload_n 0, 1) := by decide +kernel
theorem dX4_encode_1 : decode cX4_encode 1 = .ok (.invokevirtual 44, 3) := by decide +kernel
theorem dX4_encode_4 : decode cX4_encode 4 = .ok (.ifCond .eq 13, 3) := by decide +kernel
theorem dX4_encode_7 : decode cX4_encode 7 = .ok (.aload_n 0, 1) := by decide +kernel
theorem dX4_encode_8 : decode cX4_encode 8 = .ok (.getfield 24, 3) := by decide +kernel
theorem dX4_encode_11 : decode cX4_encode 11 = .ok (.iload_n 1, 1) := by decide +kernel
theorem dX4_encode_12 : decode cX4_encode 12 = .ok (.iload_n 2, 1) := by decide +kernel
theorem dX4_encode_13 : decode cX4_encode 13 = .ok (.invokevirtual 53, 3) := by decide +kernel
theorem dX4_encode_16 : decode cX4_encode 16 = .ok (.ireturn, 1) := by decide +kernel
theorem dX4_encode_17 : decode cX4_encode 17 = .ok (.aload_n 0, 1) := by decide +kernel
theorem dX4_encode_18 : decode cX4_encode 18 = .ok (.invokevirtual 36, 3) := by decide +kernel
theorem dX4_encode_21 : decode cX4_encode 21 = .ok (.ifCond .eq 12, 3) := by decide +kernel
theorem dX4_encode_24 : decode cX4_encode 24 = .ok (.aload_n 0, 1) := by decide +kernel
theorem dX4_encode_25 : decode cX4_encode 25 = .ok (.getfield 12, 3) := by decide +kernel
theorem dX4_encode_28 : decode cX4_encode 28 = .ok (.iload_n 1, 1) := by decide +kernel
theorem dX4_encode_29 : decode cX4_encode 29 = .ok (.invokevirtual 57, 3) := by decide +kernel
theorem dX4_encode_32 : decode cX4_encode 32 = .ok (.ireturn, 1) := by decide +kernel
theorem dX4_encode_33 : decode cX4_encode 33 = .ok (.aload_n 0, 1) := by decide +kernel
theorem dX4_encode_34 : decode cX4_encode 34 = .ok (.getfield 32, 3) := by decide +kernel
theorem dX4_encode_37 : decode cX4_encode 37 = .ok (.ifCond .ne 10, 3) := by decide +kernel
theorem dX4_encode_40 : decode cX4_encode 40 = .ok (.iload_n 1, 1) := by decide +kernel
theorem dX4_encode_41 : decode cX4_encode 41 = .ok (.invokestatic 60, 3) := by decide +kernel
theorem dX4_encode_44 : decode cX4_encode 44 = .ok (.goto 7, 3) := by decide +kernel
theorem dX4_encode_47 : decode cX4_encode 47 = .ok (.iload_n 1, 1) := by decide +kernel
theorem dX4_encode_48 : decode cX4_encode 48 = .ok (.invokestatic 65, 3) := by decide +kernel
theorem dX4_encode_51 : decode cX4_encode 51 = .ok (.ireturn, 1) := by decide +kernel
theorem dX4_decode_0 : decode cX4_decode 0 = .ok (.aload_n 0, 1) := by decide +kernel
theorem dX4_decode_1 : decode cX4_decode 1 = .ok (.invokevirtual 44, 3) := by decide +kernel
theorem dX4_decode_4 : decode cX4_decode 4 = .ok (.ifCond .eq 16, 3) := by decide +kernel
theorem dX4_decode_7 : decode cX4_decode 7 = .ok (.aload_n 0, 1) := by decide +kernel
theorem dX4_decode_8 : decode cX4_decode 8 = .ok (.getfield 28, 3) := by decide +kernel
theorem dX4_decode_11 : decode cX4_decode 11 = .ok (.iload_n 1, 1) := by decide +kernel
theorem dX4_decode_12 : decode cX4_decode 12 = .ok (.aload_n 0, 1) := by decide +kernel
theorem dX4_decode_13 : decode cX4_decode 13 = .ok (.getfield 32, 3) := by decide +kernel
theorem dX4_decode_16 : decode cX4_decode 16 = .ok (.invokevirtual 68, 3) := by decide +kernel
theorem dX4_decode_19 : decode cX4_decode 19 = .ok (.ireturn, 1) := by decide +kernel
theorem dX4_decode_20 : decode cX4_decode 20 = .ok (.aload_n 0, 1) := by decide +kernel
theorem dX4_decode_21 : decode cX4_decode 21 = .ok (.invokevirtual 36, 3) := by decide +kernel
theorem dX4_decode_24 : decode cX4_decode 24 = .ok (.ifCond .eq 12, 3) := by decide +kernel
theorem dX4_decode_27 : decode cX4_decode 27 = .ok (.aload_n 0, 1) := by decide +kernel
theorem dX4_decode_28 : decode cX4_decode 28 = .ok (.getfield 18, 3) := by decide +kernel
theorem dX4_decode_31 : decode cX4_decode 31 = .ok (.iload_n 1, 1) := by decide +kernel
theorem dX4_decode_32 : decode cX4_decode 32 = .ok (.invokevirtual 71, 3) := by decide +kernel
theorem dX4_decode_35 : decode cX4_decode 35 = .ok (.ireturn, 1) := by decide +kernel
theorem dX4_decode_36 : decode cX4_decode 36 = .ok (.aload_n 0, 1) := by decide +kernel
theorem dX4_decode_37 : decode cX4_decode 37 = .ok (.getfield 32, 3) := by decide +kernel
theorem dX4_decode_40 : decode cX4_decode 40 = .ok (.ifCond .ne 10, 3) := by decide +kernel
theorem dX4_decode_43 : decode cX4_decode 43 = .ok (.iload_n 1, 1) := by decide +kernel
theorem dX4_decode_44 : decode cX4_decode 44 = .ok (.invokestatic 73, 3) := by decide +kernel
theorem dX4_decode_47 : decode cX4_decode 47 = .ok (.goto 7, 3) := by decide +kernel
theorem dX4_decode_50 : decode cX4_decode 50 = .ok (.iload_n 1, 1) := by decide +kernel
theorem dX4_decode_51 : decode cX4_decode 51 = .ok (.invokestatic 76, 3) := by decide +kernel
theorem dX4_decode_54 : decode cX4_decode 54 = .ok (.ireturn, 1) := by decide +kernel
theorem dX4_secondHeard_0 : decode cX4_secondHeard 0 = .ok (.aload_n 0, 1) := by decide +kernel
theorem dX4_secondHeard_1 : decode cX4_secondHeard 1 = .ok (.getfield 28, 3) := by decide +kernel
theorem dX4_secondHeard_4 : decode cX4_secondHeard 4 = .ok (.getfield 79, 3) := by decide +kernel
theorem dX4_secondHeard_7 : decode cX4_secondHeard 7 = .ok (.ireturn, 1) := by decide +kernel
theorem dX4_number_0 : decode cX4_number 0 = .ok (.aload_n 0, 1) := by decide +kernel
theorem dX4_number_1 : decode cX4_number 1 = .ok (.invokevirtual 44, 3) := by decide +kernel
theorem dX4_number_4 : decode cX4_number 4 = .ok (.ifCond .eq 27, 3) := by decide +kernel
theorem dX4_number_7 : decode cX4_number 7 = .ok (.iload_n 1, 1) := by decide +kernel
theorem dX4_number_8 : decode cX4_number 8 = .ok (.ifCond .eq 14, 3) := by decide +kernel
theorem dX4_number_11 : decode cX4_number 11 = .ok (.aload_n 0, 1) := by decide +kernel
theorem dX4_number_12 : decode cX4_number 12 = .ok (.getfield 24, 3) := by decide +kernel
theorem dX4_number_15 : decode cX4_number 15 = .ok (.iload_n 2, 1) := by decide +kernel
theorem dX4_number_16 : decode cX4_number 16 = .ok (.invokevirtual 82, 3) := by decide +kernel
theorem dX4_number_19 : decode cX4_number 19 = .ok (.goto 11, 3) := by decide +kernel
theorem dX4_number_22 : decode cX4_number 22 = .ok (.aload_n 0, 1) := by decide +kernel
theorem dX4_number_23 : decode cX4_number 23 = .ok (.getfield 28, 3) := by decide +kernel
theorem dX4_number_26 : decode cX4_number 26 = .ok (.iload_n 2, 1) := by decide +kernel
theorem dX4_number_27 : decode cX4_number 27 = .ok (.invokevirtual 82, 3) := by decide +kernel
theorem dX4_number_30 : decode cX4_number 30 = .ok (.ireturn, 1) := by decide +kernel
theorem dX4_number_31 : decode cX4_number 31 = .ok (.aload_n 0, 1) := by decide +kernel
theorem dX4_number_32 : decode cX4_number 32 = .ok (.invokevirtual 36, 3) := by decide +kernel
theorem dX4_number_35 : decode cX4_number 35 = .ok (.ifCond .eq 27, 3) := by decide +kernel
theorem dX4_number_38 : decode cX4_number 38 = .ok (.iload_n 1, 1) := by decide +kernel
theorem dX4_number_39 : decode cX4_number 39 = .ok (.ifCond .eq 14, 3) := by decide +kernel
theorem dX4_number_42 : decode cX4_number 42 = .ok (.aload_n 0, 1) := by decide +kernel
theorem dX4_number_43 : decode cX4_number 43 = .ok (.getfield 12, 3) := by decide +kernel
theorem dX4_number_46 : decode cX4_number 46 = .ok (.iload_n 2, 1) := by decide +kernel
theorem dX4_number_47 : decode cX4_number 47 = .ok (.invokevirtual 85, 3) := by decide +kernel
theorem dX4_number_50 : decode cX4_number 50 = .ok (.goto 11, 3) := by decide +kernel
theorem dX4_number_53 : decode cX4_number 53 = .ok (.aload_n 0, 1) := by decide +kernel
theorem dX4_number_54 : decode cX4_number 54 = .ok (.getfield 18, 3) := by decide +kernel
theorem dX4_number_57 : decode cX4_number 57 = .ok (.iload_n 2, 1) := by decide +kernel
theorem dX4_number_58 : decode cX4_number 58 = .ok (.invokevirtual 85, 3) := by decide +kernel
theorem dX4_number_61 : decode cX4_number 61 = .ok (.ireturn, 1) := by decide +kernel
theorem dX4_number_62 : decode cX4_number 62 = .ok (.ldc 31, 2) := by decide +kernel
theorem dX4_number_64 : decode cX4_number 64 = .ok (.ireturn, 1) := by decide +kernel
theorem dX5_init_0 : decode cX5_init 0 = .ok (.aload_n 0, 1) := by decide +kernel
theorem dX5_init_1 : decode cX5_init 1 = .ok (.invokespecial 3, 3) := by decide +kernel
theorem dX5_init_4 : decode cX5_init 4 = .ok (.aload_n 0, 1) := by decide +kernel
theorem dX5_init_5 : decode cX5_init 5 = .ok (.new 9, 3) := by decide +kernel
theorem dX5_init_8 : decode cX5_init 8 = .ok (.dup, 1) := by decide +kernel
theorem dX5_init_9 : decode cX5_init 9 = .ok (.invokespecial 11, 3) := by decide +kernel
theorem dX5_init_12 : decode cX5_init 12 = .ok (.putfield 12, 3) := by decide +kernel
theorem dX5_init_15 : decode cX5_init 15 = .ok (.aload_n 0, 1) := by decide +kernel
theorem dX5_init_16 : decode cX5_init 16 = .ok (.new 9, 3) := by decide +kernel
theorem dX5_init_19 : decode cX5_init 19 = .ok (.dup, 1) := by decide +kernel
theorem dX5_init_20 : decode cX5_init 20 = .ok (.invokespecial 11, 3) := by decide +kernel
theorem dX5_init_23 : decode cX5_init 23 = .ok (.putfield 18, 3) := by decide +kernel
theorem dX5_init_26 : decode cX5_init 26 = .ok (.aload_n 0, 1) := by decide +kernel
theorem dX5_init_27 : decode cX5_init 27 = .ok (.bipush 24, 2) := by decide +kernel
theorem dX5_init_29 : decode cX5_init 29 = .ok (.newarray .int, 2) := by decide +kernel
theorem dX5_init_31 : decode cX5_init 31 = .ok (.putfield 21, 3) := by decide +kernel
theorem dX5_init_34 : decode cX5_init 34 = .ok (.aload_n 0, 1) := by decide +kernel
theorem dX5_init_35 : decode cX5_init 35 = .ok (.iconst 0, 1) := by decide +kernel
theorem dX5_init_36 : decode cX5_init 36 = .ok (.putfield 25, 3) := by decide +kernel
theorem dX5_init_39 : decode cX5_init 39 = .ok (.return_, 1) := by decide +kernel
theorem dX5_begin_0 : decode cX5_begin 0 = .ok (.aload_n 0, 1) := by decide +kernel
theorem dX5_begin_1 : decode cX5_begin 1 = .ok (.getfield 12, 3) := by decide +kernel
theorem dX5_begin_4 : decode cX5_begin 4 = .ok (.bipush 32, 2) := by decide +kernel
theorem dX5_begin_6 : decode cX5_begin 6 = .ok (.invokevirtual 29, 3) := by decide +kernel
theorem dX5_begin_9 : decode cX5_begin 9 = .ok (.aload_n 0, 1) := by decide +kernel
theorem dX5_begin_10 : decode cX5_begin 10 = .ok (.getfield 18, 3) := by decide +kernel
theorem dX5_begin_13 : decode cX5_begin 13 = .ok (.bipush 8, 2) := by decide +kernel
theorem dX5_begin_15 : decode cX5_begin 15 = .ok (.invokevirtual 29, 3) := by decide +kernel
theorem dX5_begin_18 : decode cX5_begin 18 = .ok (.iconst 0, 1) := by decide +kernel
theorem dX5_begin_19 : decode cX5_begin 19 = .ok (.istore_n 1, 1) := by decide +kernel
theorem dX5_begin_20 : decode cX5_begin 20 = .ok (.iload_n 1, 1) := by decide +kernel
theorem dX5_begin_21 : decode cX5_begin 21 = .ok (.bipush 24, 2) := by decide +kernel
theorem dX5_begin_23 : decode cX5_begin 23 = .ok (.if_icmp .ge 16, 3) := by decide +kernel
theorem dX5_begin_26 : decode cX5_begin 26 = .ok (.aload_n 0, 1) := by decide +kernel
theorem dX5_begin_27 : decode cX5_begin 27 = .ok (.getfield 21, 3) := by decide +kernel
theorem dX5_begin_30 : decode cX5_begin 30 = .ok (.iload_n 1, 1) := by decide +kernel
theorem dX5_begin_31 : decode cX5_begin 31 = .ok (.iconst 0, 1) := by decide +kernel
theorem dX5_begin_32 : decode cX5_begin 32 = .ok (.iastore, 1) := by decide +kernel
theorem dX5_begin_33 : decode cX5_begin 33 = .ok (.iinc 1 1, 3) := by decide +kernel
theorem dX5_begin_36 : decode cX5_begin 36 = .ok (.goto (-16), 3) := by decide +kernel
theorem dX5_begin_39 : decode cX5_begin 39 = .ok (.aload_n 0, 1) := by decide +kernel
theorem dX5_begin_40 : decode cX5_begin 40 = .ok (.iconst 0, 1) := by decide +kernel
theorem dX5_begin_41 : decode cX5_begin 41 = .ok (.putfield 25, 3) := by decide +kernel
theorem dX5_begin_44 : decode cX5_begin 44 = .ok (.return_, 1) := by decide +kernel
theorem dX5_number_0 : decode cX5_number 0 = .ok (.iload_n 1, 1) := by decide +kernel
theorem dX5_number_1 : decode cX5_number 1 = .ok (.bipush 30, 2) := by decide +kernel
theorem dX5_number_3 : decode cX5_number 3 = .ok (.if_icmp .ge 12, 3) := by decide +kernel
theorem dX5_number_6 : decode cX5_number 6 = .ok (.aload_n 0, 1) := by decide +kernel
theorem dX5_number_7 : decode cX5_number 7 = .ok (.getfield 12, 3) := by decide +kernel
theorem dX5_number_10 : decode cX5_number 10 = .ok (.iload_n 1, 1) := by decide +kernel
theorem dX5_number_11 : decode cX5_number 11 = .ok (.invokevirtual 33, 3) := by decide +kernel
theorem dX5_number_14 : decode cX5_number 14 = .ok (.ireturn, 1) := by decide +kernel
theorem dX5_number_15 : decode cX5_number 15 = .ok (.iload_n 1, 1) := by decide +kernel
theorem dX5_number_16 : decode cX5_number 16 = .ok (.bipush 60, 2) := by decide +kernel
theorem dX5_number_18 : decode cX5_number 18 = .ok (.if_icmp .ge 15, 3) := by decide +kernel
theorem dX5_number_21 : decode cX5_number 21 = .ok (.aload_n 0, 1) := by decide +kernel
theorem dX5_number_22 : decode cX5_number 22 = .ok (.getfield 18, 3) := by decide +kernel
theorem dX5_number_25 : decode cX5_number 25 = .ok (.iload_n 1, 1) := by decide +kernel
theorem dX5_number_26 : decode cX5_number 26 = .ok (.bipush 30, 2) := by decide +kernel
theorem dX5_number_28 : decode cX5_number 28 = .ok (.isub, 1) := by decide +kernel
theorem dX5_number_29 : decode cX5_number 29 = .ok (.invokevirtual 33, 3) := by decide +kernel
theorem dX5_number_32 : decode cX5_number 32 = .ok (.ireturn, 1) := by decide +kernel
theorem dX5_number_33 : decode cX5_number 33 = .ok (.iload_n 1, 1) := by decide +kernel
theorem dX5_number_34 : decode cX5_number 34 = .ok (.bipush 84, 2) := by decide +kernel
theorem dX5_number_36 : decode cX5_number 36 = .ok (.if_icmp .ge 15, 3) := by decide +kernel
theorem dX5_number_39 : decode cX5_number 39 = .ok (.aload_n 0, 1) := by decide +kernel
theorem dX5_number_40 : decode cX5_number 40 = .ok (.getfield 21, 3) := by decide +kernel
theorem dX5_number_43 : decode cX5_number 43 = .ok (.iload_n 1, 1) := by decide +kernel
theorem dX5_number_44 : decode cX5_number 44 = .ok (.bipush 60, 2) := by decide +kernel
theorem dX5_number_46 : decode cX5_number 46 = .ok (.isub, 1) := by decide +kernel
theorem dX5_number_47 : decode cX5_number 47 = .ok (.iaload, 1) := by decide +kernel
theorem dX5_number_48 : decode cX5_number 48 = .ok (.goto 5, 3) := by decide +kernel
theorem dX5_number_51 : decode cX5_number 51 = .ok (.ldc 37, 2) := by decide +kernel
theorem dX5_number_53 : decode cX5_number 53 = .ok (.ireturn, 1) := by decide +kernel
theorem dX5_encode_0 : decode cX5_encode 0 = .ok (.aload_n 0, 1) := by decide +kernel
theorem dX5_encode_1 : decode cX5_encode 1 = .ok (.iload_n 1, 1) := by decide +kernel
theorem dX5_encode_2 : decode cX5_encode 2 = .ok (.iload_n 2, 1) := by decide +kernel
theorem dX5_encode_3 : decode cX5_encode 3 = .ok (.invokevirtual 38, 3) := by decide +kernel
theorem dX5_encode_6 : decode cX5_encode 6 = .ok (.aload_n 0, 1) := by decide +kernel
theorem dX5_encode_7 : decode cX5_encode 7 = .ok (.invokevirtual 42, 3) := by decide +kernel
theorem dX5_encode_10 : decode cX5_encode 10 = .ok (.istore_n 3, 1) := by decide +kernel
theorem dX5_encode_11 : decode cX5_encode 11 = .ok (.aload_n 0, 1) := by decide +kernel
theorem dX5_encode_12 : decode cX5_encode 12 = .ok (.invokevirtual 46, 3) := by decide +kernel
theorem dX5_encode_15 : decode cX5_encode 15 = .ok (.istore 4, 2) := by decide +kernel
theorem dX5_encode_17 : decode cX5_encode 17 = .ok (.aload_n 0, 1) := by decide +kernel
theorem dX5_encode_18 : decode cX5_encode 18 = .ok (.aload_n 0, 1) := by decide +kernel
theorem dX5_encode_19 : decode cX5_encode 19 = .ok (.getfield 12, 3) := by decide +kernel
theorem dX5_encode_22 : decode cX5_encode 22 = .ok (.iload 4, 2) := by decide +kernel
theorem dX5_encode_24 : decode cX5_encode 24 = .ok (.iload_n 3, 1) := by decide +kernel
theorem dX5_encode_25 : decode cX5_encode 25 = .ok (.iadd, 1) := by decide +kernel
theorem dX5_encode_26 : decode cX5_encode 26 = .ok (.bipush 14, 2) := by decide +kernel
theorem dX5_encode_28 : decode cX5_encode 28 = .ok (.ishr, 1) := by decide +kernel
theorem dX5_encode_29 : decode cX5_encode 29 = .ok (.invokevirtual 49, 3) := by decide +kernel
theorem dX5_encode_32 : decode cX5_encode 32 = .ok (.invokevirtual 52, 3) := by decide +kernel
theorem dX5_encode_35 : decode cX5_encode 35 = .ok (.istore 5, 2) := by decide +kernel
theorem dX5_encode_37 : decode cX5_encode 37 = .ok (.aload_n 0, 1) := by decide +kernel
theorem dX5_encode_38 : decode cX5_encode 38 = .ok (.aload_n 0, 1) := by decide +kernel
theorem dX5_encode_39 : decode cX5_encode 39 = .ok (.getfield 18, 3) := by decide +kernel
theorem dX5_encode_42 : decode cX5_encode 42 = .ok (.iload 4, 2) := by decide +kernel
theorem dX5_encode_44 : decode cX5_encode 44 = .ok (.iload_n 3, 1) := by decide +kernel
theorem dX5_encode_45 : decode cX5_encode 45 = .ok (.isub, 1) := by decide +kernel
theorem dX5_encode_46 : decode cX5_encode 46 = .ok (.bipush 14, 2) := by decide +kernel
theorem dX5_encode_48 : decode cX5_encode 48 = .ok (.ishr, 1) := by decide +kernel
theorem dX5_encode_49 : decode cX5_encode 49 = .ok (.invokevirtual 49, 3) := by decide +kernel
theorem dX5_encode_52 : decode cX5_encode 52 = .ok (.invokevirtual 55, 3) := by decide +kernel
theorem dX5_encode_55 : decode cX5_encode 55 = .ok (.istore 6, 2) := by decide +kernel
theorem dX5_encode_57 : decode cX5_encode 57 = .ok (.aload_n 0, 1) := by decide +kernel
theorem dX5_encode_58 : decode cX5_encode 58 = .ok (.iload 5, 2) := by decide +kernel
theorem dX5_encode_60 : decode cX5_encode 60 = .ok (.iload 6, 2) := by decide +kernel
theorem dX5_encode_62 : decode cX5_encode 62 = .ok (.invokevirtual 58, 3) := by decide +kernel
theorem dX5_encode_65 : decode cX5_encode 65 = .ok (.bipush 64, 2) := by decide +kernel
theorem dX5_encode_67 : decode cX5_encode 67 = .ok (.iload 6, 2) := by decide +kernel
theorem dX5_encode_69 : decode cX5_encode 69 = .ok (.imul, 1) := by decide +kernel
theorem dX5_encode_70 : decode cX5_encode 70 = .ok (.iload 5, 2) := by decide +kernel
theorem dX5_encode_72 : decode cX5_encode 72 = .ok (.iadd, 1) := by decide +kernel
theorem dX5_encode_73 : decode cX5_encode 73 = .ok (.ireturn, 1) := by decide +kernel
theorem dX5_decode_0 : decode cX5_decode 0 = .ok (.iload_n 1, 1) := by decide +kernel
theorem dX5_decode_1 : decode cX5_decode 1 = .ok (.bipush 63, 2) := by decide +kernel
theorem dX5_decode_3 : decode cX5_decode 3 = .ok (.iand, 1) := by decide +kernel
theorem dX5_decode_4 : decode cX5_decode 4 = .ok (.istore_n 3, 1) := by decide +kernel
theorem dX5_decode_5 : decode cX5_decode 5 = .ok (.iload_n 1, 1) := by decide +kernel
theorem dX5_decode_6 : decode cX5_decode 6 = .ok (.bipush 6, 2) := by decide +kernel
theorem dX5_decode_8 : decode cX5_decode 8 = .ok (.ishr, 1) := by decide +kernel
theorem dX5_decode_9 : decode cX5_decode 9 = .ok (.iconst 3, 1) := by decide +kernel
theorem dX5_decode_10 : decode cX5_decode 10 = .ok (.iand, 1) := by decide +kernel
theorem dX5_decode_11 : decode cX5_decode 11 = .ok (.istore 4, 2) := by decide +kernel
theorem dX5_decode_13 : decode cX5_decode 13 = .ok (.aload_n 0, 1) := by decide +kernel
theorem dX5_decode_14 : decode cX5_decode 14 = .ok (.getfield 12, 3) := by decide +kernel
theorem dX5_decode_17 : decode cX5_decode 17 = .ok (.iload_n 3, 1) := by decide +kernel
theorem dX5_decode_18 : decode cX5_decode 18 = .ok (.iload_n 2, 1) := by decide +kernel
theorem dX5_decode_19 : decode cX5_decode 19 = .ok (.invokestatic 61, 3) := by decide +kernel
theorem dX5_decode_22 : decode cX5_decode 22 = .ok (.invokevirtual 65, 3) := by decide +kernel
theorem dX5_decode_25 : decode cX5_decode 25 = .ok (.istore 5, 2) := by decide +kernel
theorem dX5_decode_27 : decode cX5_decode 27 = .ok (.aload_n 0, 1) := by decide +kernel
theorem dX5_decode_28 : decode cX5_decode 28 = .ok (.getfield 18, 3) := by decide +kernel
theorem dX5_decode_31 : decode cX5_decode 31 = .ok (.getstatic 68, 3) := by decide +kernel
theorem dX5_decode_34 : decode cX5_decode 34 = .ok (.iload 4, 2) := by decide +kernel
theorem dX5_decode_36 : decode cX5_decode 36 = .ok (.iaload, 1) := by decide +kernel
theorem dX5_decode_37 : decode cX5_decode 37 = .ok (.invokevirtual 65, 3) := by decide +kernel
theorem dX5_decode_40 : decode cX5_decode 40 = .ok (.istore 6, 2) := by decide +kernel
theorem dX5_decode_42 : decode cX5_decode 42 = .ok (.aload_n 0, 1) := by decide +kernel
theorem dX5_decode_43 : decode cX5_decode 43 = .ok (.iload_n 3, 1) := by decide +kernel
theorem dX5_decode_44 : decode cX5_decode 44 = .ok (.iload 4, 2) := by decide +kernel
theorem dX5_decode_46 : decode cX5_decode 46 = .ok (.invokevirtual 58, 3) := by decide +kernel
theorem dX5_decode_49 : decode cX5_decode 49 = .ok (.aload_n 0, 1) := by decide +kernel
theorem dX5_decode_50 : decode cX5_decode 50 = .ok (.iload 5, 2) := by decide +kernel
theorem dX5_decode_52 : decode cX5_decode 52 = .ok (.iload 6, 2) := by decide +kernel
theorem dX5_decode_54 : decode cX5_decode 54 = .ok (.iadd, 1) := by decide +kernel
theorem dX5_decode_55 : decode cX5_decode 55 = .ok (.iload 5, 2) := by decide +kernel
theorem dX5_decode_57 : decode cX5_decode 57 = .ok (.iload 6, 2) := by decide +kernel
theorem dX5_decode_59 : decode cX5_decode 59 = .ok (.isub, 1) := by decide +kernel
theorem dX5_decode_60 : decode cX5_decode 60 = .ok (.invokevirtual 38, 3) := by decide +kernel
theorem dX5_decode_63 : decode cX5_decode 63 = .ok (.aload_n 0, 1) := by decide +kernel
theorem dX5_decode_64 : decode cX5_decode 64 = .ok (.aload_n 0, 1) := by decide +kernel
theorem dX5_decode_65 : decode cX5_decode 65 = .ok (.invokevirtual 42, 3) := by decide +kernel
theorem dX5_decode_68 : decode cX5_decode 68 = .ok (.bipush 11, 2) := by decide +kernel
theorem dX5_decode_70 : decode cX5_decode 70 = .ok (.ishr, 1) := by decide +kernel
theorem dX5_decode_71 : decode cX5_decode 71 = .ok (.invokestatic 71, 3) := by decide +kernel
theorem dX5_decode_74 : decode cX5_decode 74 = .ok (.putfield 25, 3) := by decide +kernel
theorem dX5_decode_77 : decode cX5_decode 77 = .ok (.aload_n 0, 1) := by decide +kernel
theorem dX5_decode_78 : decode cX5_decode 78 = .ok (.invokevirtual 46, 3) := by decide +kernel
theorem dX5_decode_81 : decode cX5_decode 81 = .ok (.bipush 11, 2) := by decide +kernel
theorem dX5_decode_83 : decode cX5_decode 83 = .ok (.ishr, 1) := by decide +kernel
theorem dX5_decode_84 : decode cX5_decode 84 = .ok (.invokestatic 71, 3) := by decide +kernel
theorem dX5_decode_87 : decode cX5_decode 87 = .ok (.ireturn, 1) := by decide +kernel
theorem dX5_push_0 : decode cX5_push 0 = .ok (.iconst 0, 1) := by decide +kernel
theorem dX5_push_1 : decode cX5_push 1 = .ok (.istore_n 3, 1) := by decide +kernel
theorem dX5_push_2 : decode cX5_push 2 = .ok (.iload_n 3, 1) := by decide +kernel
theorem dX5_push_3 : decode cX5_push 3 = .ok (.bipush 22, 2) := by decide +kernel
theorem dX5_push_5 : decode cX5_push 5 = .ok (.if_icmp .ge 23, 3) := by decide +kernel
theorem dX5_push_8 : decode cX5_push 8 = .ok (.aload_n 0, 1) := by decide +kernel
theorem dX5_push_9 : decode cX5_push 9 = .ok (.getfield 21, 3) := by decide +kernel
theorem dX5_push_12 : decode cX5_push 12 = .ok (.iload_n 3, 1) := by decide +kernel
theorem dX5_push_13 : decode cX5_push 13 = .ok (.aload_n 0, 1) := by decide +kernel
theorem dX5_push_14 : decode cX5_push 14 = .ok (.getfield 21, 3) := by decide +kernel
theorem dX5_push_17 : decode cX5_push 17 = .ok (.iload_n 3, 1) := by decide +kernel
theorem dX5_push_18 : decode cX5_push 18 = .ok (.iconst 2, 1) := by decide +kernel
theorem dX5_push_19 : decode cX5_push 19 = .ok (.iadd, 1) := by decide +kernel
theorem dX5_push_20 : decode cX5_push 20 = .ok (.iaload, 1) := by decide +kernel
theorem dX5_push_21 : decode cX5_push 21 = .ok (.iastore, 1) := by decide +kernel
theorem dX5_push_22 : decode cX5_push 22 = .ok (.iinc 3 1, 3) := by decide +kernel
theorem dX5_push_25 : decode cX5_push 25 = .ok (.goto (-23), 3) := by decide +kernel
theorem dX5_push_28 : decode cX5_push 28 = .ok (.aload_n 0, 1) := by decide +kernel
theorem dX5_push_29 : decode cX5_push 29 = .ok (.getfield 21, 3) := by decide +kernel
theorem dX5_push_32 : decode cX5_push 32 = .ok (.bipush 22, 2) := by decide +kernel
theorem dX5_push_34 : decode cX5_push 34 = .ok (.iload_n 1, 1) := by decide +kernel
theorem dX5_push_35 : decode cX5_push 35 = .ok (.iastore, 1) := by decide +kernel
theorem dX5_push_36 : decode cX5_push 36 = .ok (.aload_n 0, 1) := by decide +kernel
theorem dX5_push_37 : decode cX5_push 37 = .ok (.getfield 21, 3) := by decide +kernel
theorem dX5_push_40 : decode cX5_push 40 = .ok (.bipush 23, 2) := by decide +kernel
theorem dX5_push_42 : decode cX5_push 42 = .ok (.iload_n 2, 1) := by decide +kernel
theorem dX5_push_43 : decode cX5_push 43 = .ok (.iastore, 1) := by decide +kernel
theorem dX5_push_44 : decode cX5_push 44 = .ok (.return_, 1) := by decide +kernel
theorem dX5_evenSum_0 : decode cX5_evenSum 0 = .ok (.iconst 0, 1) := by decide +kernel
theorem dX5_evenSum_1 : decode cX5_evenSum 1 = .ok (.istore_n 1, 1) := by decide +kernel
theorem dX5_evenSum_2 : decode cX5_evenSum 2 = .ok (.iconst 0, 1) := by decide +kernel
theorem dX5_evenSum_3 : decode cX5_evenSum 3 = .ok (.istore_n 2, 1) := by decide +kernel
theorem dX5_evenSum_4 : decode cX5_evenSum 4 = .ok (.iload_n 2, 1) := by decide +kernel
theorem dX5_evenSum_5 : decode cX5_evenSum 5 = .ok (.bipush 12, 2) := by decide +kernel
theorem dX5_evenSum_7 : decode cX5_evenSum 7 = .ok (.if_icmp .ge 26, 3) := by decide +kernel
theorem dX5_evenSum_10 : decode cX5_evenSum 10 = .ok (.iload_n 1, 1) := by decide +kernel
theorem dX5_evenSum_11 : decode cX5_evenSum 11 = .ok (.aload_n 0, 1) := by decide +kernel
theorem dX5_evenSum_12 : decode cX5_evenSum 12 = .ok (.getfield 21, 3) := by decide +kernel
theorem dX5_evenSum_15 : decode cX5_evenSum 15 = .ok (.iconst 2, 1) := by decide +kernel
theorem dX5_evenSum_16 : decode cX5_evenSum 16 = .ok (.iload_n 2, 1) := by decide +kernel
theorem dX5_evenSum_17 : decode cX5_evenSum 17 = .ok (.imul, 1) := by decide +kernel
theorem dX5_evenSum_18 : decode cX5_evenSum 18 = .ok (.iaload, 1) := by decide +kernel
theorem dX5_evenSum_19 : decode cX5_evenSum 19 = .ok (.getstatic 74, 3) := by decide +kernel
theorem dX5_evenSum_22 : decode cX5_evenSum 22 = .ok (.iload_n 2, 1) := by decide +kernel
theorem dX5_evenSum_23 : decode cX5_evenSum 23 = .ok (.iaload, 1) := by decide +kernel
theorem dX5_evenSum_24 : decode cX5_evenSum 24 = .ok (.imul, 1) := by decide +kernel
theorem dX5_evenSum_25 : decode cX5_evenSum 25 = .ok (.iadd, 1) := by decide +kernel
theorem dX5_evenSum_26 : decode cX5_evenSum 26 = .ok (.istore_n 1, 1) := by decide +kernel
theorem dX5_evenSum_27 : decode cX5_evenSum 27 = .ok (.iinc 2 1, 3) := by decide +kernel
theorem dX5_evenSum_30 : decode cX5_evenSum 30 = .ok (.goto (-26), 3) := by decide +kernel
theorem dX5_evenSum_33 : decode cX5_evenSum 33 = .ok (.iload_n 1, 1) := by decide +kernel
theorem dX5_evenSum_34 : decode cX5_evenSum 34 = .ok (.ireturn, 1) := by decide +kernel
theorem dX5_oddSum_0 : decode cX5_oddSum 0 = .ok (.iconst 0, 1) := by decide +kernel
theorem dX5_oddSum_1 : decode cX5_oddSum 1 = .ok (.istore_n 1, 1) := by decide +kernel
theorem dX5_oddSum_2 : decode cX5_oddSum 2 = .ok (.iconst 0, 1) := by decide +kernel
theorem dX5_oddSum_3 : decode cX5_oddSum 3 = .ok (.istore_n 2, 1) := by decide +kernel
theorem dX5_oddSum_4 : decode cX5_oddSum 4 = .ok (.iload_n 2, 1) := by decide +kernel
theorem dX5_oddSum_5 : decode cX5_oddSum 5 = .ok (.bipush 12, 2) := by decide +kernel
theorem dX5_oddSum_7 : decode cX5_oddSum 7 = .ok (.if_icmp .ge 31, 3) := by decide +kernel
theorem dX5_oddSum_10 : decode cX5_oddSum 10 = .ok (.iload_n 1, 1) := by decide +kernel
theorem dX5_oddSum_11 : decode cX5_oddSum 11 = .ok (.aload_n 0, 1) := by decide +kernel
theorem dX5_oddSum_12 : decode cX5_oddSum 12 = .ok (.getfield 21, 3) := by decide +kernel
theorem dX5_oddSum_15 : decode cX5_oddSum 15 = .ok (.iconst 2, 1) := by decide +kernel
theorem dX5_oddSum_16 : decode cX5_oddSum 16 = .ok (.iload_n 2, 1) := by decide +kernel
theorem dX5_oddSum_17 : decode cX5_oddSum 17 = .ok (.imul, 1) := by decide +kernel
theorem dX5_oddSum_18 : decode cX5_oddSum 18 = .ok (.iconst 1, 1) := by decide +kernel
theorem dX5_oddSum_19 : decode cX5_oddSum 19 = .ok (.iadd, 1) := by decide +kernel
theorem dX5_oddSum_20 : decode cX5_oddSum 20 = .ok (.iaload, 1) := by decide +kernel
theorem dX5_oddSum_21 : decode cX5_oddSum 21 = .ok (.getstatic 74, 3) := by decide +kernel
theorem dX5_oddSum_24 : decode cX5_oddSum 24 = .ok (.bipush 11, 2) := by decide +kernel
theorem dX5_oddSum_26 : decode cX5_oddSum 26 = .ok (.iload_n 2, 1) := by decide +kernel
theorem dX5_oddSum_27 : decode cX5_oddSum 27 = .ok (.isub, 1) := by decide +kernel
theorem dX5_oddSum_28 : decode cX5_oddSum 28 = .ok (.iaload, 1) := by decide +kernel
theorem dX5_oddSum_29 : decode cX5_oddSum 29 = .ok (.imul, 1) := by decide +kernel
theorem dX5_oddSum_30 : decode cX5_oddSum 30 = .ok (.iadd, 1) := by decide +kernel
theorem dX5_oddSum_31 : decode cX5_oddSum 31 = .ok (.istore_n 1, 1) := by decide +kernel
theorem dX5_oddSum_32 : decode cX5_oddSum 32 = .ok (.iinc 2 1, 3) := by decide +kernel
theorem dX5_oddSum_35 : decode cX5_oddSum 35 = .ok (.goto (-31), 3) := by decide +kernel
theorem dX5_oddSum_38 : decode cX5_oddSum 38 = .ok (.iload_n 1, 1) := by decide +kernel
theorem dX5_oddSum_39 : decode cX5_oddSum 39 = .ok (.ireturn, 1) := by decide +kernel
theorem dX5_lowCode_0 : decode cX5_lowCode 0 = .ok (.iload_n 1, 1) := by decide +kernel
theorem dX5_lowCode_1 : decode cX5_lowCode 1 = .ok (.ifCond .ge 10, 3) := by decide +kernel
theorem dX5_lowCode_4 : decode cX5_lowCode 4 = .ok (.iload_n 1, 1) := by decide +kernel
theorem dX5_lowCode_5 : decode cX5_lowCode 5 = .ok (.iconst 1, 1) := by decide +kernel
theorem dX5_lowCode_6 : decode cX5_lowCode 6 = .ok (.iadd, 1) := by decide +kernel
theorem dX5_lowCode_7 : decode cX5_lowCode 7 = .ok (.ineg, 1) := by decide +kernel
theorem dX5_lowCode_8 : decode cX5_lowCode 8 = .ok (.goto 4, 3) := by decide +kernel
theorem dX5_lowCode_11 : decode cX5_lowCode 11 = .ok (.iload_n 1, 1) := by decide +kernel
theorem dX5_lowCode_12 : decode cX5_lowCode 12 = .ok (.istore_n 2, 1) := by decide +kernel
theorem dX5_lowCode_13 : decode cX5_lowCode 13 = .ok (.iconst 1, 1) := by decide +kernel
theorem dX5_lowCode_14 : decode cX5_lowCode 14 = .ok (.istore_n 3, 1) := by decide +kernel
theorem dX5_lowCode_15 : decode cX5_lowCode 15 = .ok (.iload_n 3, 1) := by decide +kernel
theorem dX5_lowCode_16 : decode cX5_lowCode 16 = .ok (.bipush 30, 2) := by decide +kernel
theorem dX5_lowCode_18 : decode cX5_lowCode 18 = .ok (.if_icmp .ge 27, 3) := by decide +kernel
theorem dX5_lowCode_21 : decode cX5_lowCode 21 = .ok (.iload_n 2, 1) := by decide +kernel
theorem dX5_lowCode_22 : decode cX5_lowCode 22 = .ok (.aload_n 0, 1) := by decide +kernel
theorem dX5_lowCode_23 : decode cX5_lowCode 23 = .ok (.getfield 12, 3) := by decide +kernel
theorem dX5_lowCode_26 : decode cX5_lowCode 26 = .ok (.getstatic 77, 3) := by decide +kernel
theorem dX5_lowCode_29 : decode cX5_lowCode 29 = .ok (.iload_n 3, 1) := by decide +kernel
theorem dX5_lowCode_30 : decode cX5_lowCode 30 = .ok (.iconst 1, 1) := by decide +kernel
theorem dX5_lowCode_31 : decode cX5_lowCode 31 = .ok (.isub, 1) := by decide +kernel
theorem dX5_lowCode_32 : decode cX5_lowCode 32 = .ok (.iaload, 1) := by decide +kernel
theorem dX5_lowCode_33 : decode cX5_lowCode 33 = .ok (.invokevirtual 80, 3) := by decide +kernel
theorem dX5_lowCode_36 : decode cX5_lowCode 36 = .ok (.if_icmp .lt 9, 3) := by decide +kernel
theorem dX5_lowCode_39 : decode cX5_lowCode 39 = .ok (.iinc 3 1, 3) := by decide +kernel
theorem dX5_lowCode_42 : decode cX5_lowCode 42 = .ok (.goto (-27), 3) := by decide +kernel
theorem dX5_lowCode_45 : decode cX5_lowCode 45 = .ok (.iload_n 1, 1) := by decide +kernel
theorem dX5_lowCode_46 : decode cX5_lowCode 46 = .ok (.ifCond .lt 8, 3) := by decide +kernel
theorem dX5_lowCode_49 : decode cX5_lowCode 49 = .ok (.bipush 62, 2) := by decide +kernel
theorem dX5_lowCode_51 : decode cX5_lowCode 51 = .ok (.iload_n 3, 1) := by decide +kernel
theorem dX5_lowCode_52 : decode cX5_lowCode 52 = .ok (.isub, 1) := by decide +kernel
theorem dX5_lowCode_53 : decode cX5_lowCode 53 = .ok (.ireturn, 1) := by decide +kernel
theorem dX5_lowCode_54 : decode cX5_lowCode 54 = .ok (.iload_n 3, 1) := by decide +kernel
theorem dX5_lowCode_55 : decode cX5_lowCode 55 = .ok (.iconst 3, 1) := by decide +kernel
theorem dX5_lowCode_56 : decode cX5_lowCode 56 = .ok (.if_icmp .ge 10, 3) := by decide +kernel
theorem dX5_lowCode_59 : decode cX5_lowCode 59 = .ok (.bipush 64, 2) := by decide +kernel
theorem dX5_lowCode_61 : decode cX5_lowCode 61 = .ok (.iload_n 3, 1) := by decide +kernel
theorem dX5_lowCode_62 : decode cX5_lowCode 62 = .ok (.isub, 1) := by decide +kernel
theorem dX5_lowCode_63 : decode cX5_lowCode 63 = .ok (.goto 7, 3) := by decide +kernel
theorem dX5_lowCode_66 : decode cX5_lowCode 66 = .ok (.bipush 34, 2) := by decide +kernel
theorem dX5_lowCode_68 : decode cX5_lowCode 68 = .ok (.iload_n 3, 1) := by decide +kernel
theorem dX5_lowCode_69 : decode cX5_lowCode 69 = .ok (.isub, 1) := by decide +kernel
theorem dX5_lowCode_70 : decode cX5_lowCode 70 = .ok (.ireturn, 1) := by decide +kernel
theorem dX5_highCode_0 : decode cX5_highCode 0 = .ok (.iload_n 1, 1) := by decide +kernel
theorem dX5_highCode_1 : decode cX5_highCode 1 = .ok (.ifCond .ge 10, 3) := by decide +kernel
theorem dX5_highCode_4 : decode cX5_highCode 4 = .ok (.iload_n 1, 1) := by decide +kernel
theorem dX5_highCode_5 : decode cX5_highCode 5 = .ok (.iconst 1, 1) := by decide +kernel
theorem dX5_highCode_6 : decode cX5_highCode 6 = .ok (.iadd, 1) := by decide +kernel
theorem dX5_highCode_7 : decode cX5_highCode 7 = .ok (.ineg, 1) := by decide +kernel
theorem dX5_highCode_8 : decode cX5_highCode 8 = .ok (.goto 4, 3) := by decide +kernel
theorem dX5_highCode_11 : decode cX5_highCode 11 = .ok (.iload_n 1, 1) := by decide +kernel
theorem dX5_highCode_12 : decode cX5_highCode 12 = .ok (.istore_n 2, 1) := by decide +kernel
theorem dX5_highCode_13 : decode cX5_highCode 13 = .ok (.iload_n 2, 1) := by decide +kernel
theorem dX5_highCode_14 : decode cX5_highCode 14 = .ok (.aload_n 0, 1) := by decide +kernel
theorem dX5_highCode_15 : decode cX5_highCode 15 = .ok (.getfield 18, 3) := by decide +kernel
theorem dX5_highCode_18 : decode cX5_highCode 18 = .ok (.sipush 564, 3) := by decide +kernel
theorem dX5_highCode_21 : decode cX5_highCode 21 = .ok (.invokevirtual 80, 3) := by decide +kernel
theorem dX5_highCode_24 : decode cX5_highCode 24 = .ok (.if_icmp .ge 7, 3) := by decide +kernel
theorem dX5_highCode_27 : decode cX5_highCode 27 = .ok (.iconst 1, 1) := by decide +kernel
theorem dX5_highCode_28 : decode cX5_highCode 28 = .ok (.goto 4, 3) := by decide +kernel
theorem dX5_highCode_31 : decode cX5_highCode 31 = .ok (.iconst 0, 1) := by decide +kernel
theorem dX5_highCode_32 : decode cX5_highCode 32 = .ok (.istore_n 3, 1) := by decide +kernel
theorem dX5_highCode_33 : decode cX5_highCode 33 = .ok (.iload_n 1, 1) := by decide +kernel
theorem dX5_highCode_34 : decode cX5_highCode 34 = .ok (.ifCond .ge 7, 3) := by decide +kernel
theorem dX5_highCode_37 : decode cX5_highCode 37 = .ok (.iload_n 3, 1) := by decide +kernel
theorem dX5_highCode_38 : decode cX5_highCode 38 = .ok (.goto 6, 3) := by decide +kernel
theorem dX5_highCode_41 : decode cX5_highCode 41 = .ok (.iconst 2, 1) := by decide +kernel
theorem dX5_highCode_42 : decode cX5_highCode 42 = .ok (.iload_n 3, 1) := by decide +kernel
theorem dX5_highCode_43 : decode cX5_highCode 43 = .ok (.iadd, 1) := by decide +kernel
theorem dX5_highCode_44 : decode cX5_highCode 44 = .ok (.ireturn, 1) := by decide +kernel
theorem dX5_lowFactor_0 : decode cX5_lowFactor 0 = .ok (.iload_n 1, 1) := by decide +kernel
theorem dX5_lowFactor_1 : decode cX5_lowFactor 1 = .ok (.bipush 6, 2) := by decide +kernel
theorem dX5_lowFactor_3 : decode cX5_lowFactor 3 = .ok (.if_icmp .ne 12, 3) := by decide +kernel
theorem dX5_lowFactor_6 : decode cX5_lowFactor 6 = .ok (.getstatic 83, 3) := by decide +kernel
theorem dX5_lowFactor_9 : decode cX5_lowFactor 9 = .ok (.iload_n 0, 1) := by decide +kernel
theorem dX5_lowFactor_10 : decode cX5_lowFactor 10 = .ok (.bipush 63, 2) := by decide +kernel
theorem dX5_lowFactor_12 : decode cX5_lowFactor 12 = .ok (.iand, 1) := by decide +kernel
theorem dX5_lowFactor_13 : decode cX5_lowFactor 13 = .ok (.iaload, 1) := by decide +kernel
theorem dX5_lowFactor_14 : decode cX5_lowFactor 14 = .ok (.ireturn, 1) := by decide +kernel
theorem dX5_lowFactor_15 : decode cX5_lowFactor 15 = .ok (.iload_n 1, 1) := by decide +kernel
theorem dX5_lowFactor_16 : decode cX5_lowFactor 16 = .ok (.bipush 7, 2) := by decide +kernel
theorem dX5_lowFactor_18 : decode cX5_lowFactor 18 = .ok (.if_icmp .ne 14, 3) := by decide +kernel
theorem dX5_lowFactor_21 : decode cX5_lowFactor 21 = .ok (.getstatic 86, 3) := by decide +kernel
theorem dX5_lowFactor_24 : decode cX5_lowFactor 24 = .ok (.iload_n 0, 1) := by decide +kernel
theorem dX5_lowFactor_25 : decode cX5_lowFactor 25 = .ok (.iconst 1, 1) := by decide +kernel
theorem dX5_lowFactor_26 : decode cX5_lowFactor 26 = .ok (.ishr, 1) := by decide +kernel
theorem dX5_lowFactor_27 : decode cX5_lowFactor 27 = .ok (.bipush 31, 2) := by decide +kernel
theorem dX5_lowFactor_29 : decode cX5_lowFactor 29 = .ok (.iand, 1) := by decide +kernel
theorem dX5_lowFactor_30 : decode cX5_lowFactor 30 = .ok (.iaload, 1) := by decide +kernel
theorem dX5_lowFactor_31 : decode cX5_lowFactor 31 = .ok (.ireturn, 1) := by decide +kernel
theorem dX5_lowFactor_32 : decode cX5_lowFactor 32 = .ok (.getstatic 89, 3) := by decide +kernel
theorem dX5_lowFactor_35 : decode cX5_lowFactor 35 = .ok (.iload_n 0, 1) := by decide +kernel
theorem dX5_lowFactor_36 : decode cX5_lowFactor 36 = .ok (.iconst 2, 1) := by decide +kernel
theorem dX5_lowFactor_37 : decode cX5_lowFactor 37 = .ok (.ishr, 1) := by decide +kernel
theorem dX5_lowFactor_38 : decode cX5_lowFactor 38 = .ok (.bipush 15, 2) := by decide +kernel
theorem dX5_lowFactor_40 : decode cX5_lowFactor 40 = .ok (.iand, 1) := by decide +kernel
theorem dX5_lowFactor_41 : decode cX5_lowFactor 41 = .ok (.iaload, 1) := by decide +kernel
theorem dX5_lowFactor_42 : decode cX5_lowFactor 42 = .ok (.ireturn, 1) := by decide +kernel
theorem dX5_settle_0 : decode cX5_settle 0 = .ok (.iload_n 1, 1) := by decide +kernel
theorem dX5_settle_1 : decode cX5_settle 1 = .ok (.iconst 2, 1) := by decide +kernel
theorem dX5_settle_2 : decode cX5_settle 2 = .ok (.ishr, 1) := by decide +kernel
theorem dX5_settle_3 : decode cX5_settle 3 = .ok (.bipush 15, 2) := by decide +kernel
theorem dX5_settle_5 : decode cX5_settle 5 = .ok (.iand, 1) := by decide +kernel
theorem dX5_settle_6 : decode cX5_settle 6 = .ok (.istore_n 3, 1) := by decide +kernel
theorem dX5_settle_7 : decode cX5_settle 7 = .ok (.aload_n 0, 1) := by decide +kernel
theorem dX5_settle_8 : decode cX5_settle 8 = .ok (.getfield 12, 3) := by decide +kernel
theorem dX5_settle_11 : decode cX5_settle 11 = .ok (.getstatic 89, 3) := by decide +kernel
theorem dX5_settle_14 : decode cX5_settle 14 = .ok (.iload_n 3, 1) := by decide +kernel
theorem dX5_settle_15 : decode cX5_settle 15 = .ok (.iaload, 1) := by decide +kernel
theorem dX5_settle_16 : decode cX5_settle 16 = .ok (.getstatic 92, 3) := by decide +kernel
theorem dX5_settle_19 : decode cX5_settle 19 = .ok (.iload_n 3, 1) := by decide +kernel
theorem dX5_settle_20 : decode cX5_settle 20 = .ok (.iaload, 1) := by decide +kernel
theorem dX5_settle_21 : decode cX5_settle 21 = .ok (.sipush 18432, 3) := by decide +kernel
theorem dX5_settle_24 : decode cX5_settle 24 = .ok (.bipush 8, 2) := by decide +kernel
theorem dX5_settle_26 : decode cX5_settle 26 = .ok (.invokevirtual 95, 3) := by decide +kernel
theorem dX5_settle_29 : decode cX5_settle 29 = .ok (.aload_n 0, 1) := by decide +kernel
theorem dX5_settle_30 : decode cX5_settle 30 = .ok (.getfield 18, 3) := by decide +kernel
theorem dX5_settle_33 : decode cX5_settle 33 = .ok (.getstatic 68, 3) := by decide +kernel
theorem dX5_settle_36 : decode cX5_settle 36 = .ok (.iload_n 2, 1) := by decide +kernel
theorem dX5_settle_37 : decode cX5_settle 37 = .ok (.iconst 3, 1) := by decide +kernel
theorem dX5_settle_38 : decode cX5_settle 38 = .ok (.iand, 1) := by decide +kernel
theorem dX5_settle_39 : decode cX5_settle 39 = .ok (.iaload, 1) := by decide +kernel
theorem dX5_settle_40 : decode cX5_settle 40 = .ok (.getstatic 98, 3) := by decide +kernel
theorem dX5_settle_43 : decode cX5_settle 43 = .ok (.iload_n 2, 1) := by decide +kernel
theorem dX5_settle_44 : decode cX5_settle 44 = .ok (.iconst 3, 1) := by decide +kernel
theorem dX5_settle_45 : decode cX5_settle 45 = .ok (.iand, 1) := by decide +kernel
theorem dX5_settle_46 : decode cX5_settle 46 = .ok (.iaload, 1) := by decide +kernel
theorem dX5_settle_47 : decode cX5_settle 47 = .ok (.sipush 22528, 3) := by decide +kernel
theorem dX5_settle_50 : decode cX5_settle 50 = .ok (.bipush 10, 2) := by decide +kernel
theorem dX5_settle_52 : decode cX5_settle 52 = .ok (.invokevirtual 95, 3) := by decide +kernel
theorem dX5_settle_55 : decode cX5_settle 55 = .ok (.return_, 1) := by decide +kernel
theorem dX6_init_0 : decode cX6_init 0 = .ok (.aload_n 0, 1) := by decide +kernel
theorem dX6_init_1 : decode cX6_init 1 = .ok (.invokespecial 1, 3) := by decide +kernel
theorem dX6_init_4 : decode cX6_init 4 = .ok (.aload_n 0, 1) := by decide +kernel
theorem dX6_init_5 : decode cX6_init 5 = .ok (.iconst 4, 1) := by decide +kernel
theorem dX6_init_6 : decode cX6_init 6 = .ok (.anewarray 9, 3) := by decide +kernel
theorem dX6_init_9 : decode cX6_init 9 = .ok (.putfield 11, 3) := by decide +kernel
theorem dX6_init_12 : decode cX6_init 12 = .ok (.iconst 0, 1) := by decide +kernel
theorem dX6_init_13 : decode cX6_init 13 = .ok (.istore_n 1, 1) := by decide +kernel
theorem dX6_init_14 : decode cX6_init 14 = .ok (.iload_n 1, 1) := by decide +kernel
theorem dX6_init_15 : decode cX6_init 15 = .ok (.iconst 4, 1) := by decide +kernel
theorem dX6_init_16 : decode cX6_init 16 = .ok (.if_icmp .ge 22, 3) := by decide +kernel
theorem dX6_init_19 : decode cX6_init 19 = .ok (.aload_n 0, 1) := by decide +kernel
theorem dX6_init_20 : decode cX6_init 20 = .ok (.getfield 11, 3) := by decide +kernel
theorem dX6_init_23 : decode cX6_init 23 = .ok (.iload_n 1, 1) := by decide +kernel
theorem dX6_init_24 : decode cX6_init 24 = .ok (.new 9, 3) := by decide +kernel
theorem dX6_init_27 : decode cX6_init 27 = .ok (.dup, 1) := by decide +kernel
theorem dX6_init_28 : decode cX6_init 28 = .ok (.invokespecial 15, 3) := by decide +kernel
theorem dX6_init_31 : decode cX6_init 31 = .ok (.aastore, 1) := by decide +kernel
theorem dX6_init_32 : decode cX6_init 32 = .ok (.iinc 1 1, 3) := by decide +kernel
theorem dX6_init_35 : decode cX6_init 35 = .ok (.goto (-21), 3) := by decide +kernel
theorem dX6_init_38 : decode cX6_init 38 = .ok (.aload_n 0, 1) := by decide +kernel
theorem dX6_init_39 : decode cX6_init 39 = .ok (.new 16, 3) := by decide +kernel
theorem dX6_init_42 : decode cX6_init 42 = .ok (.dup, 1) := by decide +kernel
theorem dX6_init_43 : decode cX6_init 43 = .ok (.invokespecial 18, 3) := by decide +kernel
theorem dX6_init_46 : decode cX6_init 46 = .ok (.putfield 19, 3) := by decide +kernel
theorem dX6_init_49 : decode cX6_init 49 = .ok (.aload_n 0, 1) := by decide +kernel
theorem dX6_init_50 : decode cX6_init 50 = .ok (.new 16, 3) := by decide +kernel
theorem dX6_init_53 : decode cX6_init 53 = .ok (.dup, 1) := by decide +kernel
theorem dX6_init_54 : decode cX6_init 54 = .ok (.invokespecial 18, 3) := by decide +kernel
theorem dX6_init_57 : decode cX6_init 57 = .ok (.putfield 23, 3) := by decide +kernel
theorem dX6_init_60 : decode cX6_init 60 = .ok (.return_, 1) := by decide +kernel
theorem dX6_open_0 : decode cX6_open 0 = .ok (.iload_n 1, 1) := by decide +kernel
theorem dX6_open_1 : decode cX6_open 1 = .ok (.ifCond .lt 18, 3) := by decide +kernel
theorem dX6_open_4 : decode cX6_open 4 = .ok (.iload_n 1, 1) := by decide +kernel
theorem dX6_open_5 : decode cX6_open 5 = .ok (.iconst 4, 1) := by decide +kernel
theorem dX6_open_6 : decode cX6_open 6 = .ok (.if_icmp .ge 13, 3) := by decide +kernel
theorem dX6_open_9 : decode cX6_open 9 = .ok (.iload_n 2, 1) := by decide +kernel
theorem dX6_open_10 : decode cX6_open 10 = .ok (.ifCond .lt 9, 3) := by decide +kernel
theorem dX6_open_13 : decode cX6_open 13 = .ok (.iload_n 2, 1) := by decide +kernel
theorem dX6_open_14 : decode cX6_open 14 = .ok (.bipush 8, 2) := by decide +kernel
theorem dX6_open_16 : decode cX6_open 16 = .ok (.if_icmp .le 5, 3) := by decide +kernel
theorem dX6_open_19 : decode cX6_open 19 = .ok (.iconst 0, 1) := by decide +kernel
theorem dX6_open_20 : decode cX6_open 20 = .ok (.ireturn, 1) := by decide +kernel
theorem dX6_open_21 : decode cX6_open 21 = .ok (.aload_n 0, 1) := by decide +kernel
theorem dX6_open_22 : decode cX6_open 22 = .ok (.getfield 11, 3) := by decide +kernel
theorem dX6_open_25 : decode cX6_open 25 = .ok (.iload_n 1, 1) := by decide +kernel
theorem dX6_open_26 : decode cX6_open 26 = .ok (.aaload, 1) := by decide +kernel
theorem dX6_open_27 : decode cX6_open 27 = .ok (.iload_n 2, 1) := by decide +kernel
theorem dX6_open_28 : decode cX6_open 28 = .ok (.invokevirtual 26, 3) := by decide +kernel
theorem dX6_open_31 : decode cX6_open 31 = .ok (.iconst 1, 1) := by decide +kernel
theorem dX6_open_32 : decode cX6_open 32 = .ok (.ireturn, 1) := by decide +kernel
theorem dX6_kind_0 : decode cX6_kind 0 = .ok (.aload_n 0, 1) := by decide +kernel
theorem dX6_kind_1 : decode cX6_kind 1 = .ok (.iload_n 1, 1) := by decide +kernel
theorem dX6_kind_2 : decode cX6_kind 2 = .ok (.invokevirtual 30, 3) := by decide +kernel
theorem dX6_kind_5 : decode cX6_kind 5 = .ok (.astore_n 2, 1) := by decide +kernel
theorem dX6_kind_6 : decode cX6_kind 6 = .ok (.aload_n 2, 1) := by decide +kernel
theorem dX6_kind_7 : decode cX6_kind 7 = .ok (.ifnonnull 8, 3) := by decide +kernel
theorem dX6_kind_10 : decode cX6_kind 10 = .ok (.ldc 34, 2) := by decide +kernel
theorem dX6_kind_12 : decode cX6_kind 12 = .ok (.goto 7, 3) := by decide +kernel
theorem dX6_kind_15 : decode cX6_kind 15 = .ok (.aload_n 2, 1) := by decide +kernel
theorem dX6_kind_16 : decode cX6_kind 16 = .ok (.getfield 35, 3) := by decide +kernel
theorem dX6_kind_19 : decode cX6_kind 19 = .ok (.ireturn, 1) := by decide +kernel
theorem dX6_say_0 : decode cX6_say 0 = .ok (.aload_n 0, 1) := by decide +kernel
theorem dX6_say_1 : decode cX6_say 1 = .ok (.iload_n 1, 1) := by decide +kernel
theorem dX6_say_2 : decode cX6_say 2 = .ok (.invokevirtual 30, 3) := by decide +kernel
theorem dX6_say_5 : decode cX6_say 5 = .ok (.astore_n 3, 1) := by decide +kernel
theorem dX6_say_6 : decode cX6_say 6 = .ok (.aload_n 3, 1) := by decide +kernel
theorem dX6_say_7 : decode cX6_say 7 = .ok (.ifnull 17, 3) := by decide +kernel
theorem dX6_say_10 : decode cX6_say 10 = .ok (.aload_n 3, 1) := by decide +kernel
theorem dX6_say_11 : decode cX6_say 11 = .ok (.invokevirtual 39, 3) := by decide +kernel
theorem dX6_say_14 : decode cX6_say 14 = .ok (.ifCond .ne 10, 3) := by decide +kernel
theorem dX6_say_17 : decode cX6_say 17 = .ok (.iload_n 2, 1) := by decide +kernel
theorem dX6_say_18 : decode cX6_say 18 = .ok (.invokestatic 43, 3) := by decide +kernel
theorem dX6_say_21 : decode cX6_say 21 = .ok (.ifCond .ne 6, 3) := by decide +kernel
theorem dX6_say_24 : decode cX6_say 24 = .ok (.ldc 34, 2) := by decide +kernel
theorem dX6_say_26 : decode cX6_say 26 = .ok (.ireturn, 1) := by decide +kernel
theorem dX6_say_27 : decode cX6_say 27 = .ok (.aload_n 3, 1) := by decide +kernel
theorem dX6_say_28 : decode cX6_say 28 = .ok (.iload_n 2, 1) := by decide +kernel
theorem dX6_say_29 : decode cX6_say 29 = .ok (.iconst 0, 1) := by decide +kernel
theorem dX6_say_30 : decode cX6_say 30 = .ok (.invokevirtual 47, 3) := by decide +kernel
theorem dX6_say_33 : decode cX6_say 33 = .ok (.ireturn, 1) := by decide +kernel
theorem dX6_pair_0 : decode cX6_pair 0 = .ok (.aload_n 0, 1) := by decide +kernel
theorem dX6_pair_1 : decode cX6_pair 1 = .ok (.iload_n 1, 1) := by decide +kernel
theorem dX6_pair_2 : decode cX6_pair 2 = .ok (.invokevirtual 30, 3) := by decide +kernel
theorem dX6_pair_5 : decode cX6_pair 5 = .ok (.astore 4, 2) := by decide +kernel
theorem dX6_pair_7 : decode cX6_pair 7 = .ok (.aload 4, 2) := by decide +kernel
theorem dX6_pair_9 : decode cX6_pair 9 = .ok (.ifnull 25, 3) := by decide +kernel
theorem dX6_pair_12 : decode cX6_pair 12 = .ok (.aload 4, 2) := by decide +kernel
theorem dX6_pair_14 : decode cX6_pair 14 = .ok (.invokevirtual 39, 3) := by decide +kernel
theorem dX6_pair_17 : decode cX6_pair 17 = .ok (.ifCond .eq 17, 3) := by decide +kernel
theorem dX6_pair_20 : decode cX6_pair 20 = .ok (.iload_n 2, 1) := by decide +kernel
theorem dX6_pair_21 : decode cX6_pair 21 = .ok (.invokestatic 43, 3) := by decide +kernel
theorem dX6_pair_24 : decode cX6_pair 24 = .ok (.ifCond .eq 10, 3) := by decide +kernel
theorem dX6_pair_27 : decode cX6_pair 27 = .ok (.iload_n 3, 1) := by decide +kernel
theorem dX6_pair_28 : decode cX6_pair 28 = .ok (.invokestatic 43, 3) := by decide +kernel
theorem dX6_pair_31 : decode cX6_pair 31 = .ok (.ifCond .ne 6, 3) := by decide +kernel
theorem dX6_pair_34 : decode cX6_pair 34 = .ok (.ldc 34, 2) := by decide +kernel
theorem dX6_pair_36 : decode cX6_pair 36 = .ok (.ireturn, 1) := by decide +kernel
theorem dX6_pair_37 : decode cX6_pair 37 = .ok (.aload 4, 2) := by decide +kernel
theorem dX6_pair_39 : decode cX6_pair 39 = .ok (.iload_n 2, 1) := by decide +kernel
theorem dX6_pair_40 : decode cX6_pair 40 = .ok (.iload_n 3, 1) := by decide +kernel
theorem dX6_pair_41 : decode cX6_pair 41 = .ok (.invokevirtual 47, 3) := by decide +kernel
theorem dX6_pair_44 : decode cX6_pair 44 = .ok (.ireturn, 1) := by decide +kernel
theorem dX6_hear_0 : decode cX6_hear 0 = .ok (.aload_n 0, 1) := by decide +kernel
theorem dX6_hear_1 : decode cX6_hear 1 = .ok (.iload_n 1, 1) := by decide +kernel
theorem dX6_hear_2 : decode cX6_hear 2 = .ok (.invokevirtual 30, 3) := by decide +kernel
theorem dX6_hear_5 : decode cX6_hear 5 = .ok (.astore_n 3, 1) := by decide +kernel
theorem dX6_hear_6 : decode cX6_hear 6 = .ok (.aload_n 3, 1) := by decide +kernel
theorem dX6_hear_7 : decode cX6_hear 7 = .ok (.ifnull 11, 3) := by decide +kernel
theorem dX6_hear_10 : decode cX6_hear 10 = .ok (.aload_n 3, 1) := by decide +kernel
theorem dX6_hear_11 : decode cX6_hear 11 = .ok (.iload_n 2, 1) := by decide +kernel
theorem dX6_hear_12 : decode cX6_hear 12 = .ok (.invokevirtual 51, 3) := by decide +kernel
theorem dX6_hear_15 : decode cX6_hear 15 = .ok (.ifCond .ne 6, 3) := by decide +kernel
theorem dX6_hear_18 : decode cX6_hear 18 = .ok (.ldc 34, 2) := by decide +kernel
theorem dX6_hear_20 : decode cX6_hear 20 = .ok (.ireturn, 1) := by decide +kernel
theorem dX6_hear_21 : decode cX6_hear 21 = .ok (.aload_n 3, 1) := by decide +kernel
theorem dX6_hear_22 : decode cX6_hear 22 = .ok (.iload_n 2, 1) := by decide +kernel
theorem dX6_hear_23 : decode cX6_hear 23 = .ok (.invokevirtual 54, 3) := by decide +kernel
theorem dX6_hear_26 : decode cX6_hear 26 = .ok (.ireturn, 1) := by decide +kernel
theorem dX6_second_0 : decode cX6_second 0 = .ok (.aload_n 0, 1) := by decide +kernel
theorem dX6_second_1 : decode cX6_second 1 = .ok (.iload_n 1, 1) := by decide +kernel
theorem dX6_second_2 : decode cX6_second 2 = .ok (.invokevirtual 30, 3) := by decide +kernel
theorem dX6_second_5 : decode cX6_second 5 = .ok (.astore_n 2, 1) := by decide +kernel
theorem dX6_second_6 : decode cX6_second 6 = .ok (.aload_n 2, 1) := by decide +kernel
theorem dX6_second_7 : decode cX6_second 7 = .ok (.ifnull 10, 3) := by decide +kernel
theorem dX6_second_10 : decode cX6_second 10 = .ok (.aload_n 2, 1) := by decide +kernel
theorem dX6_second_11 : decode cX6_second 11 = .ok (.invokevirtual 39, 3) := by decide +kernel
theorem dX6_second_14 : decode cX6_second 14 = .ok (.ifCond .ne 6, 3) := by decide +kernel
theorem dX6_second_17 : decode cX6_second 17 = .ok (.ldc 34, 2) := by decide +kernel
theorem dX6_second_19 : decode cX6_second 19 = .ok (.ireturn, 1) := by decide +kernel
theorem dX6_second_20 : decode cX6_second 20 = .ok (.aload_n 2, 1) := by decide +kernel
theorem dX6_second_21 : decode cX6_second 21 = .ok (.invokevirtual 58, 3) := by decide +kernel
theorem dX6_second_24 : decode cX6_second 24 = .ok (.ireturn, 1) := by decide +kernel
theorem dX6_inner_0 : decode cX6_inner 0 = .ok (.aload_n 0, 1) := by decide +kernel
theorem dX6_inner_1 : decode cX6_inner 1 = .ok (.iload_n 1, 1) := by decide +kernel
theorem dX6_inner_2 : decode cX6_inner 2 = .ok (.invokevirtual 30, 3) := by decide +kernel
theorem dX6_inner_5 : decode cX6_inner 5 = .ok (.astore 4, 2) := by decide +kernel
theorem dX6_inner_7 : decode cX6_inner 7 = .ok (.aload 4, 2) := by decide +kernel
theorem dX6_inner_9 : decode cX6_inner 9 = .ok (.ifnull 12, 3) := by decide +kernel
theorem dX6_inner_12 : decode cX6_inner 12 = .ok (.iload_n 2, 1) := by decide +kernel
theorem dX6_inner_13 : decode cX6_inner 13 = .ok (.ifCond .eq 11, 3) := by decide +kernel
theorem dX6_inner_16 : decode cX6_inner 16 = .ok (.iload_n 2, 1) := by decide +kernel
theorem dX6_inner_17 : decode cX6_inner 17 = .ok (.iconst 1, 1) := by decide +kernel
theorem dX6_inner_18 : decode cX6_inner 18 = .ok (.if_icmp .eq 6, 3) := by decide +kernel
theorem dX6_inner_21 : decode cX6_inner 21 = .ok (.ldc 34, 2) := by decide +kernel
theorem dX6_inner_23 : decode cX6_inner 23 = .ok (.ireturn, 1) := by decide +kernel
theorem dX6_inner_24 : decode cX6_inner 24 = .ok (.aload 4, 2) := by decide +kernel
theorem dX6_inner_26 : decode cX6_inner 26 = .ok (.iload_n 2, 1) := by decide +kernel
theorem dX6_inner_27 : decode cX6_inner 27 = .ok (.ifCond .ne 7, 3) := by decide +kernel
theorem dX6_inner_30 : decode cX6_inner 30 = .ok (.iconst 1, 1) := by decide +kernel
theorem dX6_inner_31 : decode cX6_inner 31 = .ok (.goto 4, 3) := by decide +kernel
theorem dX6_inner_34 : decode cX6_inner 34 = .ok (.iconst 0, 1) := by decide +kernel
theorem dX6_inner_35 : decode cX6_inner 35 = .ok (.iload_n 3, 1) := by decide +kernel
theorem dX6_inner_36 : decode cX6_inner 36 = .ok (.invokevirtual 62, 3) := by decide +kernel
theorem dX6_inner_39 : decode cX6_inner 39 = .ok (.ireturn, 1) := by decide +kernel
theorem dX6_feed_0 : decode cX6_feed 0 = .ok (.aload_n 0, 1) := by decide +kernel
theorem dX6_feed_1 : decode cX6_feed 1 = .ok (.getfield 19, 3) := by decide +kernel
theorem dX6_feed_4 : decode cX6_feed 4 = .ok (.getfield 66, 3) := by decide +kernel
theorem dX6_feed_7 : decode cX6_feed 7 = .ok (.sipush 980, 3) := by decide +kernel
theorem dX6_feed_10 : decode cX6_feed 10 = .ok (.if_icmp .le 6, 3) := by decide +kernel
theorem dX6_feed_13 : decode cX6_feed 13 = .ok (.ldc 34, 2) := by decide +kernel
theorem dX6_feed_15 : decode cX6_feed 15 = .ok (.ireturn, 1) := by decide +kernel
theorem dX6_feed_16 : decode cX6_feed 16 = .ok (.aload_n 0, 1) := by decide +kernel
theorem dX6_feed_17 : decode cX6_feed 17 = .ok (.getfield 19, 3) := by decide +kernel
theorem dX6_feed_20 : decode cX6_feed 20 = .ok (.iload_n 1, 1) := by decide +kernel
theorem dX6_feed_21 : decode cX6_feed 21 = .ok (.invokevirtual 69, 3) := by decide +kernel
theorem dX6_feed_24 : decode cX6_feed 24 = .ok (.aload_n 0, 1) := by decide +kernel
theorem dX6_feed_25 : decode cX6_feed 25 = .ok (.getfield 19, 3) := by decide +kernel
theorem dX6_feed_28 : decode cX6_feed 28 = .ok (.iload_n 2, 1) := by decide +kernel
theorem dX6_feed_29 : decode cX6_feed 29 = .ok (.invokevirtual 69, 3) := by decide +kernel
theorem dX6_feed_32 : decode cX6_feed 32 = .ok (.aload_n 0, 1) := by decide +kernel
theorem dX6_feed_33 : decode cX6_feed 33 = .ok (.getfield 19, 3) := by decide +kernel
theorem dX6_feed_36 : decode cX6_feed 36 = .ok (.iload_n 3, 1) := by decide +kernel
theorem dX6_feed_37 : decode cX6_feed 37 = .ok (.invokevirtual 69, 3) := by decide +kernel
theorem dX6_feed_40 : decode cX6_feed 40 = .ok (.aload_n 0, 1) := by decide +kernel
theorem dX6_feed_41 : decode cX6_feed 41 = .ok (.getfield 19, 3) := by decide +kernel
theorem dX6_feed_44 : decode cX6_feed 44 = .ok (.iload 4, 2) := by decide +kernel
theorem dX6_feed_46 : decode cX6_feed 46 = .ok (.invokevirtual 69, 3) := by decide +kernel
theorem dX6_feed_49 : decode cX6_feed 49 = .ok (.aload_n 0, 1) := by decide +kernel
theorem dX6_feed_50 : decode cX6_feed 50 = .ok (.getfield 19, 3) := by decide +kernel
theorem dX6_feed_53 : decode cX6_feed 53 = .ok (.iload 5, 2) := by decide +kernel
theorem dX6_feed_55 : decode cX6_feed 55 = .ok (.invokevirtual 69, 3) := by decide +kernel
theorem dX6_feed_58 : decode cX6_feed 58 = .ok (.aload_n 0, 1) := by decide +kernel
theorem dX6_feed_59 : decode cX6_feed 59 = .ok (.getfield 19, 3) := by decide +kernel
theorem dX6_feed_62 : decode cX6_feed 62 = .ok (.getfield 66, 3) := by decide +kernel
theorem dX6_feed_65 : decode cX6_feed 65 = .ok (.ireturn, 1) := by decide +kernel
theorem dX6_end_0 : decode cX6_end 0 = .ok (.iload_n 1, 1) := by decide +kernel
theorem dX6_end_1 : decode cX6_end 1 = .ok (.ifCond .lt 14, 3) := by decide +kernel
theorem dX6_end_4 : decode cX6_end 4 = .ok (.iload_n 1, 1) := by decide +kernel
theorem dX6_end_5 : decode cX6_end 5 = .ok (.aload_n 0, 1) := by decide +kernel
theorem dX6_end_6 : decode cX6_end 6 = .ok (.getfield 19, 3) := by decide +kernel
theorem dX6_end_9 : decode cX6_end 9 = .ok (.getfield 66, 3) := by decide +kernel
theorem dX6_end_12 : decode cX6_end 12 = .ok (.if_icmp .le 6, 3) := by decide +kernel
theorem dX6_end_15 : decode cX6_end 15 = .ok (.ldc 34, 2) := by decide +kernel
theorem dX6_end_17 : decode cX6_end 17 = .ok (.ireturn, 1) := by decide +kernel
theorem dX6_end_18 : decode cX6_end 18 = .ok (.aload_n 0, 1) := by decide +kernel
theorem dX6_end_19 : decode cX6_end 19 = .ok (.getfield 19, 3) := by decide +kernel
theorem dX6_end_22 : decode cX6_end 22 = .ok (.iload_n 1, 1) := by decide +kernel
theorem dX6_end_23 : decode cX6_end 23 = .ok (.putfield 66, 3) := by decide +kernel
theorem dX6_end_26 : decode cX6_end 26 = .ok (.iload_n 1, 1) := by decide +kernel
theorem dX6_end_27 : decode cX6_end 27 = .ok (.ireturn, 1) := by decide +kernel
theorem dX6_take_0 : decode cX6_take 0 = .ok (.aload_n 0, 1) := by decide +kernel
theorem dX6_take_1 : decode cX6_take 1 = .ok (.getfield 19, 3) := by decide +kernel
theorem dX6_take_4 : decode cX6_take 4 = .ok (.aload_n 0, 1) := by decide +kernel
theorem dX6_take_5 : decode cX6_take 5 = .ok (.getfield 23, 3) := by decide +kernel
theorem dX6_take_8 : decode cX6_take 8 = .ok (.invokevirtual 72, 3) := by decide +kernel
theorem dX6_take_11 : decode cX6_take 11 = .ok (.aload_n 0, 1) := by decide +kernel
theorem dX6_take_12 : decode cX6_take 12 = .ok (.getfield 19, 3) := by decide +kernel
theorem dX6_take_15 : decode cX6_take 15 = .ok (.getfield 66, 3) := by decide +kernel
theorem dX6_take_18 : decode cX6_take 18 = .ok (.ireturn, 1) := by decide +kernel
theorem dX6_out_0 : decode cX6_out 0 = .ok (.aload_n 0, 1) := by decide +kernel
theorem dX6_out_1 : decode cX6_out 1 = .ok (.getfield 23, 3) := by decide +kernel
theorem dX6_out_4 : decode cX6_out 4 = .ok (.iload_n 1, 1) := by decide +kernel
theorem dX6_out_5 : decode cX6_out 5 = .ok (.invokevirtual 76, 3) := by decide +kernel
theorem dX6_out_8 : decode cX6_out 8 = .ok (.ireturn, 1) := by decide +kernel
theorem dX6_pack_0 : decode cX6_pack 0 = .ok (.aload_n 0, 1) := by decide +kernel
theorem dX6_pack_1 : decode cX6_pack 1 = .ok (.iload_n 1, 1) := by decide +kernel
theorem dX6_pack_2 : decode cX6_pack 2 = .ok (.invokevirtual 30, 3) := by decide +kernel
theorem dX6_pack_5 : decode cX6_pack 5 = .ok (.astore_n 3, 1) := by decide +kernel
theorem dX6_pack_6 : decode cX6_pack 6 = .ok (.aload_n 3, 1) := by decide +kernel
theorem dX6_pack_7 : decode cX6_pack 7 = .ok (.ifnonnull 6, 3) := by decide +kernel
theorem dX6_pack_10 : decode cX6_pack 10 = .ok (.ldc 34, 2) := by decide +kernel
theorem dX6_pack_12 : decode cX6_pack 12 = .ok (.ireturn, 1) := by decide +kernel
theorem dX6_pack_13 : decode cX6_pack 13 = .ok (.aload_n 3, 1) := by decide +kernel
theorem dX6_pack_14 : decode cX6_pack 14 = .ok (.invokevirtual 39, 3) := by decide +kernel
theorem dX6_pack_17 : decode cX6_pack 17 = .ok (.ifCond .eq 7, 3) := by decide +kernel
theorem dX6_pack_20 : decode cX6_pack 20 = .ok (.iconst 2, 1) := by decide +kernel
theorem dX6_pack_21 : decode cX6_pack 21 = .ok (.goto 4, 3) := by decide +kernel
theorem dX6_pack_24 : decode cX6_pack 24 = .ok (.iconst 1, 1) := by decide +kernel
theorem dX6_pack_25 : decode cX6_pack 25 = .ok (.istore 4, 2) := by decide +kernel
theorem dX6_pack_27 : decode cX6_pack 27 = .ok (.aload_n 0, 1) := by decide +kernel
theorem dX6_pack_28 : decode cX6_pack 28 = .ok (.getfield 19, 3) := by decide +kernel
theorem dX6_pack_31 : decode cX6_pack 31 = .ok (.getfield 66, 3) := by decide +kernel
theorem dX6_pack_34 : decode cX6_pack 34 = .ok (.iload 4, 2) := by decide +kernel
theorem dX6_pack_36 : decode cX6_pack 36 = .ok (.ishr, 1) := by decide +kernel
theorem dX6_pack_37 : decode cX6_pack 37 = .ok (.istore 5, 2) := by decide +kernel
theorem dX6_pack_39 : decode cX6_pack 39 = .ok (.iload 5, 2) := by decide +kernel
theorem dX6_pack_41 : decode cX6_pack 41 = .ok (.iload 4, 2) := by decide +kernel
theorem dX6_pack_43 : decode cX6_pack 43 = .ok (.ishl, 1) := by decide +kernel
theorem dX6_pack_44 : decode cX6_pack 44 = .ok (.aload_n 0, 1) := by decide +kernel
theorem dX6_pack_45 : decode cX6_pack 45 = .ok (.getfield 19, 3) := by decide +kernel
theorem dX6_pack_48 : decode cX6_pack 48 = .ok (.getfield 66, 3) := by decide +kernel
theorem dX6_pack_51 : decode cX6_pack 51 = .ok (.if_icmp .eq 6, 3) := by decide +kernel
theorem dX6_pack_54 : decode cX6_pack 54 = .ok (.ldc 34, 2) := by decide +kernel
theorem dX6_pack_56 : decode cX6_pack 56 = .ok (.ireturn, 1) := by decide +kernel
theorem dX6_pack_57 : decode cX6_pack 57 = .ok (.aload_n 3, 1) := by decide +kernel
theorem dX6_pack_58 : decode cX6_pack 58 = .ok (.invokevirtual 79, 3) := by decide +kernel
theorem dX6_pack_61 : decode cX6_pack 61 = .ok (.istore 6, 2) := by decide +kernel
theorem dX6_pack_63 : decode cX6_pack 63 = .ok (.aload_n 0, 1) := by decide +kernel
theorem dX6_pack_64 : decode cX6_pack 64 = .ok (.getfield 23, 3) := by decide +kernel
theorem dX6_pack_67 : decode cX6_pack 67 = .ok (.iload 5, 2) := by decide +kernel
theorem dX6_pack_69 : decode cX6_pack 69 = .ok (.iload 6, 2) := by decide +kernel
theorem dX6_pack_71 : decode cX6_pack 71 = .ok (.imul, 1) := by decide +kernel
theorem dX6_pack_72 : decode cX6_pack 72 = .ok (.invokevirtual 82, 3) := by decide +kernel
theorem dX6_pack_75 : decode cX6_pack 75 = .ok (.iconst 0, 1) := by decide +kernel
theorem dX6_pack_76 : decode cX6_pack 76 = .ok (.istore 7, 2) := by decide +kernel
theorem dX6_pack_78 : decode cX6_pack 78 = .ok (.iload 7, 2) := by decide +kernel
theorem dX6_pack_80 : decode cX6_pack 80 = .ok (.iload 5, 2) := by decide +kernel
theorem dX6_pack_82 : decode cX6_pack 82 = .ok (.if_icmp .ge 71, 3) := by decide +kernel
theorem dX6_pack_85 : decode cX6_pack 85 = .ok (.iload 7, 2) := by decide +kernel
theorem dX6_pack_87 : decode cX6_pack 87 = .ok (.iload 4, 2) := by decide +kernel
theorem dX6_pack_89 : decode cX6_pack 89 = .ok (.ishl, 1) := by decide +kernel
theorem dX6_pack_90 : decode cX6_pack 90 = .ok (.istore 8, 2) := by decide +kernel
theorem dX6_pack_92 : decode cX6_pack 92 = .ok (.aload_n 3, 1) := by decide +kernel
theorem dX6_pack_93 : decode cX6_pack 93 = .ok (.invokevirtual 39, 3) := by decide +kernel
theorem dX6_pack_96 : decode cX6_pack 96 = .ok (.ifCond .eq 17, 3) := by decide +kernel
theorem dX6_pack_99 : decode cX6_pack 99 = .ok (.aload_n 0, 1) := by decide +kernel
theorem dX6_pack_100 : decode cX6_pack 100 = .ok (.getfield 19, 3) := by decide +kernel
theorem dX6_pack_103 : decode cX6_pack 103 = .ok (.iload 8, 2) := by decide +kernel
theorem dX6_pack_105 : decode cX6_pack 105 = .ok (.iconst 2, 1) := by decide +kernel
theorem dX6_pack_106 : decode cX6_pack 106 = .ok (.iadd, 1) := by decide +kernel
theorem dX6_pack_107 : decode cX6_pack 107 = .ok (.invokevirtual 85, 3) := by decide +kernel
theorem dX6_pack_110 : decode cX6_pack 110 = .ok (.goto 4, 3) := by decide +kernel
theorem dX6_pack_113 : decode cX6_pack 113 = .ok (.iconst 0, 1) := by decide +kernel
theorem dX6_pack_114 : decode cX6_pack 114 = .ok (.istore 9, 2) := by decide +kernel
theorem dX6_pack_116 : decode cX6_pack 116 = .ok (.aload_n 3, 1) := by decide +kernel
theorem dX6_pack_117 : decode cX6_pack 117 = .ok (.aload_n 0, 1) := by decide +kernel
theorem dX6_pack_118 : decode cX6_pack 118 = .ok (.getfield 19, 3) := by decide +kernel
theorem dX6_pack_121 : decode cX6_pack 121 = .ok (.iload 8, 2) := by decide +kernel
theorem dX6_pack_123 : decode cX6_pack 123 = .ok (.invokevirtual 85, 3) := by decide +kernel
theorem dX6_pack_126 : decode cX6_pack 126 = .ok (.iload 9, 2) := by decide +kernel
theorem dX6_pack_128 : decode cX6_pack 128 = .ok (.invokevirtual 47, 3) := by decide +kernel
theorem dX6_pack_131 : decode cX6_pack 131 = .ok (.istore 10, 2) := by decide +kernel
theorem dX6_pack_133 : decode cX6_pack 133 = .ok (.aload_n 0, 1) := by decide +kernel
theorem dX6_pack_134 : decode cX6_pack 134 = .ok (.getfield 23, 3) := by decide +kernel
theorem dX6_pack_137 : decode cX6_pack 137 = .ok (.iload 7, 2) := by decide +kernel
theorem dX6_pack_139 : decode cX6_pack 139 = .ok (.iload 6, 2) := by decide +kernel
theorem dX6_pack_141 : decode cX6_pack 141 = .ok (.iload_n 2, 1) := by decide +kernel
theorem dX6_pack_142 : decode cX6_pack 142 = .ok (.iload 10, 2) := by decide +kernel
theorem dX6_pack_144 : decode cX6_pack 144 = .ok (.invokevirtual 88, 3) := by decide +kernel
theorem dX6_pack_147 : decode cX6_pack 147 = .ok (.iinc 7 1, 3) := by decide +kernel
theorem dX6_pack_150 : decode cX6_pack 150 = .ok (.goto (-72), 3) := by decide +kernel
theorem dX6_pack_153 : decode cX6_pack 153 = .ok (.aload_n 0, 1) := by decide +kernel
theorem dX6_pack_154 : decode cX6_pack 154 = .ok (.getfield 19, 3) := by decide +kernel
theorem dX6_pack_157 : decode cX6_pack 157 = .ok (.iconst 0, 1) := by decide +kernel
theorem dX6_pack_158 : decode cX6_pack 158 = .ok (.putfield 66, 3) := by decide +kernel
theorem dX6_pack_161 : decode cX6_pack 161 = .ok (.iload 5, 2) := by decide +kernel
theorem dX6_pack_163 : decode cX6_pack 163 = .ok (.ireturn, 1) := by decide +kernel
theorem dX6_unpack_0 : decode cX6_unpack 0 = .ok (.aload_n 0, 1) := by decide +kernel
theorem dX6_unpack_1 : decode cX6_unpack 1 = .ok (.iload_n 1, 1) := by decide +kernel
theorem dX6_unpack_2 : decode cX6_unpack 2 = .ok (.invokevirtual 30, 3) := by decide +kernel
theorem dX6_unpack_5 : decode cX6_unpack 5 = .ok (.astore 4, 2) := by decide +kernel
theorem dX6_unpack_7 : decode cX6_unpack 7 = .ok (.aload 4, 2) := by decide +kernel
theorem dX6_unpack_9 : decode cX6_unpack 9 = .ok (.ifnull 14, 3) := by decide +kernel
theorem dX6_unpack_12 : decode cX6_unpack 12 = .ok (.iload_n 3, 1) := by decide +kernel
theorem dX6_unpack_13 : decode cX6_unpack 13 = .ok (.ifCond .lt 10, 3) := by decide +kernel
theorem dX6_unpack_16 : decode cX6_unpack 16 = .ok (.iload_n 3, 1) := by decide +kernel
theorem dX6_unpack_17 : decode cX6_unpack 17 = .ok (.sipush 250, 3) := by decide +kernel
theorem dX6_unpack_20 : decode cX6_unpack 20 = .ok (.if_icmp .le 6, 3) := by decide +kernel
theorem dX6_unpack_23 : decode cX6_unpack 23 = .ok (.ldc 34, 2) := by decide +kernel
theorem dX6_unpack_25 : decode cX6_unpack 25 = .ok (.ireturn, 1) := by decide +kernel
theorem dX6_unpack_26 : decode cX6_unpack 26 = .ok (.aload 4, 2) := by decide +kernel
theorem dX6_unpack_28 : decode cX6_unpack 28 = .ok (.invokevirtual 79, 3) := by decide +kernel
theorem dX6_unpack_31 : decode cX6_unpack 31 = .ok (.istore 5, 2) := by decide +kernel
theorem dX6_unpack_33 : decode cX6_unpack 33 = .ok (.aload_n 0, 1) := by decide +kernel
theorem dX6_unpack_34 : decode cX6_unpack 34 = .ok (.getfield 19, 3) := by decide +kernel
theorem dX6_unpack_37 : decode cX6_unpack 37 = .ok (.getfield 66, 3) := by decide +kernel
theorem dX6_unpack_40 : decode cX6_unpack 40 = .ok (.iload_n 3, 1) := by decide +kernel
theorem dX6_unpack_41 : decode cX6_unpack 41 = .ok (.iload 5, 2) := by decide +kernel
theorem dX6_unpack_43 : decode cX6_unpack 43 = .ok (.imul, 1) := by decide +kernel
theorem dX6_unpack_44 : decode cX6_unpack 44 = .ok (.invokestatic 92, 3) := by decide +kernel
theorem dX6_unpack_47 : decode cX6_unpack 47 = .ok (.if_icmp .eq 6, 3) := by decide +kernel
theorem dX6_unpack_50 : decode cX6_unpack 50 = .ok (.ldc 34, 2) := by decide +kernel
theorem dX6_unpack_52 : decode cX6_unpack 52 = .ok (.ireturn, 1) := by decide +kernel
theorem dX6_unpack_53 : decode cX6_unpack 53 = .ok (.aload_n 0, 1) := by decide +kernel
theorem dX6_unpack_54 : decode cX6_unpack 54 = .ok (.getfield 23, 3) := by decide +kernel
theorem dX6_unpack_57 : decode cX6_unpack 57 = .ok (.iconst 0, 1) := by decide +kernel
theorem dX6_unpack_58 : decode cX6_unpack 58 = .ok (.putfield 66, 3) := by decide +kernel
theorem dX6_unpack_61 : decode cX6_unpack 61 = .ok (.iconst 0, 1) := by decide +kernel
theorem dX6_unpack_62 : decode cX6_unpack 62 = .ok (.istore 6, 2) := by decide +kernel
theorem dX6_unpack_64 : decode cX6_unpack 64 = .ok (.iload 6, 2) := by decide +kernel
theorem dX6_unpack_66 : decode cX6_unpack 66 = .ok (.iload_n 3, 1) := by decide +kernel
theorem dX6_unpack_67 : decode cX6_unpack 67 = .ok (.if_icmp .ge 53, 3) := by decide +kernel
theorem dX6_unpack_70 : decode cX6_unpack 70 = .ok (.aload_n 0, 1) := by decide +kernel
theorem dX6_unpack_71 : decode cX6_unpack 71 = .ok (.getfield 23, 3) := by decide +kernel
theorem dX6_unpack_74 : decode cX6_unpack 74 = .ok (.aload 4, 2) := by decide +kernel
theorem dX6_unpack_76 : decode cX6_unpack 76 = .ok (.aload_n 0, 1) := by decide +kernel
theorem dX6_unpack_77 : decode cX6_unpack 77 = .ok (.getfield 19, 3) := by decide +kernel
theorem dX6_unpack_80 : decode cX6_unpack 80 = .ok (.iload 6, 2) := by decide +kernel
theorem dX6_unpack_82 : decode cX6_unpack 82 = .ok (.iload 5, 2) := by decide +kernel
theorem dX6_unpack_84 : decode cX6_unpack 84 = .ok (.iload_n 2, 1) := by decide +kernel
theorem dX6_unpack_85 : decode cX6_unpack 85 = .ok (.invokevirtual 95, 3) := by decide +kernel
theorem dX6_unpack_88 : decode cX6_unpack 88 = .ok (.invokevirtual 54, 3) := by decide +kernel
theorem dX6_unpack_91 : decode cX6_unpack 91 = .ok (.invokevirtual 99, 3) := by decide +kernel
theorem dX6_unpack_94 : decode cX6_unpack 94 = .ok (.aload 4, 2) := by decide +kernel
theorem dX6_unpack_96 : decode cX6_unpack 96 = .ok (.invokevirtual 39, 3) := by decide +kernel
theorem dX6_unpack_99 : decode cX6_unpack 99 = .ok (.ifCond .eq 15, 3) := by decide +kernel
theorem dX6_unpack_102 : decode cX6_unpack 102 = .ok (.aload_n 0, 1) := by decide +kernel
theorem dX6_unpack_103 : decode cX6_unpack 103 = .ok (.getfield 23, 3) := by decide +kernel
theorem dX6_unpack_106 : decode cX6_unpack 106 = .ok (.aload 4, 2) := by decide +kernel
theorem dX6_unpack_108 : decode cX6_unpack 108 = .ok (.invokevirtual 58, 3) := by decide +kernel
theorem dX6_unpack_111 : decode cX6_unpack 111 = .ok (.invokevirtual 99, 3) := by decide +kernel
theorem dX6_unpack_114 : decode cX6_unpack 114 = .ok (.iinc 6 1, 3) := by decide +kernel
theorem dX6_unpack_117 : decode cX6_unpack 117 = .ok (.goto (-53), 3) := by decide +kernel
theorem dX6_unpack_120 : decode cX6_unpack 120 = .ok (.aload_n 0, 1) := by decide +kernel
theorem dX6_unpack_121 : decode cX6_unpack 121 = .ok (.getfield 19, 3) := by decide +kernel
theorem dX6_unpack_124 : decode cX6_unpack 124 = .ok (.iconst 0, 1) := by decide +kernel
theorem dX6_unpack_125 : decode cX6_unpack 125 = .ok (.putfield 66, 3) := by decide +kernel
theorem dX6_unpack_128 : decode cX6_unpack 128 = .ok (.aload_n 0, 1) := by decide +kernel
theorem dX6_unpack_129 : decode cX6_unpack 129 = .ok (.getfield 23, 3) := by decide +kernel
theorem dX6_unpack_132 : decode cX6_unpack 132 = .ok (.getfield 66, 3) := by decide +kernel
theorem dX6_unpack_135 : decode cX6_unpack 135 = .ok (.ireturn, 1) := by decide +kernel
theorem dX6_pass_0 : decode cX6_pass 0 = .ok (.aload_n 0, 1) := by decide +kernel
theorem dX6_pass_1 : decode cX6_pass 1 = .ok (.iload_n 1, 1) := by decide +kernel
theorem dX6_pass_2 : decode cX6_pass 2 = .ok (.invokevirtual 30, 3) := by decide +kernel
theorem dX6_pass_5 : decode cX6_pass 5 = .ok (.astore 4, 2) := by decide +kernel
theorem dX6_pass_7 : decode cX6_pass 7 = .ok (.aload_n 0, 1) := by decide +kernel
theorem dX6_pass_8 : decode cX6_pass 8 = .ok (.iload_n 2, 1) := by decide +kernel
theorem dX6_pass_9 : decode cX6_pass 9 = .ok (.invokevirtual 30, 3) := by decide +kernel
theorem dX6_pass_12 : decode cX6_pass 12 = .ok (.astore 5, 2) := by decide +kernel
theorem dX6_pass_14 : decode cX6_pass 14 = .ok (.aload 4, 2) := by decide +kernel
theorem dX6_pass_16 : decode cX6_pass 16 = .ok (.ifnull 30, 3) := by decide +kernel
theorem dX6_pass_19 : decode cX6_pass 19 = .ok (.aload 5, 2) := by decide +kernel
theorem dX6_pass_21 : decode cX6_pass 21 = .ok (.ifnull 25, 3) := by decide +kernel
theorem dX6_pass_24 : decode cX6_pass 24 = .ok (.aload 4, 2) := by decide +kernel
theorem dX6_pass_26 : decode cX6_pass 26 = .ok (.iload_n 3, 1) := by decide +kernel
theorem dX6_pass_27 : decode cX6_pass 27 = .ok (.invokevirtual 51, 3) := by decide +kernel
theorem dX6_pass_30 : decode cX6_pass 30 = .ok (.ifCond .eq 16, 3) := by decide +kernel
theorem dX6_pass_33 : decode cX6_pass 33 = .ok (.aload 4, 2) := by decide +kernel
theorem dX6_pass_35 : decode cX6_pass 35 = .ok (.invokevirtual 39, 3) := by decide +kernel
theorem dX6_pass_38 : decode cX6_pass 38 = .ok (.aload 5, 2) := by decide +kernel
theorem dX6_pass_40 : decode cX6_pass 40 = .ok (.invokevirtual 39, 3) := by decide +kernel
theorem dX6_pass_43 : decode cX6_pass 43 = .ok (.if_icmp .eq 6, 3) := by decide +kernel
theorem dX6_pass_46 : decode cX6_pass 46 = .ok (.ldc 34, 2) := by decide +kernel
theorem dX6_pass_48 : decode cX6_pass 48 = .ok (.ireturn, 1) := by decide +kernel
theorem dX6_pass_49 : decode cX6_pass 49 = .ok (.aload 4, 2) := by decide +kernel
theorem dX6_pass_51 : decode cX6_pass 51 = .ok (.iload_n 3, 1) := by decide +kernel
theorem dX6_pass_52 : decode cX6_pass 52 = .ok (.invokevirtual 54, 3) := by decide +kernel
theorem dX6_pass_55 : decode cX6_pass 55 = .ok (.istore 6, 2) := by decide +kernel
theorem dX6_pass_57 : decode cX6_pass 57 = .ok (.aload 5, 2) := by decide +kernel
theorem dX6_pass_59 : decode cX6_pass 59 = .ok (.iload 6, 2) := by decide +kernel
theorem dX6_pass_61 : decode cX6_pass 61 = .ok (.aload 4, 2) := by decide +kernel
theorem dX6_pass_63 : decode cX6_pass 63 = .ok (.invokevirtual 58, 3) := by decide +kernel
theorem dX6_pass_66 : decode cX6_pass 66 = .ok (.invokevirtual 47, 3) := by decide +kernel
theorem dX6_pass_69 : decode cX6_pass 69 = .ok (.ireturn, 1) := by decide +kernel
theorem dX6_law_0 : decode cX6_law 0 = .ok (.iload_n 1, 1) := by decide +kernel
theorem dX6_law_1 : decode cX6_law 1 = .ok (.ifCond .eq 8, 3) := by decide +kernel
theorem dX6_law_4 : decode cX6_law 4 = .ok (.iload_n 1, 1) := by decide +kernel
theorem dX6_law_5 : decode cX6_law 5 = .ok (.iconst 1, 1) := by decide +kernel
theorem dX6_law_6 : decode cX6_law 6 = .ok (.if_icmp .ne 14, 3) := by decide +kernel
theorem dX6_law_9 : decode cX6_law 9 = .ok (.iload_n 2, 1) := by decide +kernel
theorem dX6_law_10 : decode cX6_law 10 = .ok (.ifCond .lt 10, 3) := by decide +kernel
theorem dX6_law_13 : decode cX6_law 13 = .ok (.iload_n 2, 1) := by decide +kernel
theorem dX6_law_14 : decode cX6_law 14 = .ok (.sipush 255, 3) := by decide +kernel
theorem dX6_law_17 : decode cX6_law 17 = .ok (.if_icmp .le 6, 3) := by decide +kernel
theorem dX6_law_20 : decode cX6_law 20 = .ok (.ldc 34, 2) := by decide +kernel
theorem dX6_law_22 : decode cX6_law 22 = .ok (.ireturn, 1) := by decide +kernel
theorem dX6_law_23 : decode cX6_law 23 = .ok (.iload_n 3, 1) := by decide +kernel
theorem dX6_law_24 : decode cX6_law 24 = .ok (.tableswitch 86 0 2 #[28, 46, 64], 28) := by decide +kernel
theorem dX6_law_52 : decode cX6_law 52 = .ok (.iload_n 1, 1) := by decide +kernel
theorem dX6_law_53 : decode cX6_law 53 = .ok (.ifCond .ne 11, 3) := by decide +kernel
theorem dX6_law_56 : decode cX6_law 56 = .ok (.iload_n 2, 1) := by decide +kernel
theorem dX6_law_57 : decode cX6_law 57 = .ok (.iconst 0, 1) := by decide +kernel
theorem dX6_law_58 : decode cX6_law 58 = .ok (.invokestatic 102, 3) := by decide +kernel
theorem dX6_law_61 : decode cX6_law 61 = .ok (.goto 8, 3) := by decide +kernel
theorem dX6_law_64 : decode cX6_law 64 = .ok (.iload_n 2, 1) := by decide +kernel
theorem dX6_law_65 : decode cX6_law 65 = .ok (.iconst 0, 1) := by decide +kernel
theorem dX6_law_66 : decode cX6_law 66 = .ok (.invokestatic 108, 3) := by decide +kernel
theorem dX6_law_69 : decode cX6_law 69 = .ok (.ireturn, 1) := by decide +kernel
theorem dX6_law_70 : decode cX6_law 70 = .ok (.iload_n 1, 1) := by decide +kernel
theorem dX6_law_71 : decode cX6_law 71 = .ok (.ifCond .ne 11, 3) := by decide +kernel
theorem dX6_law_74 : decode cX6_law 74 = .ok (.iload_n 2, 1) := by decide +kernel
theorem dX6_law_75 : decode cX6_law 75 = .ok (.iconst 1, 1) := by decide +kernel
theorem dX6_law_76 : decode cX6_law 76 = .ok (.invokestatic 102, 3) := by decide +kernel
theorem dX6_law_79 : decode cX6_law 79 = .ok (.goto 8, 3) := by decide +kernel
theorem dX6_law_82 : decode cX6_law 82 = .ok (.iload_n 2, 1) := by decide +kernel
theorem dX6_law_83 : decode cX6_law 83 = .ok (.iconst 1, 1) := by decide +kernel
theorem dX6_law_84 : decode cX6_law 84 = .ok (.invokestatic 108, 3) := by decide +kernel
theorem dX6_law_87 : decode cX6_law 87 = .ok (.ireturn, 1) := by decide +kernel
theorem dX6_law_88 : decode cX6_law 88 = .ok (.iload_n 1, 1) := by decide +kernel
theorem dX6_law_89 : decode cX6_law 89 = .ok (.ifCond .ne 13, 3) := by decide +kernel
theorem dX6_law_92 : decode cX6_law 92 = .ok (.iload_n 2, 1) := by decide +kernel
theorem dX6_law_93 : decode cX6_law 93 = .ok (.invokestatic 111, 3) := by decide +kernel
theorem dX6_law_96 : decode cX6_law 96 = .ok (.invokestatic 114, 3) := by decide +kernel
theorem dX6_law_99 : decode cX6_law 99 = .ok (.goto 10, 3) := by decide +kernel
theorem dX6_law_102 : decode cX6_law 102 = .ok (.iload_n 2, 1) := by decide +kernel
theorem dX6_law_103 : decode cX6_law 103 = .ok (.invokestatic 117, 3) := by decide +kernel
theorem dX6_law_106 : decode cX6_law 106 = .ok (.invokestatic 120, 3) := by decide +kernel
theorem dX6_law_109 : decode cX6_law 109 = .ok (.ireturn, 1) := by decide +kernel
theorem dX6_law_110 : decode cX6_law 110 = .ok (.ldc 34, 2) := by decide +kernel
theorem dX6_law_112 : decode cX6_law 112 = .ok (.ireturn, 1) := by decide +kernel
theorem dX6_openLine_0 : decode cX6_openLine 0 = .ok (.iload_n 1, 1) := by decide +kernel
theorem dX6_openLine_1 : decode cX6_openLine 1 = .ok (.ifCond .lt 8, 3) := by decide +kernel
theorem dX6_openLine_4 : decode cX6_openLine 4 = .ok (.iload_n 1, 1) := by decide +kernel
theorem dX6_openLine_5 : decode cX6_openLine 5 = .ok (.iconst 4, 1) := by decide +kernel
theorem dX6_openLine_6 : decode cX6_openLine 6 = .ok (.if_icmp .lt 5, 3) := by decide +kernel
theorem dX6_openLine_9 : decode cX6_openLine 9 = .ok (.aconst_null, 1) := by decide +kernel
theorem dX6_openLine_10 : decode cX6_openLine 10 = .ok (.areturn, 1) := by decide +kernel
theorem dX6_openLine_11 : decode cX6_openLine 11 = .ok (.aload_n 0, 1) := by decide +kernel
theorem dX6_openLine_12 : decode cX6_openLine 12 = .ok (.getfield 11, 3) := by decide +kernel
theorem dX6_openLine_15 : decode cX6_openLine 15 = .ok (.iload_n 1, 1) := by decide +kernel
theorem dX6_openLine_16 : decode cX6_openLine 16 = .ok (.aaload, 1) := by decide +kernel
theorem dX6_openLine_17 : decode cX6_openLine 17 = .ok (.astore_n 2, 1) := by decide +kernel
theorem dX6_openLine_18 : decode cX6_openLine 18 = .ok (.aload_n 2, 1) := by decide +kernel
theorem dX6_openLine_19 : decode cX6_openLine 19 = .ok (.getfield 35, 3) := by decide +kernel
theorem dX6_openLine_22 : decode cX6_openLine 22 = .ok (.ldc 34, 2) := by decide +kernel
theorem dX6_openLine_24 : decode cX6_openLine 24 = .ok (.if_icmp .ne 7, 3) := by decide +kernel
theorem dX6_openLine_27 : decode cX6_openLine 27 = .ok (.aconst_null, 1) := by decide +kernel
theorem dX6_openLine_28 : decode cX6_openLine 28 = .ok (.goto 4, 3) := by decide +kernel
theorem dX6_openLine_31 : decode cX6_openLine 31 = .ok (.aload_n 2, 1) := by decide +kernel
theorem dX6_openLine_32 : decode cX6_openLine 32 = .ok (.areturn, 1) := by decide +kernel
theorem dX6_isSample_0 : decode cX6_isSample 0 = .ok (.iload_n 0, 1) := by decide +kernel
theorem dX6_isSample_1 : decode cX6_isSample 1 = .ok (.sipush (-32768), 3) := by decide +kernel
theorem dX6_isSample_4 : decode cX6_isSample 4 = .ok (.if_icmp .lt 14, 3) := by decide +kernel
theorem dX6_isSample_7 : decode cX6_isSample 7 = .ok (.iload_n 0, 1) := by decide +kernel
theorem dX6_isSample_8 : decode cX6_isSample 8 = .ok (.sipush 32767, 3) := by decide +kernel
theorem dX6_isSample_11 : decode cX6_isSample 11 = .ok (.if_icmp .gt 7, 3) := by decide +kernel
theorem dX6_isSample_14 : decode cX6_isSample 14 = .ok (.iconst 1, 1) := by decide +kernel
theorem dX6_isSample_15 : decode cX6_isSample 15 = .ok (.goto 4, 3) := by decide +kernel
theorem dX6_isSample_18 : decode cX6_isSample 18 = .ok (.iconst 0, 1) := by decide +kernel
theorem dX6_isSample_19 : decode cX6_isSample 19 = .ok (.ireturn, 1) := by decide +kernel
theorem dX6_cut_0 : decode cX6_cut 0 = .ok (.iload_n 0, 1) := by decide +kernel
theorem dX6_cut_1 : decode cX6_cut 1 = .ok (.iload_n 1, 1) := by decide +kernel
theorem dX6_cut_2 : decode cX6_cut 2 = .ok (.if_icmp .ge 5, 3) := by decide +kernel
theorem dX6_cut_5 : decode cX6_cut 5 = .ok (.iload_n 1, 1) := by decide +kernel
theorem dX6_cut_6 : decode cX6_cut 6 = .ok (.ireturn, 1) := by decide +kernel
theorem dX6_cut_7 : decode cX6_cut 7 = .ok (.iload_n 0, 1) := by decide +kernel
theorem dX6_cut_8 : decode cX6_cut 8 = .ok (.iload_n 2, 1) := by decide +kernel
theorem dX6_cut_9 : decode cX6_cut 9 = .ok (.if_icmp .le 7, 3) := by decide +kernel
theorem dX6_cut_12 : decode cX6_cut 12 = .ok (.iload_n 2, 1) := by decide +kernel
theorem dX6_cut_13 : decode cX6_cut 13 = .ok (.goto 4, 3) := by decide +kernel
theorem dX6_cut_16 : decode cX6_cut 16 = .ok (.iload_n 0, 1) := by decide +kernel
theorem dX6_cut_17 : decode cX6_cut 17 = .ok (.ireturn, 1) := by decide +kernel
theorem dX6_limited_0 : decode cX6_limited 0 = .ok (.iload_n 0, 1) := by decide +kernel
theorem dX6_limited_1 : decode cX6_limited 1 = .ok (.sipush (-32768), 3) := by decide +kernel
theorem dX6_limited_4 : decode cX6_limited 4 = .ok (.if_icmp .ge 7, 3) := by decide +kernel
theorem dX6_limited_7 : decode cX6_limited 7 = .ok (.sipush (-32768), 3) := by decide +kernel
theorem dX6_limited_10 : decode cX6_limited 10 = .ok (.ireturn, 1) := by decide +kernel
theorem dX6_limited_11 : decode cX6_limited 11 = .ok (.iload_n 0, 1) := by decide +kernel
theorem dX6_limited_12 : decode cX6_limited 12 = .ok (.sipush 32767, 3) := by decide +kernel
theorem dX6_limited_15 : decode cX6_limited 15 = .ok (.if_icmp .le 9, 3) := by decide +kernel
theorem dX6_limited_18 : decode cX6_limited 18 = .ok (.sipush 32767, 3) := by decide +kernel
theorem dX6_limited_21 : decode cX6_limited 21 = .ok (.goto 4, 3) := by decide +kernel
theorem dX6_limited_24 : decode cX6_limited 24 = .ok (.iload_n 0, 1) := by decide +kernel
theorem dX6_limited_25 : decode cX6_limited 25 = .ok (.ireturn, 1) := by decide +kernel
theorem dX6_wrapped_0 : decode cX6_wrapped 0 = .ok (.iload_n 0, 1) := by decide +kernel
theorem dX6_wrapped_1 : decode cX6_wrapped 1 = .ok (.i2s, 1) := by decide +kernel
theorem dX6_wrapped_2 : decode cX6_wrapped 2 = .ok (.ireturn, 1) := by decide +kernel
theorem dX6_sign_0 : decode cX6_sign 0 = .ok (.iload_n 0, 1) := by decide +kernel
theorem dX6_sign_1 : decode cX6_sign 1 = .ok (.ifCond .ge 7, 3) := by decide +kernel
theorem dX6_sign_4 : decode cX6_sign 4 = .ok (.iconst 1, 1) := by decide +kernel
theorem dX6_sign_5 : decode cX6_sign 5 = .ok (.goto 4, 3) := by decide +kernel
theorem dX6_sign_8 : decode cX6_sign 8 = .ok (.iconst 0, 1) := by decide +kernel
theorem dX6_sign_9 : decode cX6_sign 9 = .ok (.ireturn, 1) := by decide +kernel
theorem dX7_init_0 : decode cX7_init 0 = .ok (.aload_n 0, 1) := by decide +kernel
theorem dX7_init_1 : decode cX7_init 1 = .ok (.invokespecial 1, 3) := by decide +kernel
theorem dX7_init_4 : decode cX7_init 4 = .ok (.aload_n 0, 1) := by decide +kernel
theorem dX7_init_5 : decode cX7_init 5 = .ok (.iconst 4, 1) := by decide +kernel
theorem dX7_init_6 : decode cX7_init 6 = .ok (.newarray .int, 2) := by decide +kernel
theorem dX7_init_8 : decode cX7_init 8 = .ok (.dup, 1) := by decide +kernel
theorem dX7_init_9 : decode cX7_init 9 = .ok (.iconst 0, 1) := by decide +kernel
theorem dX7_init_10 : decode cX7_init 10 = .ok (.ldc 9, 2) := by decide +kernel
theorem dX7_init_12 : decode cX7_init 12 = .ok (.iastore, 1) := by decide +kernel
theorem dX7_init_13 : decode cX7_init 13 = .ok (.dup, 1) := by decide +kernel
theorem dX7_init_14 : decode cX7_init 14 = .ok (.iconst 1, 1) := by decide +kernel
theorem dX7_init_15 : decode cX7_init 15 = .ok (.ldc 9, 2) := by decide +kernel
theorem dX7_init_17 : decode cX7_init 17 = .ok (.iastore, 1) := by decide +kernel
theorem dX7_init_18 : decode cX7_init 18 = .ok (.dup, 1) := by decide +kernel
theorem dX7_init_19 : decode cX7_init 19 = .ok (.iconst 2, 1) := by decide +kernel
theorem dX7_init_20 : decode cX7_init 20 = .ok (.ldc 9, 2) := by decide +kernel
theorem dX7_init_22 : decode cX7_init 22 = .ok (.iastore, 1) := by decide +kernel
theorem dX7_init_23 : decode cX7_init 23 = .ok (.dup, 1) := by decide +kernel
theorem dX7_init_24 : decode cX7_init 24 = .ok (.iconst 3, 1) := by decide +kernel
theorem dX7_init_25 : decode cX7_init 25 = .ok (.ldc 9, 2) := by decide +kernel
theorem dX7_init_27 : decode cX7_init 27 = .ok (.iastore, 1) := by decide +kernel
theorem dX7_init_28 : decode cX7_init 28 = .ok (.putfield 10, 3) := by decide +kernel
theorem dX7_init_31 : decode cX7_init 31 = .ok (.aload_n 0, 1) := by decide +kernel
theorem dX7_init_32 : decode cX7_init 32 = .ok (.iconst 4, 1) := by decide +kernel
theorem dX7_init_33 : decode cX7_init 33 = .ok (.newarray .int, 2) := by decide +kernel
theorem dX7_init_35 : decode cX7_init 35 = .ok (.putfield 14, 3) := by decide +kernel
theorem dX7_init_38 : decode cX7_init 38 = .ok (.aload_n 0, 1) := by decide +kernel
theorem dX7_init_39 : decode cX7_init 39 = .ok (.sipush 192, 3) := by decide +kernel
theorem dX7_init_42 : decode cX7_init 42 = .ok (.newarray .int, 2) := by decide +kernel
theorem dX7_init_44 : decode cX7_init 44 = .ok (.putfield 17, 3) := by decide +kernel
theorem dX7_init_47 : decode cX7_init 47 = .ok (.aload_n 0, 1) := by decide +kernel
theorem dX7_init_48 : decode cX7_init 48 = .ok (.iconst 1, 1) := by decide +kernel
theorem dX7_init_49 : decode cX7_init 49 = .ok (.newarray .int, 2) := by decide +kernel
theorem dX7_init_51 : decode cX7_init 51 = .ok (.dup, 1) := by decide +kernel
theorem dX7_init_52 : decode cX7_init 52 = .ok (.iconst 0, 1) := by decide +kernel
theorem dX7_init_53 : decode cX7_init 53 = .ok (.sipush 261, 3) := by decide +kernel
theorem dX7_init_56 : decode cX7_init 56 = .ok (.iastore, 1) := by decide +kernel
theorem dX7_init_57 : decode cX7_init 57 = .ok (.putfield 20, 3) := by decide +kernel
theorem dX7_init_60 : decode cX7_init 60 = .ok (.aload_n 0, 1) := by decide +kernel
theorem dX7_init_61 : decode cX7_init 61 = .ok (.iconst 3, 1) := by decide +kernel
theorem dX7_init_62 : decode cX7_init 62 = .ok (.newarray .int, 2) := by decide +kernel
theorem dX7_init_64 : decode cX7_init 64 = .ok (.dup, 1) := by decide +kernel
theorem dX7_init_65 : decode cX7_init 65 = .ok (.iconst 0, 1) := by decide +kernel
theorem dX7_init_66 : decode cX7_init 66 = .ok (.bipush 8, 2) := by decide +kernel
theorem dX7_init_68 : decode cX7_init 68 = .ok (.iastore, 1) := by decide +kernel
theorem dX7_init_69 : decode cX7_init 69 = .ok (.dup, 1) := by decide +kernel
theorem dX7_init_70 : decode cX7_init 70 = .ok (.iconst 1, 1) := by decide +kernel
theorem dX7_init_71 : decode cX7_init 71 = .ok (.sipush 218, 3) := by decide +kernel
theorem dX7_init_74 : decode cX7_init 74 = .ok (.iastore, 1) := by decide +kernel
theorem dX7_init_75 : decode cX7_init 75 = .ok (.dup, 1) := by decide +kernel
theorem dX7_init_76 : decode cX7_init 76 = .ok (.iconst 2, 1) := by decide +kernel
theorem dX7_init_77 : decode cX7_init 77 = .ok (.sipush 331, 3) := by decide +kernel
theorem dX7_init_80 : decode cX7_init 80 = .ok (.iastore, 1) := by decide +kernel
theorem dX7_init_81 : decode cX7_init 81 = .ok (.putfield 23, 3) := by decide +kernel
theorem dX7_init_84 : decode cX7_init 84 = .ok (.aload_n 0, 1) := by decide +kernel
theorem dX7_init_85 : decode cX7_init 85 = .ok (.bipush 7, 2) := by decide +kernel
theorem dX7_init_87 : decode cX7_init 87 = .ok (.newarray .int, 2) := by decide +kernel
theorem dX7_init_89 : decode cX7_init 89 = .ok (.dup, 1) := by decide +kernel
theorem dX7_init_90 : decode cX7_init 90 = .ok (.iconst 0, 1) := by decide +kernel
theorem dX7_init_91 : decode cX7_init 91 = .ok (.bipush (-124), 2) := by decide +kernel
theorem dX7_init_93 : decode cX7_init 93 = .ok (.iastore, 1) := by decide +kernel
theorem dX7_init_94 : decode cX7_init 94 = .ok (.dup, 1) := by decide +kernel
theorem dX7_init_95 : decode cX7_init 95 = .ok (.iconst 1, 1) := by decide +kernel
theorem dX7_init_96 : decode cX7_init 96 = .ok (.bipush 80, 2) := by decide +kernel
theorem dX7_init_98 : decode cX7_init 98 = .ok (.iastore, 1) := by decide +kernel
theorem dX7_init_99 : decode cX7_init 99 = .ok (.dup, 1) := by decide +kernel
theorem dX7_init_100 : decode cX7_init 100 = .ok (.iconst 2, 1) := by decide +kernel
theorem dX7_init_101 : decode cX7_init 101 = .ok (.sipush 178, 3) := by decide +kernel
theorem dX7_init_104 : decode cX7_init 104 = .ok (.iastore, 1) := by decide +kernel
theorem dX7_init_105 : decode cX7_init 105 = .ok (.dup, 1) := by decide +kernel
theorem dX7_init_106 : decode cX7_init 106 = .ok (.iconst 3, 1) := by decide +kernel
theorem dX7_init_107 : decode cX7_init 107 = .ok (.sipush 246, 3) := by decide +kernel
theorem dX7_init_110 : decode cX7_init 110 = .ok (.iastore, 1) := by decide +kernel
theorem dX7_init_111 : decode cX7_init 111 = .ok (.dup, 1) := by decide +kernel
theorem dX7_init_112 : decode cX7_init 112 = .ok (.iconst 4, 1) := by decide +kernel
theorem dX7_init_113 : decode cX7_init 113 = .ok (.sipush 300, 3) := by decide +kernel
theorem dX7_init_116 : decode cX7_init 116 = .ok (.iastore, 1) := by decide +kernel
theorem dX7_init_117 : decode cX7_init 117 = .ok (.dup, 1) := by decide +kernel
theorem dX7_init_118 : decode cX7_init 118 = .ok (.iconst 5, 1) := by decide +kernel
theorem dX7_init_119 : decode cX7_init 119 = .ok (.sipush 349, 3) := by decide +kernel
theorem dX7_init_122 : decode cX7_init 122 = .ok (.iastore, 1) := by decide +kernel
theorem dX7_init_123 : decode cX7_init 123 = .ok (.dup, 1) := by decide +kernel
theorem dX7_init_124 : decode cX7_init 124 = .ok (.bipush 6, 2) := by decide +kernel
theorem dX7_init_126 : decode cX7_init 126 = .ok (.sipush 400, 3) := by decide +kernel
theorem dX7_init_129 : decode cX7_init 129 = .ok (.iastore, 1) := by decide +kernel
theorem dX7_init_130 : decode cX7_init 130 = .ok (.putfield 26, 3) := by decide +kernel
theorem dX7_init_133 : decode cX7_init 133 = .ok (.aload_n 0, 1) := by decide +kernel
theorem dX7_init_134 : decode cX7_init 134 = .ok (.bipush 15, 2) := by decide +kernel
theorem dX7_init_136 : decode cX7_init 136 = .ok (.newarray .int, 2) := by decide +kernel
theorem dX7_init_138 : decode cX7_init 138 = .ok (.dup, 1) := by decide +kernel
theorem dX7_init_139 : decode cX7_init 139 = .ok (.iconst 0, 1) := by decide +kernel
theorem dX7_init_140 : decode cX7_init 140 = .ok (.bipush (-122), 2) := by decide +kernel
theorem dX7_init_142 : decode cX7_init 142 = .ok (.iastore, 1) := by decide +kernel
theorem dX7_init_143 : decode cX7_init 143 = .ok (.dup, 1) := by decide +kernel
theorem dX7_init_144 : decode cX7_init 144 = .ok (.iconst 1, 1) := by decide +kernel
theorem dX7_init_145 : decode cX7_init 145 = .ok (.bipush (-16), 2) := by decide +kernel
theorem dX7_init_147 : decode cX7_init 147 = .ok (.iastore, 1) := by decide +kernel
theorem dX7_init_148 : decode cX7_init 148 = .ok (.dup, 1) := by decide +kernel
theorem dX7_init_149 : decode cX7_init 149 = .ok (.iconst 2, 1) := by decide +kernel
theorem dX7_init_150 : decode cX7_init 150 = .ok (.bipush 68, 2) := by decide +kernel
theorem dX7_init_152 : decode cX7_init 152 = .ok (.iastore, 1) := by decide +kernel
theorem dX7_init_153 : decode cX7_init 153 = .ok (.dup, 1) := by decide +kernel
theorem dX7_init_154 : decode cX7_init 154 = .ok (.iconst 3, 1) := by decide +kernel
theorem dX7_init_155 : decode cX7_init 155 = .ok (.sipush 139, 3) := by decide +kernel
theorem dX7_init_158 : decode cX7_init 158 = .ok (.iastore, 1) := by decide +kernel
theorem dX7_init_159 : decode cX7_init 159 = .ok (.dup, 1) := by decide +kernel
theorem dX7_init_160 : decode cX7_init 160 = .ok (.iconst 4, 1) := by decide +kernel
theorem dX7_init_161 : decode cX7_init 161 = .ok (.sipush 198, 3) := by decide +kernel
theorem dX7_init_164 : decode cX7_init 164 = .ok (.iastore, 1) := by decide +kernel
theorem dX7_init_165 : decode cX7_init 165 = .ok (.dup, 1) := by decide +kernel
theorem dX7_init_166 : decode cX7_init 166 = .ok (.iconst 5, 1) := by decide +kernel
theorem dX7_init_167 : decode cX7_init 167 = .ok (.sipush 250, 3) := by decide +kernel
theorem dX7_init_170 : decode cX7_init 170 = .ok (.iastore, 1) := by decide +kernel
theorem dX7_init_171 : decode cX7_init 171 = .ok (.dup, 1) := by decide +kernel
theorem dX7_init_172 : decode cX7_init 172 = .ok (.bipush 6, 2) := by decide +kernel
theorem dX7_init_174 : decode cX7_init 174 = .ok (.sipush 298, 3) := by decide +kernel
theorem dX7_init_177 : decode cX7_init 177 = .ok (.iastore, 1) := by decide +kernel
theorem dX7_init_178 : decode cX7_init 178 = .ok (.dup, 1) := by decide +kernel
theorem dX7_init_179 : decode cX7_init 179 = .ok (.bipush 7, 2) := by decide +kernel
theorem dX7_init_181 : decode cX7_init 181 = .ok (.sipush 339, 3) := by decide +kernel
theorem dX7_init_184 : decode cX7_init 184 = .ok (.iastore, 1) := by decide +kernel
theorem dX7_init_185 : decode cX7_init 185 = .ok (.dup, 1) := by decide +kernel
theorem dX7_init_186 : decode cX7_init 186 = .ok (.bipush 8, 2) := by decide +kernel
theorem dX7_init_188 : decode cX7_init 188 = .ok (.sipush 378, 3) := by decide +kernel
theorem dX7_init_191 : decode cX7_init 191 = .ok (.iastore, 1) := by decide +kernel
