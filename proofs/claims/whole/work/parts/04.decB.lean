theorem dX2_init_0 : decode cX2_init 0 = .ok (.aload_n 0, 1) := by decide +kernel
theorem dX2_init_1 : decode cX2_init 1 = .ok (.invokespecial 1, 3) := by decide +kernel
theorem dX2_init_4 : decode cX2_init 4 = .ok (.aload_n 0, 1) := by decide +kernel
theorem dX2_init_5 : decode cX2_init 5 = .ok (.iload_n 1, 1) := by decide +kernel
theorem dX2_init_6 : decode cX2_init 6 = .ok (.iconst 1, 1) := by decide +kernel
theorem dX2_init_7 : decode cX2_init 7 = .ok (.bipush 16, 2) := by decide +kernel
theorem dX2_init_9 : decode cX2_init 9 = .ok (.invokestatic 9, 3) := by decide +kernel
theorem dX2_init_12 : decode cX2_init 12 = .ok (.putfield 13, 3) := by decide +kernel
theorem dX2_init_15 : decode cX2_init 15 = .ok (.aload_n 0, 1) := by decide +kernel
theorem dX2_init_16 : decode cX2_init 16 = .ok (.iload_n 2, 1) := by decide +kernel
theorem dX2_init_17 : decode cX2_init 17 = .ok (.iconst 1, 1) := by decide +kernel
theorem dX2_init_18 : decode cX2_init 18 = .ok (.bipush 16, 2) := by decide +kernel
theorem dX2_init_20 : decode cX2_init 20 = .ok (.invokestatic 9, 3) := by decide +kernel
theorem dX2_init_23 : decode cX2_init 23 = .ok (.putfield 17, 3) := by decide +kernel
theorem dX2_init_26 : decode cX2_init 26 = .ok (.aload_n 0, 1) := by decide +kernel
theorem dX2_init_27 : decode cX2_init 27 = .ok (.iload 4, 2) := by decide +kernel
theorem dX2_init_29 : decode cX2_init 29 = .ok (.iconst 1, 1) := by decide +kernel
theorem dX2_init_30 : decode cX2_init 30 = .ok (.iconst 4, 1) := by decide +kernel
theorem dX2_init_31 : decode cX2_init 31 = .ok (.invokestatic 9, 3) := by decide +kernel
theorem dX2_init_34 : decode cX2_init 34 = .ok (.putfield 20, 3) := by decide +kernel
theorem dX2_init_37 : decode cX2_init 37 = .ok (.aload_n 0, 1) := by decide +kernel
theorem dX2_init_38 : decode cX2_init 38 = .ok (.iconst 1, 1) := by decide +kernel
theorem dX2_init_39 : decode cX2_init 39 = .ok (.iload_n 3, 1) := by decide +kernel
theorem dX2_init_40 : decode cX2_init 40 = .ok (.aload_n 0, 1) := by decide +kernel
theorem dX2_init_41 : decode cX2_init 41 = .ok (.getfield 20, 3) := by decide +kernel
theorem dX2_init_44 : decode cX2_init 44 = .ok (.iconst 1, 1) := by decide +kernel
theorem dX2_init_45 : decode cX2_init 45 = .ok (.if_icmp .le 7, 3) := by decide +kernel
theorem dX2_init_48 : decode cX2_init 48 = .ok (.iconst 3, 1) := by decide +kernel
theorem dX2_init_49 : decode cX2_init 49 = .ok (.goto 4, 3) := by decide +kernel
theorem dX2_init_52 : decode cX2_init 52 = .ok (.iconst 0, 1) := by decide +kernel
theorem dX2_init_53 : decode cX2_init 53 = .ok (.iconst 4, 1) := by decide +kernel
theorem dX2_init_54 : decode cX2_init 54 = .ok (.invokestatic 9, 3) := by decide +kernel
theorem dX2_init_57 : decode cX2_init 57 = .ok (.ishl, 1) := by decide +kernel
theorem dX2_init_58 : decode cX2_init 58 = .ok (.putfield 23, 3) := by decide +kernel
theorem dX2_init_61 : decode cX2_init 61 = .ok (.aload_n 0, 1) := by decide +kernel
theorem dX2_init_62 : decode cX2_init 62 = .ok (.iconst 1, 1) := by decide +kernel
theorem dX2_init_63 : decode cX2_init 63 = .ok (.aload_n 0, 1) := by decide +kernel
theorem dX2_init_64 : decode cX2_init 64 = .ok (.getfield 23, 3) := by decide +kernel
theorem dX2_init_67 : decode cX2_init 67 = .ok (.aload_n 0, 1) := by decide +kernel
theorem dX2_init_68 : decode cX2_init 68 = .ok (.getfield 20, 3) := by decide +kernel
theorem dX2_init_71 : decode cX2_init 71 = .ok (.imul, 1) := by decide +kernel
theorem dX2_init_72 : decode cX2_init 72 = .ok (.bipush 8, 2) := by decide +kernel
theorem dX2_init_74 : decode cX2_init 74 = .ok (.idiv, 1) := by decide +kernel
theorem dX2_init_75 : decode cX2_init 75 = .ok (.invokestatic 26, 3) := by decide +kernel
theorem dX2_init_78 : decode cX2_init 78 = .ok (.putfield 32, 3) := by decide +kernel
theorem dX2_init_81 : decode cX2_init 81 = .ok (.aload_n 0, 1) := by decide +kernel
theorem dX2_init_82 : decode cX2_init 82 = .ok (.iconst 1, 1) := by decide +kernel
theorem dX2_init_83 : decode cX2_init 83 = .ok (.aload_n 0, 1) := by decide +kernel
theorem dX2_init_84 : decode cX2_init 84 = .ok (.getfield 23, 3) := by decide +kernel
theorem dX2_init_87 : decode cX2_init 87 = .ok (.ishl, 1) := by decide +kernel
theorem dX2_init_88 : decode cX2_init 88 = .ok (.iconst 1, 1) := by decide +kernel
theorem dX2_init_89 : decode cX2_init 89 = .ok (.isub, 1) := by decide +kernel
theorem dX2_init_90 : decode cX2_init 90 = .ok (.putfield 35, 3) := by decide +kernel
theorem dX2_init_93 : decode cX2_init 93 = .ok (.aload_n 0, 1) := by decide +kernel
theorem dX2_init_94 : decode cX2_init 94 = .ok (.aload_n 0, 1) := by decide +kernel
theorem dX2_init_95 : decode cX2_init 95 = .ok (.getfield 13, 3) := by decide +kernel
theorem dX2_init_98 : decode cX2_init 98 = .ok (.aload_n 0, 1) := by decide +kernel
theorem dX2_init_99 : decode cX2_init 99 = .ok (.getfield 17, 3) := by decide +kernel
theorem dX2_init_102 : decode cX2_init 102 = .ok (.imul, 1) := by decide +kernel
theorem dX2_init_103 : decode cX2_init 103 = .ok (.aload_n 0, 1) := by decide +kernel
theorem dX2_init_104 : decode cX2_init 104 = .ok (.getfield 20, 3) := by decide +kernel
theorem dX2_init_107 : decode cX2_init 107 = .ok (.imul, 1) := by decide +kernel
theorem dX2_init_108 : decode cX2_init 108 = .ok (.newarray .int, 2) := by decide +kernel
theorem dX2_init_110 : decode cX2_init 110 = .ok (.putfield 38, 3) := by decide +kernel
theorem dX2_init_113 : decode cX2_init 113 = .ok (.aload_n 0, 1) := by decide +kernel
theorem dX2_init_114 : decode cX2_init 114 = .ok (.aload_n 0, 1) := by decide +kernel
theorem dX2_init_115 : decode cX2_init 115 = .ok (.getfield 13, 3) := by decide +kernel
theorem dX2_init_118 : decode cX2_init 118 = .ok (.aload_n 0, 1) := by decide +kernel
theorem dX2_init_119 : decode cX2_init 119 = .ok (.getfield 17, 3) := by decide +kernel
theorem dX2_init_122 : decode cX2_init 122 = .ok (.imul, 1) := by decide +kernel
theorem dX2_init_123 : decode cX2_init 123 = .ok (.aload_n 0, 1) := by decide +kernel
theorem dX2_init_124 : decode cX2_init 124 = .ok (.getfield 20, 3) := by decide +kernel
theorem dX2_init_127 : decode cX2_init 127 = .ok (.imul, 1) := by decide +kernel
theorem dX2_init_128 : decode cX2_init 128 = .ok (.newarray .int, 2) := by decide +kernel
theorem dX2_init_130 : decode cX2_init 130 = .ok (.putfield 42, 3) := by decide +kernel
theorem dX2_init_133 : decode cX2_init 133 = .ok (.return_, 1) := by decide +kernel
theorem dX2_within_0 : decode cX2_within 0 = .ok (.iload_n 1, 1) := by decide +kernel
theorem dX2_within_1 : decode cX2_within 1 = .ok (.iload_n 2, 1) := by decide +kernel
theorem dX2_within_2 : decode cX2_within 2 = .ok (.iload_n 0, 1) := by decide +kernel
theorem dX2_within_3 : decode cX2_within 3 = .ok (.invokestatic 45, 3) := by decide +kernel
theorem dX2_within_6 : decode cX2_within 6 = .ok (.invokestatic 26, 3) := by decide +kernel
theorem dX2_within_9 : decode cX2_within 9 = .ok (.ireturn, 1) := by decide +kernel
theorem dX2_hasSample_0 : decode cX2_hasSample 0 = .ok (.iload_n 1, 1) := by decide +kernel
theorem dX2_hasSample_1 : decode cX2_hasSample 1 = .ok (.ifCond .lt 39, 3) := by decide +kernel
theorem dX2_hasSample_4 : decode cX2_hasSample 4 = .ok (.iload_n 1, 1) := by decide +kernel
theorem dX2_hasSample_5 : decode cX2_hasSample 5 = .ok (.aload_n 0, 1) := by decide +kernel
theorem dX2_hasSample_6 : decode cX2_hasSample 6 = .ok (.getfield 13, 3) := by decide +kernel
theorem dX2_hasSample_9 : decode cX2_hasSample 9 = .ok (.if_icmp .ge 31, 3) := by decide +kernel
theorem dX2_hasSample_12 : decode cX2_hasSample 12 = .ok (.iload_n 2, 1) := by decide +kernel
theorem dX2_hasSample_13 : decode cX2_hasSample 13 = .ok (.ifCond .lt 27, 3) := by decide +kernel
theorem dX2_hasSample_16 : decode cX2_hasSample 16 = .ok (.iload_n 2, 1) := by decide +kernel
theorem dX2_hasSample_17 : decode cX2_hasSample 17 = .ok (.aload_n 0, 1) := by decide +kernel
theorem dX2_hasSample_18 : decode cX2_hasSample 18 = .ok (.getfield 17, 3) := by decide +kernel
theorem dX2_hasSample_21 : decode cX2_hasSample 21 = .ok (.if_icmp .ge 19, 3) := by decide +kernel
theorem dX2_hasSample_24 : decode cX2_hasSample 24 = .ok (.iload_n 3, 1) := by decide +kernel
theorem dX2_hasSample_25 : decode cX2_hasSample 25 = .ok (.ifCond .lt 15, 3) := by decide +kernel
theorem dX2_hasSample_28 : decode cX2_hasSample 28 = .ok (.iload_n 3, 1) := by decide +kernel
theorem dX2_hasSample_29 : decode cX2_hasSample 29 = .ok (.aload_n 0, 1) := by decide +kernel
theorem dX2_hasSample_30 : decode cX2_hasSample 30 = .ok (.getfield 20, 3) := by decide +kernel
theorem dX2_hasSample_33 : decode cX2_hasSample 33 = .ok (.if_icmp .ge 7, 3) := by decide +kernel
theorem dX2_hasSample_36 : decode cX2_hasSample 36 = .ok (.iconst 1, 1) := by decide +kernel
theorem dX2_hasSample_37 : decode cX2_hasSample 37 = .ok (.goto 4, 3) := by decide +kernel
theorem dX2_hasSample_40 : decode cX2_hasSample 40 = .ok (.iconst 0, 1) := by decide +kernel
theorem dX2_hasSample_41 : decode cX2_hasSample 41 = .ok (.ireturn, 1) := by decide +kernel
theorem dX2_indexOf_0 : decode cX2_indexOf 0 = .ok (.iload_n 2, 1) := by decide +kernel
theorem dX2_indexOf_1 : decode cX2_indexOf 1 = .ok (.aload_n 0, 1) := by decide +kernel
theorem dX2_indexOf_2 : decode cX2_indexOf 2 = .ok (.getfield 13, 3) := by decide +kernel
theorem dX2_indexOf_5 : decode cX2_indexOf 5 = .ok (.imul, 1) := by decide +kernel
theorem dX2_indexOf_6 : decode cX2_indexOf 6 = .ok (.iload_n 1, 1) := by decide +kernel
theorem dX2_indexOf_7 : decode cX2_indexOf 7 = .ok (.iadd, 1) := by decide +kernel
theorem dX2_indexOf_8 : decode cX2_indexOf 8 = .ok (.aload_n 0, 1) := by decide +kernel
theorem dX2_indexOf_9 : decode cX2_indexOf 9 = .ok (.getfield 20, 3) := by decide +kernel
theorem dX2_indexOf_12 : decode cX2_indexOf 12 = .ok (.imul, 1) := by decide +kernel
theorem dX2_indexOf_13 : decode cX2_indexOf 13 = .ok (.iload_n 3, 1) := by decide +kernel
theorem dX2_indexOf_14 : decode cX2_indexOf 14 = .ok (.iadd, 1) := by decide +kernel
theorem dX2_indexOf_15 : decode cX2_indexOf 15 = .ok (.ireturn, 1) := by decide +kernel
theorem dX2_sampleAt_0 : decode cX2_sampleAt 0 = .ok (.aload_n 0, 1) := by decide +kernel
theorem dX2_sampleAt_1 : decode cX2_sampleAt 1 = .ok (.iload_n 1, 1) := by decide +kernel
theorem dX2_sampleAt_2 : decode cX2_sampleAt 2 = .ok (.iload_n 2, 1) := by decide +kernel
theorem dX2_sampleAt_3 : decode cX2_sampleAt 3 = .ok (.iload_n 3, 1) := by decide +kernel
theorem dX2_sampleAt_4 : decode cX2_sampleAt 4 = .ok (.invokevirtual 48, 3) := by decide +kernel
theorem dX2_sampleAt_7 : decode cX2_sampleAt 7 = .ok (.ifCond .eq 18, 3) := by decide +kernel
theorem dX2_sampleAt_10 : decode cX2_sampleAt 10 = .ok (.aload_n 0, 1) := by decide +kernel
theorem dX2_sampleAt_11 : decode cX2_sampleAt 11 = .ok (.getfield 38, 3) := by decide +kernel
theorem dX2_sampleAt_14 : decode cX2_sampleAt 14 = .ok (.aload_n 0, 1) := by decide +kernel
theorem dX2_sampleAt_15 : decode cX2_sampleAt 15 = .ok (.iload_n 1, 1) := by decide +kernel
theorem dX2_sampleAt_16 : decode cX2_sampleAt 16 = .ok (.iload_n 2, 1) := by decide +kernel
theorem dX2_sampleAt_17 : decode cX2_sampleAt 17 = .ok (.iload_n 3, 1) := by decide +kernel
theorem dX2_sampleAt_18 : decode cX2_sampleAt 18 = .ok (.invokevirtual 52, 3) := by decide +kernel
theorem dX2_sampleAt_21 : decode cX2_sampleAt 21 = .ok (.iaload, 1) := by decide +kernel
theorem dX2_sampleAt_22 : decode cX2_sampleAt 22 = .ok (.goto 4, 3) := by decide +kernel
theorem dX2_sampleAt_25 : decode cX2_sampleAt 25 = .ok (.iconst 0, 1) := by decide +kernel
theorem dX2_sampleAt_26 : decode cX2_sampleAt 26 = .ok (.ireturn, 1) := by decide +kernel
theorem dX2_replaceSample_0 : decode cX2_replaceSample 0 = .ok (.aload_n 0, 1) := by decide +kernel
theorem dX2_replaceSample_1 : decode cX2_replaceSample 1 = .ok (.iload_n 1, 1) := by decide +kernel
theorem dX2_replaceSample_2 : decode cX2_replaceSample 2 = .ok (.iload_n 2, 1) := by decide +kernel
theorem dX2_replaceSample_3 : decode cX2_replaceSample 3 = .ok (.iload_n 3, 1) := by decide +kernel
theorem dX2_replaceSample_4 : decode cX2_replaceSample 4 = .ok (.invokevirtual 55, 3) := by decide +kernel
theorem dX2_replaceSample_7 : decode cX2_replaceSample 7 = .ok (.istore 5, 2) := by decide +kernel
theorem dX2_replaceSample_9 : decode cX2_replaceSample 9 = .ok (.aload_n 0, 1) := by decide +kernel
theorem dX2_replaceSample_10 : decode cX2_replaceSample 10 = .ok (.iload_n 1, 1) := by decide +kernel
theorem dX2_replaceSample_11 : decode cX2_replaceSample 11 = .ok (.iload_n 2, 1) := by decide +kernel
theorem dX2_replaceSample_12 : decode cX2_replaceSample 12 = .ok (.iload_n 3, 1) := by decide +kernel
theorem dX2_replaceSample_13 : decode cX2_replaceSample 13 = .ok (.invokevirtual 48, 3) := by decide +kernel
theorem dX2_replaceSample_16 : decode cX2_replaceSample 16 = .ok (.ifCond .eq 17, 3) := by decide +kernel
theorem dX2_replaceSample_19 : decode cX2_replaceSample 19 = .ok (.aload_n 0, 1) := by decide +kernel
theorem dX2_replaceSample_20 : decode cX2_replaceSample 20 = .ok (.getfield 38, 3) := by decide +kernel
theorem dX2_replaceSample_23 : decode cX2_replaceSample 23 = .ok (.aload_n 0, 1) := by decide +kernel
theorem dX2_replaceSample_24 : decode cX2_replaceSample 24 = .ok (.iload_n 1, 1) := by decide +kernel
theorem dX2_replaceSample_25 : decode cX2_replaceSample 25 = .ok (.iload_n 2, 1) := by decide +kernel
theorem dX2_replaceSample_26 : decode cX2_replaceSample 26 = .ok (.iload_n 3, 1) := by decide +kernel
theorem dX2_replaceSample_27 : decode cX2_replaceSample 27 = .ok (.invokevirtual 52, 3) := by decide +kernel
theorem dX2_replaceSample_30 : decode cX2_replaceSample 30 = .ok (.iload 4, 2) := by decide +kernel
theorem dX2_replaceSample_32 : decode cX2_replaceSample 32 = .ok (.iastore, 1) := by decide +kernel
theorem dX2_replaceSample_33 : decode cX2_replaceSample 33 = .ok (.iload 5, 2) := by decide +kernel
theorem dX2_replaceSample_35 : decode cX2_replaceSample 35 = .ok (.ireturn, 1) := by decide +kernel
theorem dX2_paintAll_0 : decode cX2_paintAll 0 = .ok (.iconst 0, 1) := by decide +kernel
theorem dX2_paintAll_1 : decode cX2_paintAll 1 = .ok (.istore_n 3, 1) := by decide +kernel
theorem dX2_paintAll_2 : decode cX2_paintAll 2 = .ok (.iload_n 1, 1) := by decide +kernel
theorem dX2_paintAll_3 : decode cX2_paintAll 3 = .ok (.istore 4, 2) := by decide +kernel
theorem dX2_paintAll_5 : decode cX2_paintAll 5 = .ok (.iconst 0, 1) := by decide +kernel
theorem dX2_paintAll_6 : decode cX2_paintAll 6 = .ok (.istore 5, 2) := by decide +kernel
theorem dX2_paintAll_8 : decode cX2_paintAll 8 = .ok (.iload 5, 2) := by decide +kernel
theorem dX2_paintAll_10 : decode cX2_paintAll 10 = .ok (.aload_n 0, 1) := by decide +kernel
theorem dX2_paintAll_11 : decode cX2_paintAll 11 = .ok (.getfield 38, 3) := by decide +kernel
theorem dX2_paintAll_14 : decode cX2_paintAll 14 = .ok (.arraylength, 1) := by decide +kernel
theorem dX2_paintAll_15 : decode cX2_paintAll 15 = .ok (.if_icmp .ge 48, 3) := by decide +kernel
theorem dX2_paintAll_18 : decode cX2_paintAll 18 = .ok (.iload 4, 2) := by decide +kernel
theorem dX2_paintAll_20 : decode cX2_paintAll 20 = .ok (.aload_n 0, 1) := by decide +kernel
theorem dX2_paintAll_21 : decode cX2_paintAll 21 = .ok (.getfield 35, 3) := by decide +kernel
theorem dX2_paintAll_24 : decode cX2_paintAll 24 = .ok (.iand, 1) := by decide +kernel
theorem dX2_paintAll_25 : decode cX2_paintAll 25 = .ok (.istore 6, 2) := by decide +kernel
theorem dX2_paintAll_27 : decode cX2_paintAll 27 = .ok (.aload_n 0, 1) := by decide +kernel
theorem dX2_paintAll_28 : decode cX2_paintAll 28 = .ok (.getfield 38, 3) := by decide +kernel
theorem dX2_paintAll_31 : decode cX2_paintAll 31 = .ok (.iload 5, 2) := by decide +kernel
theorem dX2_paintAll_33 : decode cX2_paintAll 33 = .ok (.iaload, 1) := by decide +kernel
theorem dX2_paintAll_34 : decode cX2_paintAll 34 = .ok (.iload 6, 2) := by decide +kernel
theorem dX2_paintAll_36 : decode cX2_paintAll 36 = .ok (.if_icmp .eq 6, 3) := by decide +kernel
theorem dX2_paintAll_39 : decode cX2_paintAll 39 = .ok (.iinc 3 1, 3) := by decide +kernel
theorem dX2_paintAll_42 : decode cX2_paintAll 42 = .ok (.aload_n 0, 1) := by decide +kernel
theorem dX2_paintAll_43 : decode cX2_paintAll 43 = .ok (.getfield 38, 3) := by decide +kernel
theorem dX2_paintAll_46 : decode cX2_paintAll 46 = .ok (.iload 5, 2) := by decide +kernel
theorem dX2_paintAll_48 : decode cX2_paintAll 48 = .ok (.iload 6, 2) := by decide +kernel
theorem dX2_paintAll_50 : decode cX2_paintAll 50 = .ok (.iastore, 1) := by decide +kernel
theorem dX2_paintAll_51 : decode cX2_paintAll 51 = .ok (.iload 4, 2) := by decide +kernel
theorem dX2_paintAll_53 : decode cX2_paintAll 53 = .ok (.iload_n 2, 1) := by decide +kernel
theorem dX2_paintAll_54 : decode cX2_paintAll 54 = .ok (.iadd, 1) := by decide +kernel
theorem dX2_paintAll_55 : decode cX2_paintAll 55 = .ok (.istore 4, 2) := by decide +kernel
theorem dX2_paintAll_57 : decode cX2_paintAll 57 = .ok (.iinc 5 1, 3) := by decide +kernel
theorem dX2_paintAll_60 : decode cX2_paintAll 60 = .ok (.goto (-52), 3) := by decide +kernel
theorem dX2_paintAll_63 : decode cX2_paintAll 63 = .ok (.iload_n 3, 1) := by decide +kernel
theorem dX2_paintAll_64 : decode cX2_paintAll 64 = .ok (.ireturn, 1) := by decide +kernel
theorem dX2_blank_0 : decode cX2_blank 0 = .ok (.aload_n 0, 1) := by decide +kernel
theorem dX2_blank_1 : decode cX2_blank 1 = .ok (.getfield 38, 3) := by decide +kernel
theorem dX2_blank_4 : decode cX2_blank 4 = .ok (.iconst 0, 1) := by decide +kernel
theorem dX2_blank_5 : decode cX2_blank 5 = .ok (.invokestatic 58, 3) := by decide +kernel
theorem dX2_blank_8 : decode cX2_blank 8 = .ok (.return_, 1) := by decide +kernel
theorem dX2_hasAlpha_0 : decode cX2_hasAlpha 0 = .ok (.aload_n 0, 1) := by decide +kernel
theorem dX2_hasAlpha_1 : decode cX2_hasAlpha 1 = .ok (.getfield 20, 3) := by decide +kernel
theorem dX2_hasAlpha_4 : decode cX2_hasAlpha 4 = .ok (.iconst 2, 1) := by decide +kernel
theorem dX2_hasAlpha_5 : decode cX2_hasAlpha 5 = .ok (.if_icmp .eq 11, 3) := by decide +kernel
theorem dX2_hasAlpha_8 : decode cX2_hasAlpha 8 = .ok (.aload_n 0, 1) := by decide +kernel
theorem dX2_hasAlpha_9 : decode cX2_hasAlpha 9 = .ok (.getfield 20, 3) := by decide +kernel
theorem dX2_hasAlpha_12 : decode cX2_hasAlpha 12 = .ok (.iconst 4, 1) := by decide +kernel
theorem dX2_hasAlpha_13 : decode cX2_hasAlpha 13 = .ok (.if_icmp .ne 7, 3) := by decide +kernel
theorem dX2_hasAlpha_16 : decode cX2_hasAlpha 16 = .ok (.iconst 1, 1) := by decide +kernel
theorem dX2_hasAlpha_17 : decode cX2_hasAlpha 17 = .ok (.goto 4, 3) := by decide +kernel
theorem dX2_hasAlpha_20 : decode cX2_hasAlpha 20 = .ok (.iconst 0, 1) := by decide +kernel
theorem dX2_hasAlpha_21 : decode cX2_hasAlpha 21 = .ok (.ireturn, 1) := by decide +kernel
theorem dX2_cleanHidden_0 : decode cX2_cleanHidden 0 = .ok (.iconst 0, 1) := by decide +kernel
theorem dX2_cleanHidden_1 : decode cX2_cleanHidden 1 = .ok (.istore_n 1, 1) := by decide +kernel
theorem dX2_cleanHidden_2 : decode cX2_cleanHidden 2 = .ok (.iconst 0, 1) := by decide +kernel
theorem dX2_cleanHidden_3 : decode cX2_cleanHidden 3 = .ok (.istore_n 2, 1) := by decide +kernel
theorem dX2_cleanHidden_4 : decode cX2_cleanHidden 4 = .ok (.iload_n 2, 1) := by decide +kernel
theorem dX2_cleanHidden_5 : decode cX2_cleanHidden 5 = .ok (.aload_n 0, 1) := by decide +kernel
theorem dX2_cleanHidden_6 : decode cX2_cleanHidden 6 = .ok (.getfield 17, 3) := by decide +kernel
theorem dX2_cleanHidden_9 : decode cX2_cleanHidden 9 = .ok (.if_icmp .ge 49, 3) := by decide +kernel
theorem dX2_cleanHidden_12 : decode cX2_cleanHidden 12 = .ok (.iconst 0, 1) := by decide +kernel
theorem dX2_cleanHidden_13 : decode cX2_cleanHidden 13 = .ok (.istore_n 3, 1) := by decide +kernel
theorem dX2_cleanHidden_14 : decode cX2_cleanHidden 14 = .ok (.iload_n 3, 1) := by decide +kernel
theorem dX2_cleanHidden_15 : decode cX2_cleanHidden 15 = .ok (.aload_n 0, 1) := by decide +kernel
theorem dX2_cleanHidden_16 : decode cX2_cleanHidden 16 = .ok (.getfield 13, 3) := by decide +kernel
theorem dX2_cleanHidden_19 : decode cX2_cleanHidden 19 = .ok (.if_icmp .ge 33, 3) := by decide +kernel
theorem dX2_cleanHidden_22 : decode cX2_cleanHidden 22 = .ok (.aload_n 0, 1) := by decide +kernel
theorem dX2_cleanHidden_23 : decode cX2_cleanHidden 23 = .ok (.iload_n 3, 1) := by decide +kernel
theorem dX2_cleanHidden_24 : decode cX2_cleanHidden 24 = .ok (.iload_n 2, 1) := by decide +kernel
theorem dX2_cleanHidden_25 : decode cX2_cleanHidden 25 = .ok (.aload_n 0, 1) := by decide +kernel
theorem dX2_cleanHidden_26 : decode cX2_cleanHidden 26 = .ok (.getfield 20, 3) := by decide +kernel
theorem dX2_cleanHidden_29 : decode cX2_cleanHidden 29 = .ok (.iconst 1, 1) := by decide +kernel
theorem dX2_cleanHidden_30 : decode cX2_cleanHidden 30 = .ok (.isub, 1) := by decide +kernel
theorem dX2_cleanHidden_31 : decode cX2_cleanHidden 31 = .ok (.invokevirtual 55, 3) := by decide +kernel
theorem dX2_cleanHidden_34 : decode cX2_cleanHidden 34 = .ok (.ifCond .ne 12, 3) := by decide +kernel
theorem dX2_cleanHidden_37 : decode cX2_cleanHidden 37 = .ok (.iload_n 1, 1) := by decide +kernel
theorem dX2_cleanHidden_38 : decode cX2_cleanHidden 38 = .ok (.aload_n 0, 1) := by decide +kernel
theorem dX2_cleanHidden_39 : decode cX2_cleanHidden 39 = .ok (.iload_n 3, 1) := by decide +kernel
theorem dX2_cleanHidden_40 : decode cX2_cleanHidden 40 = .ok (.iload_n 2, 1) := by decide +kernel
theorem dX2_cleanHidden_41 : decode cX2_cleanHidden 41 = .ok (.invokevirtual 64, 3) := by decide +kernel
theorem dX2_cleanHidden_44 : decode cX2_cleanHidden 44 = .ok (.iadd, 1) := by decide +kernel
theorem dX2_cleanHidden_45 : decode cX2_cleanHidden 45 = .ok (.istore_n 1, 1) := by decide +kernel
theorem dX2_cleanHidden_46 : decode cX2_cleanHidden 46 = .ok (.iinc 3 1, 3) := by decide +kernel
theorem dX2_cleanHidden_49 : decode cX2_cleanHidden 49 = .ok (.goto (-35), 3) := by decide +kernel
theorem dX2_cleanHidden_52 : decode cX2_cleanHidden 52 = .ok (.iinc 2 1, 3) := by decide +kernel
theorem dX2_cleanHidden_55 : decode cX2_cleanHidden 55 = .ok (.goto (-51), 3) := by decide +kernel
theorem dX2_cleanHidden_58 : decode cX2_cleanHidden 58 = .ok (.iload_n 1, 1) := by decide +kernel
theorem dX2_cleanHidden_59 : decode cX2_cleanHidden 59 = .ok (.ireturn, 1) := by decide +kernel
theorem dX2_blankPlace_0 : decode cX2_blankPlace 0 = .ok (.iconst 0, 1) := by decide +kernel
theorem dX2_blankPlace_1 : decode cX2_blankPlace 1 = .ok (.istore_n 3, 1) := by decide +kernel
theorem dX2_blankPlace_2 : decode cX2_blankPlace 2 = .ok (.iconst 0, 1) := by decide +kernel
theorem dX2_blankPlace_3 : decode cX2_blankPlace 3 = .ok (.istore 4, 2) := by decide +kernel
theorem dX2_blankPlace_5 : decode cX2_blankPlace 5 = .ok (.iload 4, 2) := by decide +kernel
theorem dX2_blankPlace_7 : decode cX2_blankPlace 7 = .ok (.aload_n 0, 1) := by decide +kernel
theorem dX2_blankPlace_8 : decode cX2_blankPlace 8 = .ok (.getfield 20, 3) := by decide +kernel
theorem dX2_blankPlace_11 : decode cX2_blankPlace 11 = .ok (.if_icmp .ge 24, 3) := by decide +kernel
theorem dX2_blankPlace_14 : decode cX2_blankPlace 14 = .ok (.aload_n 0, 1) := by decide +kernel
theorem dX2_blankPlace_15 : decode cX2_blankPlace 15 = .ok (.iload_n 1, 1) := by decide +kernel
theorem dX2_blankPlace_16 : decode cX2_blankPlace 16 = .ok (.iload_n 2, 1) := by decide +kernel
theorem dX2_blankPlace_17 : decode cX2_blankPlace 17 = .ok (.iload 4, 2) := by decide +kernel
theorem dX2_blankPlace_19 : decode cX2_blankPlace 19 = .ok (.iconst 0, 1) := by decide +kernel
theorem dX2_blankPlace_20 : decode cX2_blankPlace 20 = .ok (.invokevirtual 67, 3) := by decide +kernel
theorem dX2_blankPlace_23 : decode cX2_blankPlace 23 = .ok (.ifCond .eq 6, 3) := by decide +kernel
theorem dX2_blankPlace_26 : decode cX2_blankPlace 26 = .ok (.iinc 3 1, 3) := by decide +kernel
theorem dX2_blankPlace_29 : decode cX2_blankPlace 29 = .ok (.iinc 4 1, 3) := by decide +kernel
theorem dX2_blankPlace_32 : decode cX2_blankPlace 32 = .ok (.goto (-27), 3) := by decide +kernel
theorem dX2_blankPlace_35 : decode cX2_blankPlace 35 = .ok (.iload_n 3, 1) := by decide +kernel
theorem dX2_blankPlace_36 : decode cX2_blankPlace 36 = .ok (.ireturn, 1) := by decide +kernel
theorem dX2_countFrom_0 : decode cX2_countFrom 0 = .ok (.iload_n 2, 1) := by decide +kernel
theorem dX2_countFrom_1 : decode cX2_countFrom 1 = .ok (.iload_n 0, 1) := by decide +kernel
theorem dX2_countFrom_2 : decode cX2_countFrom 2 = .ok (.if_icmp .gt 7, 3) := by decide +kernel
theorem dX2_countFrom_5 : decode cX2_countFrom 5 = .ok (.iconst 0, 1) := by decide +kernel
theorem dX2_countFrom_6 : decode cX2_countFrom 6 = .ok (.goto 12, 3) := by decide +kernel
theorem dX2_countFrom_9 : decode cX2_countFrom 9 = .ok (.iload_n 2, 1) := by decide +kernel
theorem dX2_countFrom_10 : decode cX2_countFrom 10 = .ok (.iconst 1, 1) := by decide +kernel
theorem dX2_countFrom_11 : decode cX2_countFrom 11 = .ok (.isub, 1) := by decide +kernel
theorem dX2_countFrom_12 : decode cX2_countFrom 12 = .ok (.iload_n 0, 1) := by decide +kernel
theorem dX2_countFrom_13 : decode cX2_countFrom 13 = .ok (.isub, 1) := by decide +kernel
theorem dX2_countFrom_14 : decode cX2_countFrom 14 = .ok (.iload_n 1, 1) := by decide +kernel
theorem dX2_countFrom_15 : decode cX2_countFrom 15 = .ok (.ishr, 1) := by decide +kernel
theorem dX2_countFrom_16 : decode cX2_countFrom 16 = .ok (.iconst 1, 1) := by decide +kernel
theorem dX2_countFrom_17 : decode cX2_countFrom 17 = .ok (.iadd, 1) := by decide +kernel
theorem dX2_countFrom_18 : decode cX2_countFrom 18 = .ok (.ireturn, 1) := by decide +kernel
theorem dX2_columnsOf_0 : decode cX2_columnsOf 0 = .ok (.iload_n 1, 1) := by decide +kernel
theorem dX2_columnsOf_1 : decode cX2_columnsOf 1 = .ok (.invokestatic 71, 3) := by decide +kernel
theorem dX2_columnsOf_4 : decode cX2_columnsOf 4 = .ok (.ifCond .eq 23, 3) := by decide +kernel
theorem dX2_columnsOf_7 : decode cX2_columnsOf 7 = .ok (.getstatic 77, 3) := by decide +kernel
theorem dX2_columnsOf_10 : decode cX2_columnsOf 10 = .ok (.iload_n 1, 1) := by decide +kernel
theorem dX2_columnsOf_11 : decode cX2_columnsOf 11 = .ok (.iaload, 1) := by decide +kernel
theorem dX2_columnsOf_12 : decode cX2_columnsOf 12 = .ok (.getstatic 80, 3) := by decide +kernel
theorem dX2_columnsOf_15 : decode cX2_columnsOf 15 = .ok (.iload_n 1, 1) := by decide +kernel
theorem dX2_columnsOf_16 : decode cX2_columnsOf 16 = .ok (.iaload, 1) := by decide +kernel
theorem dX2_columnsOf_17 : decode cX2_columnsOf 17 = .ok (.aload_n 0, 1) := by decide +kernel
theorem dX2_columnsOf_18 : decode cX2_columnsOf 18 = .ok (.getfield 13, 3) := by decide +kernel
theorem dX2_columnsOf_21 : decode cX2_columnsOf 21 = .ok (.invokestatic 83, 3) := by decide +kernel
theorem dX2_columnsOf_24 : decode cX2_columnsOf 24 = .ok (.goto 4, 3) := by decide +kernel
theorem dX2_columnsOf_27 : decode cX2_columnsOf 27 = .ok (.iconst 0, 1) := by decide +kernel
theorem dX2_columnsOf_28 : decode cX2_columnsOf 28 = .ok (.ireturn, 1) := by decide +kernel
theorem dX2_rowsOf_0 : decode cX2_rowsOf 0 = .ok (.iload_n 1, 1) := by decide +kernel
theorem dX2_rowsOf_1 : decode cX2_rowsOf 1 = .ok (.invokestatic 71, 3) := by decide +kernel
theorem dX2_rowsOf_4 : decode cX2_rowsOf 4 = .ok (.ifCond .eq 23, 3) := by decide +kernel
theorem dX2_rowsOf_7 : decode cX2_rowsOf 7 = .ok (.getstatic 86, 3) := by decide +kernel
theorem dX2_rowsOf_10 : decode cX2_rowsOf 10 = .ok (.iload_n 1, 1) := by decide +kernel
theorem dX2_rowsOf_11 : decode cX2_rowsOf 11 = .ok (.iaload, 1) := by decide +kernel
theorem dX2_rowsOf_12 : decode cX2_rowsOf 12 = .ok (.getstatic 89, 3) := by decide +kernel
theorem dX2_rowsOf_15 : decode cX2_rowsOf 15 = .ok (.iload_n 1, 1) := by decide +kernel
theorem dX2_rowsOf_16 : decode cX2_rowsOf 16 = .ok (.iaload, 1) := by decide +kernel
theorem dX2_rowsOf_17 : decode cX2_rowsOf 17 = .ok (.aload_n 0, 1) := by decide +kernel
theorem dX2_rowsOf_18 : decode cX2_rowsOf 18 = .ok (.getfield 17, 3) := by decide +kernel
theorem dX2_rowsOf_21 : decode cX2_rowsOf 21 = .ok (.invokestatic 83, 3) := by decide +kernel
theorem dX2_rowsOf_24 : decode cX2_rowsOf 24 = .ok (.goto 4, 3) := by decide +kernel
theorem dX2_rowsOf_27 : decode cX2_rowsOf 27 = .ok (.iconst 0, 1) := by decide +kernel
theorem dX2_rowsOf_28 : decode cX2_rowsOf 28 = .ok (.ireturn, 1) := by decide +kernel
theorem dX2_placesOf_0 : decode cX2_placesOf 0 = .ok (.aload_n 0, 1) := by decide +kernel
theorem dX2_placesOf_1 : decode cX2_placesOf 1 = .ok (.iload_n 1, 1) := by decide +kernel
theorem dX2_placesOf_2 : decode cX2_placesOf 2 = .ok (.invokevirtual 92, 3) := by decide +kernel
theorem dX2_placesOf_5 : decode cX2_placesOf 5 = .ok (.aload_n 0, 1) := by decide +kernel
theorem dX2_placesOf_6 : decode cX2_placesOf 6 = .ok (.iload_n 1, 1) := by decide +kernel
theorem dX2_placesOf_7 : decode cX2_placesOf 7 = .ok (.invokevirtual 96, 3) := by decide +kernel
theorem dX2_placesOf_10 : decode cX2_placesOf 10 = .ok (.imul, 1) := by decide +kernel
theorem dX2_placesOf_11 : decode cX2_placesOf 11 = .ok (.ireturn, 1) := by decide +kernel
theorem dX2_linesOf_0 : decode cX2_linesOf 0 = .ok (.aload_n 0, 1) := by decide +kernel
theorem dX2_linesOf_1 : decode cX2_linesOf 1 = .ok (.iload_n 1, 1) := by decide +kernel
theorem dX2_linesOf_2 : decode cX2_linesOf 2 = .ok (.invokevirtual 92, 3) := by decide +kernel
theorem dX2_linesOf_5 : decode cX2_linesOf 5 = .ok (.ifCond .ne 7, 3) := by decide +kernel
theorem dX2_linesOf_8 : decode cX2_linesOf 8 = .ok (.iconst 0, 1) := by decide +kernel
theorem dX2_linesOf_9 : decode cX2_linesOf 9 = .ok (.goto 8, 3) := by decide +kernel
theorem dX2_linesOf_12 : decode cX2_linesOf 12 = .ok (.aload_n 0, 1) := by decide +kernel
theorem dX2_linesOf_13 : decode cX2_linesOf 13 = .ok (.iload_n 1, 1) := by decide +kernel
theorem dX2_linesOf_14 : decode cX2_linesOf 14 = .ok (.invokevirtual 96, 3) := by decide +kernel
theorem dX2_linesOf_17 : decode cX2_linesOf 17 = .ok (.ireturn, 1) := by decide +kernel
theorem dX2_lineBytes_0 : decode cX2_lineBytes 0 = .ok (.aload_n 0, 1) := by decide +kernel
theorem dX2_lineBytes_1 : decode cX2_lineBytes 1 = .ok (.iload_n 1, 1) := by decide +kernel
theorem dX2_lineBytes_2 : decode cX2_lineBytes 2 = .ok (.invokevirtual 96, 3) := by decide +kernel
theorem dX2_lineBytes_5 : decode cX2_lineBytes 5 = .ok (.ifCond .ne 7, 3) := by decide +kernel
theorem dX2_lineBytes_8 : decode cX2_lineBytes 8 = .ok (.iconst 0, 1) := by decide +kernel
theorem dX2_lineBytes_9 : decode cX2_lineBytes 9 = .ok (.goto 23, 3) := by decide +kernel
theorem dX2_lineBytes_12 : decode cX2_lineBytes 12 = .ok (.aload_n 0, 1) := by decide +kernel
theorem dX2_lineBytes_13 : decode cX2_lineBytes 13 = .ok (.iload_n 1, 1) := by decide +kernel
theorem dX2_lineBytes_14 : decode cX2_lineBytes 14 = .ok (.invokevirtual 92, 3) := by decide +kernel
theorem dX2_lineBytes_17 : decode cX2_lineBytes 17 = .ok (.aload_n 0, 1) := by decide +kernel
theorem dX2_lineBytes_18 : decode cX2_lineBytes 18 = .ok (.getfield 20, 3) := by decide +kernel
theorem dX2_lineBytes_21 : decode cX2_lineBytes 21 = .ok (.imul, 1) := by decide +kernel
theorem dX2_lineBytes_22 : decode cX2_lineBytes 22 = .ok (.aload_n 0, 1) := by decide +kernel
theorem dX2_lineBytes_23 : decode cX2_lineBytes 23 = .ok (.getfield 23, 3) := by decide +kernel
theorem dX2_lineBytes_26 : decode cX2_lineBytes 26 = .ok (.imul, 1) := by decide +kernel
theorem dX2_lineBytes_27 : decode cX2_lineBytes 27 = .ok (.bipush 7, 2) := by decide +kernel
theorem dX2_lineBytes_29 : decode cX2_lineBytes 29 = .ok (.iadd, 1) := by decide +kernel
theorem dX2_lineBytes_30 : decode cX2_lineBytes 30 = .ok (.iconst 3, 1) := by decide +kernel
theorem dX2_lineBytes_31 : decode cX2_lineBytes 31 = .ok (.ishr, 1) := by decide +kernel
theorem dX2_lineBytes_32 : decode cX2_lineBytes 32 = .ok (.ireturn, 1) := by decide +kernel
theorem dX2_hasLine_0 : decode cX2_hasLine 0 = .ok (.iload_n 2, 1) := by decide +kernel
theorem dX2_hasLine_1 : decode cX2_hasLine 1 = .ok (.ifCond .lt 16, 3) := by decide +kernel
theorem dX2_hasLine_4 : decode cX2_hasLine 4 = .ok (.iload_n 2, 1) := by decide +kernel
theorem dX2_hasLine_5 : decode cX2_hasLine 5 = .ok (.aload_n 0, 1) := by decide +kernel
theorem dX2_hasLine_6 : decode cX2_hasLine 6 = .ok (.iload_n 1, 1) := by decide +kernel
theorem dX2_hasLine_7 : decode cX2_hasLine 7 = .ok (.invokevirtual 99, 3) := by decide +kernel
theorem dX2_hasLine_10 : decode cX2_hasLine 10 = .ok (.if_icmp .ge 7, 3) := by decide +kernel
theorem dX2_hasLine_13 : decode cX2_hasLine 13 = .ok (.iconst 1, 1) := by decide +kernel
theorem dX2_hasLine_14 : decode cX2_hasLine 14 = .ok (.goto 4, 3) := by decide +kernel
theorem dX2_hasLine_17 : decode cX2_hasLine 17 = .ok (.iconst 0, 1) := by decide +kernel
theorem dX2_hasLine_18 : decode cX2_hasLine 18 = .ok (.ireturn, 1) := by decide +kernel
theorem dX2_sampleOfLine_0 : decode cX2_sampleOfLine 0 = .ok (.getstatic 77, 3) := by decide +kernel
theorem dX2_sampleOfLine_3 : decode cX2_sampleOfLine 3 = .ok (.iload_n 1, 1) := by decide +kernel
theorem dX2_sampleOfLine_4 : decode cX2_sampleOfLine 4 = .ok (.iaload, 1) := by decide +kernel
theorem dX2_sampleOfLine_5 : decode cX2_sampleOfLine 5 = .ok (.iload_n 3, 1) := by decide +kernel
theorem dX2_sampleOfLine_6 : decode cX2_sampleOfLine 6 = .ok (.getstatic 80, 3) := by decide +kernel
theorem dX2_sampleOfLine_9 : decode cX2_sampleOfLine 9 = .ok (.iload_n 1, 1) := by decide +kernel
theorem dX2_sampleOfLine_10 : decode cX2_sampleOfLine 10 = .ok (.iaload, 1) := by decide +kernel
theorem dX2_sampleOfLine_11 : decode cX2_sampleOfLine 11 = .ok (.ishl, 1) := by decide +kernel
theorem dX2_sampleOfLine_12 : decode cX2_sampleOfLine 12 = .ok (.iadd, 1) := by decide +kernel
theorem dX2_sampleOfLine_13 : decode cX2_sampleOfLine 13 = .ok (.istore 4, 2) := by decide +kernel
theorem dX2_sampleOfLine_15 : decode cX2_sampleOfLine 15 = .ok (.getstatic 86, 3) := by decide +kernel
theorem dX2_sampleOfLine_18 : decode cX2_sampleOfLine 18 = .ok (.iload_n 1, 1) := by decide +kernel
theorem dX2_sampleOfLine_19 : decode cX2_sampleOfLine 19 = .ok (.iaload, 1) := by decide +kernel
theorem dX2_sampleOfLine_20 : decode cX2_sampleOfLine 20 = .ok (.iload_n 2, 1) := by decide +kernel
theorem dX2_sampleOfLine_21 : decode cX2_sampleOfLine 21 = .ok (.getstatic 89, 3) := by decide +kernel
theorem dX2_sampleOfLine_24 : decode cX2_sampleOfLine 24 = .ok (.iload_n 1, 1) := by decide +kernel
theorem dX2_sampleOfLine_25 : decode cX2_sampleOfLine 25 = .ok (.iaload, 1) := by decide +kernel
theorem dX2_sampleOfLine_26 : decode cX2_sampleOfLine 26 = .ok (.ishl, 1) := by decide +kernel
theorem dX2_sampleOfLine_27 : decode cX2_sampleOfLine 27 = .ok (.iadd, 1) := by decide +kernel
theorem dX2_sampleOfLine_28 : decode cX2_sampleOfLine 28 = .ok (.istore 5, 2) := by decide +kernel
theorem dX2_sampleOfLine_30 : decode cX2_sampleOfLine 30 = .ok (.aload_n 0, 1) := by decide +kernel
theorem dX2_sampleOfLine_31 : decode cX2_sampleOfLine 31 = .ok (.iload 4, 2) := by decide +kernel
theorem dX2_sampleOfLine_33 : decode cX2_sampleOfLine 33 = .ok (.iload 5, 2) := by decide +kernel
theorem dX2_sampleOfLine_35 : decode cX2_sampleOfLine 35 = .ok (.iconst 0, 1) := by decide +kernel
theorem dX2_sampleOfLine_36 : decode cX2_sampleOfLine 36 = .ok (.invokevirtual 52, 3) := by decide +kernel
theorem dX2_sampleOfLine_39 : decode cX2_sampleOfLine 39 = .ok (.ireturn, 1) := by decide +kernel
theorem dX2_packLine_0 : decode cX2_packLine 0 = .ok (.aload_n 3, 1) := by decide +kernel
theorem dX2_packLine_1 : decode cX2_packLine 1 = .ok (.iconst 0, 1) := by decide +kernel
theorem dX2_packLine_2 : decode cX2_packLine 2 = .ok (.invokestatic 58, 3) := by decide +kernel
theorem dX2_packLine_5 : decode cX2_packLine 5 = .ok (.aload_n 0, 1) := by decide +kernel
theorem dX2_packLine_6 : decode cX2_packLine 6 = .ok (.iload_n 1, 1) := by decide +kernel
theorem dX2_packLine_7 : decode cX2_packLine 7 = .ok (.iload_n 2, 1) := by decide +kernel
theorem dX2_packLine_8 : decode cX2_packLine 8 = .ok (.invokevirtual 102, 3) := by decide +kernel
theorem dX2_packLine_11 : decode cX2_packLine 11 = .ok (.ifCond .eq 13, 3) := by decide +kernel
theorem dX2_packLine_14 : decode cX2_packLine 14 = .ok (.aload_n 3, 1) := by decide +kernel
theorem dX2_packLine_15 : decode cX2_packLine 15 = .ok (.arraylength, 1) := by decide +kernel
theorem dX2_packLine_16 : decode cX2_packLine 16 = .ok (.aload_n 0, 1) := by decide +kernel
theorem dX2_packLine_17 : decode cX2_packLine 17 = .ok (.iload_n 1, 1) := by decide +kernel
theorem dX2_packLine_18 : decode cX2_packLine 18 = .ok (.invokevirtual 106, 3) := by decide +kernel
theorem dX2_packLine_21 : decode cX2_packLine 21 = .ok (.if_icmp .ge 4, 3) := by decide +kernel
theorem dX2_packLine_24 : decode cX2_packLine 24 = .ok (.return_, 1) := by decide +kernel
theorem dX2_packLine_25 : decode cX2_packLine 25 = .ok (.aload_n 0, 1) := by decide +kernel
theorem dX2_packLine_26 : decode cX2_packLine 26 = .ok (.iload_n 1, 1) := by decide +kernel
theorem dX2_packLine_27 : decode cX2_packLine 27 = .ok (.invokevirtual 92, 3) := by decide +kernel
theorem dX2_packLine_30 : decode cX2_packLine 30 = .ok (.istore 4, 2) := by decide +kernel
theorem dX2_packLine_32 : decode cX2_packLine 32 = .ok (.iconst 0, 1) := by decide +kernel
theorem dX2_packLine_33 : decode cX2_packLine 33 = .ok (.istore 5, 2) := by decide +kernel
theorem dX2_packLine_35 : decode cX2_packLine 35 = .ok (.iconst 0, 1) := by decide +kernel
theorem dX2_packLine_36 : decode cX2_packLine 36 = .ok (.istore 6, 2) := by decide +kernel
theorem dX2_packLine_38 : decode cX2_packLine 38 = .ok (.iload 6, 2) := by decide +kernel
theorem dX2_packLine_40 : decode cX2_packLine 40 = .ok (.iload 4, 2) := by decide +kernel
theorem dX2_packLine_42 : decode cX2_packLine 42 = .ok (.if_icmp .ge 63, 3) := by decide +kernel
theorem dX2_packLine_45 : decode cX2_packLine 45 = .ok (.aload_n 0, 1) := by decide +kernel
theorem dX2_packLine_46 : decode cX2_packLine 46 = .ok (.iload_n 1, 1) := by decide +kernel
theorem dX2_packLine_47 : decode cX2_packLine 47 = .ok (.iload_n 2, 1) := by decide +kernel
theorem dX2_packLine_48 : decode cX2_packLine 48 = .ok (.iload 6, 2) := by decide +kernel
theorem dX2_packLine_50 : decode cX2_packLine 50 = .ok (.invokevirtual 109, 3) := by decide +kernel
theorem dX2_packLine_53 : decode cX2_packLine 53 = .ok (.istore 7, 2) := by decide +kernel
theorem dX2_packLine_55 : decode cX2_packLine 55 = .ok (.iconst 0, 1) := by decide +kernel
theorem dX2_packLine_56 : decode cX2_packLine 56 = .ok (.istore 8, 2) := by decide +kernel
theorem dX2_packLine_58 : decode cX2_packLine 58 = .ok (.iload 8, 2) := by decide +kernel
theorem dX2_packLine_60 : decode cX2_packLine 60 = .ok (.aload_n 0, 1) := by decide +kernel
theorem dX2_packLine_61 : decode cX2_packLine 61 = .ok (.getfield 20, 3) := by decide +kernel
theorem dX2_packLine_64 : decode cX2_packLine 64 = .ok (.if_icmp .ge 35, 3) := by decide +kernel
theorem dX2_packLine_67 : decode cX2_packLine 67 = .ok (.aload_n 0, 1) := by decide +kernel
theorem dX2_packLine_68 : decode cX2_packLine 68 = .ok (.aload_n 3, 1) := by decide +kernel
theorem dX2_packLine_69 : decode cX2_packLine 69 = .ok (.iload 5, 2) := by decide +kernel
theorem dX2_packLine_71 : decode cX2_packLine 71 = .ok (.aload_n 0, 1) := by decide +kernel
theorem dX2_packLine_72 : decode cX2_packLine 72 = .ok (.getfield 38, 3) := by decide +kernel
theorem dX2_packLine_75 : decode cX2_packLine 75 = .ok (.iload 7, 2) := by decide +kernel
theorem dX2_packLine_77 : decode cX2_packLine 77 = .ok (.iload 8, 2) := by decide +kernel
theorem dX2_packLine_79 : decode cX2_packLine 79 = .ok (.iadd, 1) := by decide +kernel
theorem dX2_packLine_80 : decode cX2_packLine 80 = .ok (.iaload, 1) := by decide +kernel
theorem dX2_packLine_81 : decode cX2_packLine 81 = .ok (.invokevirtual 112, 3) := by decide +kernel
theorem dX2_packLine_84 : decode cX2_packLine 84 = .ok (.iload 5, 2) := by decide +kernel
theorem dX2_packLine_86 : decode cX2_packLine 86 = .ok (.aload_n 0, 1) := by decide +kernel
theorem dX2_packLine_87 : decode cX2_packLine 87 = .ok (.getfield 23, 3) := by decide +kernel
theorem dX2_packLine_90 : decode cX2_packLine 90 = .ok (.iadd, 1) := by decide +kernel
theorem dX2_packLine_91 : decode cX2_packLine 91 = .ok (.istore 5, 2) := by decide +kernel
theorem dX2_packLine_93 : decode cX2_packLine 93 = .ok (.iinc 8 1, 3) := by decide +kernel
theorem dX2_packLine_96 : decode cX2_packLine 96 = .ok (.goto (-38), 3) := by decide +kernel
theorem dX2_packLine_99 : decode cX2_packLine 99 = .ok (.iinc 6 1, 3) := by decide +kernel
theorem dX2_packLine_102 : decode cX2_packLine 102 = .ok (.goto (-64), 3) := by decide +kernel
theorem dX2_packLine_105 : decode cX2_packLine 105 = .ok (.return_, 1) := by decide +kernel
theorem dX2_unpackDraft_0 : decode cX2_unpackDraft 0 = .ok (.aload_n 0, 1) := by decide +kernel
theorem dX2_unpackDraft_1 : decode cX2_unpackDraft 1 = .ok (.iload_n 1, 1) := by decide +kernel
theorem dX2_unpackDraft_2 : decode cX2_unpackDraft 2 = .ok (.iload_n 2, 1) := by decide +kernel
theorem dX2_unpackDraft_3 : decode cX2_unpackDraft 3 = .ok (.invokevirtual 102, 3) := by decide +kernel
theorem dX2_unpackDraft_6 : decode cX2_unpackDraft 6 = .ok (.ifCond .eq 13, 3) := by decide +kernel
theorem dX2_unpackDraft_9 : decode cX2_unpackDraft 9 = .ok (.aload_n 3, 1) := by decide +kernel
theorem dX2_unpackDraft_10 : decode cX2_unpackDraft 10 = .ok (.arraylength, 1) := by decide +kernel
theorem dX2_unpackDraft_11 : decode cX2_unpackDraft 11 = .ok (.aload_n 0, 1) := by decide +kernel
theorem dX2_unpackDraft_12 : decode cX2_unpackDraft 12 = .ok (.iload_n 1, 1) := by decide +kernel
theorem dX2_unpackDraft_13 : decode cX2_unpackDraft 13 = .ok (.invokevirtual 106, 3) := by decide +kernel
theorem dX2_unpackDraft_16 : decode cX2_unpackDraft 16 = .ok (.if_icmp .ge 4, 3) := by decide +kernel
theorem dX2_unpackDraft_19 : decode cX2_unpackDraft 19 = .ok (.return_, 1) := by decide +kernel
theorem dX2_unpackDraft_20 : decode cX2_unpackDraft 20 = .ok (.aload_n 0, 1) := by decide +kernel
theorem dX2_unpackDraft_21 : decode cX2_unpackDraft 21 = .ok (.iload_n 1, 1) := by decide +kernel
theorem dX2_unpackDraft_22 : decode cX2_unpackDraft 22 = .ok (.invokevirtual 92, 3) := by decide +kernel
theorem dX2_unpackDraft_25 : decode cX2_unpackDraft 25 = .ok (.istore 4, 2) := by decide +kernel
theorem dX2_unpackDraft_27 : decode cX2_unpackDraft 27 = .ok (.iconst 0, 1) := by decide +kernel
theorem dX2_unpackDraft_28 : decode cX2_unpackDraft 28 = .ok (.istore 5, 2) := by decide +kernel
theorem dX2_unpackDraft_30 : decode cX2_unpackDraft 30 = .ok (.iconst 0, 1) := by decide +kernel
theorem dX2_unpackDraft_31 : decode cX2_unpackDraft 31 = .ok (.istore 6, 2) := by decide +kernel
theorem dX2_unpackDraft_33 : decode cX2_unpackDraft 33 = .ok (.iload 6, 2) := by decide +kernel
theorem dX2_unpackDraft_35 : decode cX2_unpackDraft 35 = .ok (.iload 4, 2) := by decide +kernel
theorem dX2_unpackDraft_37 : decode cX2_unpackDraft 37 = .ok (.if_icmp .ge 63, 3) := by decide +kernel
theorem dX2_unpackDraft_40 : decode cX2_unpackDraft 40 = .ok (.aload_n 0, 1) := by decide +kernel
theorem dX2_unpackDraft_41 : decode cX2_unpackDraft 41 = .ok (.iload_n 1, 1) := by decide +kernel
theorem dX2_unpackDraft_42 : decode cX2_unpackDraft 42 = .ok (.iload_n 2, 1) := by decide +kernel
theorem dX2_unpackDraft_43 : decode cX2_unpackDraft 43 = .ok (.iload 6, 2) := by decide +kernel
theorem dX2_unpackDraft_45 : decode cX2_unpackDraft 45 = .ok (.invokevirtual 109, 3) := by decide +kernel
theorem dX2_unpackDraft_48 : decode cX2_unpackDraft 48 = .ok (.istore 7, 2) := by decide +kernel
theorem dX2_unpackDraft_50 : decode cX2_unpackDraft 50 = .ok (.iconst 0, 1) := by decide +kernel
theorem dX2_unpackDraft_51 : decode cX2_unpackDraft 51 = .ok (.istore 8, 2) := by decide +kernel
theorem dX2_unpackDraft_53 : decode cX2_unpackDraft 53 = .ok (.iload 8, 2) := by decide +kernel
theorem dX2_unpackDraft_55 : decode cX2_unpackDraft 55 = .ok (.aload_n 0, 1) := by decide +kernel
theorem dX2_unpackDraft_56 : decode cX2_unpackDraft 56 = .ok (.getfield 20, 3) := by decide +kernel
theorem dX2_unpackDraft_59 : decode cX2_unpackDraft 59 = .ok (.if_icmp .ge 35, 3) := by decide +kernel
theorem dX2_unpackDraft_62 : decode cX2_unpackDraft 62 = .ok (.aload_n 0, 1) := by decide +kernel
theorem dX2_unpackDraft_63 : decode cX2_unpackDraft 63 = .ok (.getfield 42, 3) := by decide +kernel
theorem dX2_unpackDraft_66 : decode cX2_unpackDraft 66 = .ok (.iload 7, 2) := by decide +kernel
theorem dX2_unpackDraft_68 : decode cX2_unpackDraft 68 = .ok (.iload 8, 2) := by decide +kernel
theorem dX2_unpackDraft_70 : decode cX2_unpackDraft 70 = .ok (.iadd, 1) := by decide +kernel
theorem dX2_unpackDraft_71 : decode cX2_unpackDraft 71 = .ok (.aload_n 0, 1) := by decide +kernel
theorem dX2_unpackDraft_72 : decode cX2_unpackDraft 72 = .ok (.aload_n 3, 1) := by decide +kernel
theorem dX2_unpackDraft_73 : decode cX2_unpackDraft 73 = .ok (.iload 5, 2) := by decide +kernel
theorem dX2_unpackDraft_75 : decode cX2_unpackDraft 75 = .ok (.invokevirtual 116, 3) := by decide +kernel
theorem dX2_unpackDraft_78 : decode cX2_unpackDraft 78 = .ok (.iastore, 1) := by decide +kernel
theorem dX2_unpackDraft_79 : decode cX2_unpackDraft 79 = .ok (.iload 5, 2) := by decide +kernel
theorem dX2_unpackDraft_81 : decode cX2_unpackDraft 81 = .ok (.aload_n 0, 1) := by decide +kernel
theorem dX2_unpackDraft_82 : decode cX2_unpackDraft 82 = .ok (.getfield 23, 3) := by decide +kernel
theorem dX2_unpackDraft_85 : decode cX2_unpackDraft 85 = .ok (.iadd, 1) := by decide +kernel
theorem dX2_unpackDraft_86 : decode cX2_unpackDraft 86 = .ok (.istore 5, 2) := by decide +kernel
theorem dX2_unpackDraft_88 : decode cX2_unpackDraft 88 = .ok (.iinc 8 1, 3) := by decide +kernel
theorem dX2_unpackDraft_91 : decode cX2_unpackDraft 91 = .ok (.goto (-38), 3) := by decide +kernel
theorem dX2_unpackDraft_94 : decode cX2_unpackDraft 94 = .ok (.iinc 6 1, 3) := by decide +kernel
theorem dX2_unpackDraft_97 : decode cX2_unpackDraft 97 = .ok (.goto (-64), 3) := by decide +kernel
theorem dX2_unpackDraft_100 : decode cX2_unpackDraft 100 = .ok (.return_, 1) := by decide +kernel
theorem dX2_takeDraft_0 : decode cX2_takeDraft 0 = .ok (.aload_n 0, 1) := by decide +kernel
theorem dX2_takeDraft_1 : decode cX2_takeDraft 1 = .ok (.getfield 42, 3) := by decide +kernel
theorem dX2_takeDraft_4 : decode cX2_takeDraft 4 = .ok (.iconst 0, 1) := by decide +kernel
theorem dX2_takeDraft_5 : decode cX2_takeDraft 5 = .ok (.aload_n 0, 1) := by decide +kernel
theorem dX2_takeDraft_6 : decode cX2_takeDraft 6 = .ok (.getfield 38, 3) := by decide +kernel
theorem dX2_takeDraft_9 : decode cX2_takeDraft 9 = .ok (.iconst 0, 1) := by decide +kernel
theorem dX2_takeDraft_10 : decode cX2_takeDraft 10 = .ok (.aload_n 0, 1) := by decide +kernel
theorem dX2_takeDraft_11 : decode cX2_takeDraft 11 = .ok (.getfield 38, 3) := by decide +kernel
theorem dX2_takeDraft_14 : decode cX2_takeDraft 14 = .ok (.arraylength, 1) := by decide +kernel
theorem dX2_takeDraft_15 : decode cX2_takeDraft 15 = .ok (.invokestatic 120, 3) := by decide +kernel
theorem dX2_takeDraft_18 : decode cX2_takeDraft 18 = .ok (.return_, 1) := by decide +kernel
theorem dX2_packSample_0 : decode cX2_packSample 0 = .ok (.iload_n 2, 1) := by decide +kernel
theorem dX2_packSample_1 : decode cX2_packSample 1 = .ok (.iconst 3, 1) := by decide +kernel
theorem dX2_packSample_2 : decode cX2_packSample 2 = .ok (.ishr, 1) := by decide +kernel
theorem dX2_packSample_3 : decode cX2_packSample 3 = .ok (.istore 4, 2) := by decide +kernel
theorem dX2_packSample_5 : decode cX2_packSample 5 = .ok (.aload_n 0, 1) := by decide +kernel
theorem dX2_packSample_6 : decode cX2_packSample 6 = .ok (.getfield 23, 3) := by decide +kernel
theorem dX2_packSample_9 : decode cX2_packSample 9 = .ok (.bipush 8, 2) := by decide +kernel
theorem dX2_packSample_11 : decode cX2_packSample 11 = .ok (.if_icmp .le 25, 3) := by decide +kernel
theorem dX2_packSample_14 : decode cX2_packSample 14 = .ok (.aload_n 1, 1) := by decide +kernel
theorem dX2_packSample_15 : decode cX2_packSample 15 = .ok (.iload 4, 2) := by decide +kernel
theorem dX2_packSample_17 : decode cX2_packSample 17 = .ok (.iload_n 3, 1) := by decide +kernel
theorem dX2_packSample_18 : decode cX2_packSample 18 = .ok (.bipush 8, 2) := by decide +kernel
theorem dX2_packSample_20 : decode cX2_packSample 20 = .ok (.ishr, 1) := by decide +kernel
theorem dX2_packSample_21 : decode cX2_packSample 21 = .ok (.iastore, 1) := by decide +kernel
theorem dX2_packSample_22 : decode cX2_packSample 22 = .ok (.aload_n 1, 1) := by decide +kernel
theorem dX2_packSample_23 : decode cX2_packSample 23 = .ok (.iload 4, 2) := by decide +kernel
theorem dX2_packSample_25 : decode cX2_packSample 25 = .ok (.iconst 1, 1) := by decide +kernel
theorem dX2_packSample_26 : decode cX2_packSample 26 = .ok (.iadd, 1) := by decide +kernel
theorem dX2_packSample_27 : decode cX2_packSample 27 = .ok (.iload_n 3, 1) := by decide +kernel
theorem dX2_packSample_28 : decode cX2_packSample 28 = .ok (.sipush 255, 3) := by decide +kernel
theorem dX2_packSample_31 : decode cX2_packSample 31 = .ok (.iand, 1) := by decide +kernel
theorem dX2_packSample_32 : decode cX2_packSample 32 = .ok (.iastore, 1) := by decide +kernel
theorem dX2_packSample_33 : decode cX2_packSample 33 = .ok (.goto 24, 3) := by decide +kernel
theorem dX2_packSample_36 : decode cX2_packSample 36 = .ok (.aload_n 1, 1) := by decide +kernel
theorem dX2_packSample_37 : decode cX2_packSample 37 = .ok (.iload 4, 2) := by decide +kernel
theorem dX2_packSample_39 : decode cX2_packSample 39 = .ok (.dup2, 1) := by decide +kernel
theorem dX2_packSample_40 : decode cX2_packSample 40 = .ok (.iaload, 1) := by decide +kernel
theorem dX2_packSample_41 : decode cX2_packSample 41 = .ok (.iload_n 3, 1) := by decide +kernel
theorem dX2_packSample_42 : decode cX2_packSample 42 = .ok (.bipush 8, 2) := by decide +kernel
theorem dX2_packSample_44 : decode cX2_packSample 44 = .ok (.aload_n 0, 1) := by decide +kernel
theorem dX2_packSample_45 : decode cX2_packSample 45 = .ok (.getfield 23, 3) := by decide +kernel
theorem dX2_packSample_48 : decode cX2_packSample 48 = .ok (.isub, 1) := by decide +kernel
theorem dX2_packSample_49 : decode cX2_packSample 49 = .ok (.iload_n 2, 1) := by decide +kernel
theorem dX2_packSample_50 : decode cX2_packSample 50 = .ok (.bipush 7, 2) := by decide +kernel
theorem dX2_packSample_52 : decode cX2_packSample 52 = .ok (.iand, 1) := by decide +kernel
theorem dX2_packSample_53 : decode cX2_packSample 53 = .ok (.isub, 1) := by decide +kernel
theorem dX2_packSample_54 : decode cX2_packSample 54 = .ok (.ishl, 1) := by decide +kernel
theorem dX2_packSample_55 : decode cX2_packSample 55 = .ok (.ior, 1) := by decide +kernel
theorem dX2_packSample_56 : decode cX2_packSample 56 = .ok (.iastore, 1) := by decide +kernel
theorem dX2_packSample_57 : decode cX2_packSample 57 = .ok (.return_, 1) := by decide +kernel
theorem dX2_unpackSample_0 : decode cX2_unpackSample 0 = .ok (.iload_n 2, 1) := by decide +kernel
theorem dX2_unpackSample_1 : decode cX2_unpackSample 1 = .ok (.iconst 3, 1) := by decide +kernel
theorem dX2_unpackSample_2 : decode cX2_unpackSample 2 = .ok (.ishr, 1) := by decide +kernel
theorem dX2_unpackSample_3 : decode cX2_unpackSample 3 = .ok (.istore_n 3, 1) := by decide +kernel
theorem dX2_unpackSample_4 : decode cX2_unpackSample 4 = .ok (.aload_n 0, 1) := by decide +kernel
theorem dX2_unpackSample_5 : decode cX2_unpackSample 5 = .ok (.getfield 23, 3) := by decide +kernel
theorem dX2_unpackSample_8 : decode cX2_unpackSample 8 = .ok (.bipush 8, 2) := by decide +kernel
theorem dX2_unpackSample_10 : decode cX2_unpackSample 10 = .ok (.if_icmp .le 16, 3) := by decide +kernel
theorem dX2_unpackSample_13 : decode cX2_unpackSample 13 = .ok (.aload_n 1, 1) := by decide +kernel
theorem dX2_unpackSample_14 : decode cX2_unpackSample 14 = .ok (.iload_n 3, 1) := by decide +kernel
theorem dX2_unpackSample_15 : decode cX2_unpackSample 15 = .ok (.iaload, 1) := by decide +kernel
theorem dX2_unpackSample_16 : decode cX2_unpackSample 16 = .ok (.bipush 8, 2) := by decide +kernel
theorem dX2_unpackSample_18 : decode cX2_unpackSample 18 = .ok (.ishl, 1) := by decide +kernel
theorem dX2_unpackSample_19 : decode cX2_unpackSample 19 = .ok (.aload_n 1, 1) := by decide +kernel
theorem dX2_unpackSample_20 : decode cX2_unpackSample 20 = .ok (.iload_n 3, 1) := by decide +kernel
theorem dX2_unpackSample_21 : decode cX2_unpackSample 21 = .ok (.iconst 1, 1) := by decide +kernel
theorem dX2_unpackSample_22 : decode cX2_unpackSample 22 = .ok (.iadd, 1) := by decide +kernel
theorem dX2_unpackSample_23 : decode cX2_unpackSample 23 = .ok (.iaload, 1) := by decide +kernel
theorem dX2_unpackSample_24 : decode cX2_unpackSample 24 = .ok (.ior, 1) := by decide +kernel
theorem dX2_unpackSample_25 : decode cX2_unpackSample 25 = .ok (.ireturn, 1) := by decide +kernel
theorem dX2_unpackSample_26 : decode cX2_unpackSample 26 = .ok (.aload_n 1, 1) := by decide +kernel
theorem dX2_unpackSample_27 : decode cX2_unpackSample 27 = .ok (.iload_n 3, 1) := by decide +kernel
theorem dX2_unpackSample_28 : decode cX2_unpackSample 28 = .ok (.iaload, 1) := by decide +kernel
theorem dX2_unpackSample_29 : decode cX2_unpackSample 29 = .ok (.bipush 8, 2) := by decide +kernel
theorem dX2_unpackSample_31 : decode cX2_unpackSample 31 = .ok (.aload_n 0, 1) := by decide +kernel
theorem dX2_unpackSample_32 : decode cX2_unpackSample 32 = .ok (.getfield 23, 3) := by decide +kernel
theorem dX2_unpackSample_35 : decode cX2_unpackSample 35 = .ok (.isub, 1) := by decide +kernel
theorem dX2_unpackSample_36 : decode cX2_unpackSample 36 = .ok (.iload_n 2, 1) := by decide +kernel
theorem dX2_unpackSample_37 : decode cX2_unpackSample 37 = .ok (.bipush 7, 2) := by decide +kernel
theorem dX2_unpackSample_39 : decode cX2_unpackSample 39 = .ok (.iand, 1) := by decide +kernel
theorem dX2_unpackSample_40 : decode cX2_unpackSample 40 = .ok (.isub, 1) := by decide +kernel
theorem dX2_unpackSample_41 : decode cX2_unpackSample 41 = .ok (.ishr, 1) := by decide +kernel
theorem dX2_unpackSample_42 : decode cX2_unpackSample 42 = .ok (.aload_n 0, 1) := by decide +kernel
theorem dX2_unpackSample_43 : decode cX2_unpackSample 43 = .ok (.getfield 35, 3) := by decide +kernel
theorem dX2_unpackSample_46 : decode cX2_unpackSample 46 = .ok (.iand, 1) := by decide +kernel
theorem dX2_unpackSample_47 : decode cX2_unpackSample 47 = .ok (.ireturn, 1) := by decide +kernel
