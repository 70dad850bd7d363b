theorem dX5_prepare_0 : decode cX5_prepare 0 = .ok (.aload_n 0, 1) := by decide +kernel
theorem dX5_prepare_1 : decode cX5_prepare 1 = .ok (.iload_n 1, 1) := by decide +kernel
theorem dX5_prepare_2 : decode cX5_prepare 2 = .ok (.iload_n 2, 1) := by decide +kernel
theorem dX5_prepare_3 : decode cX5_prepare 3 = .ok (.aload_n 0, 1) := by decide +kernel
theorem dX5_prepare_4 : decode cX5_prepare 4 = .ok (.getfield 28, 3) := by decide +kernel
theorem dX5_prepare_7 : decode cX5_prepare 7 = .ok (.invokevirtual 111, 3) := by decide +kernel
theorem dX5_prepare_10 : decode cX5_prepare 10 = .ok (.aload_n 0, 1) := by decide +kernel
theorem dX5_prepare_11 : decode cX5_prepare 11 = .ok (.iload_n 1, 1) := by decide +kernel
theorem dX5_prepare_12 : decode cX5_prepare 12 = .ok (.iload_n 2, 1) := by decide +kernel
theorem dX5_prepare_13 : decode cX5_prepare 13 = .ok (.iconst 1, 1) := by decide +kernel
theorem dX5_prepare_14 : decode cX5_prepare 14 = .ok (.isub, 1) := by decide +kernel
theorem dX5_prepare_15 : decode cX5_prepare 15 = .ok (.aload_n 0, 1) := by decide +kernel
theorem dX5_prepare_16 : decode cX5_prepare 16 = .ok (.getfield 31, 3) := by decide +kernel
theorem dX5_prepare_19 : decode cX5_prepare 19 = .ok (.invokevirtual 111, 3) := by decide +kernel
theorem dX5_prepare_22 : decode cX5_prepare 22 = .ok (.return_, 1) := by decide +kernel
theorem dX5_filtered_0 : decode cX5_filtered 0 = .ok (.aload_n 0, 1) := by decide +kernel
theorem dX5_filtered_1 : decode cX5_filtered 1 = .ok (.iload_n 1, 1) := by decide +kernel
theorem dX5_filtered_2 : decode cX5_filtered 2 = .ok (.iconst 0, 1) := by decide +kernel
theorem dX5_filtered_3 : decode cX5_filtered 3 = .ok (.bipush 7, 2) := by decide +kernel
theorem dX5_filtered_5 : decode cX5_filtered 5 = .ok (.invokestatic 76, 3) := by decide +kernel
theorem dX5_filtered_8 : decode cX5_filtered 8 = .ok (.ifCond .eq 12, 3) := by decide +kernel
theorem dX5_filtered_11 : decode cX5_filtered 11 = .ok (.iload_n 3, 1) := by decide +kernel
theorem dX5_filtered_12 : decode cX5_filtered 12 = .ok (.iconst 0, 1) := by decide +kernel
theorem dX5_filtered_13 : decode cX5_filtered 13 = .ok (.iconst 4, 1) := by decide +kernel
theorem dX5_filtered_14 : decode cX5_filtered 14 = .ok (.invokestatic 76, 3) := by decide +kernel
theorem dX5_filtered_17 : decode cX5_filtered 17 = .ok (.ifCond .ne 7, 3) := by decide +kernel
theorem dX5_filtered_20 : decode cX5_filtered 20 = .ok (.iconst 1, 1) := by decide +kernel
theorem dX5_filtered_21 : decode cX5_filtered 21 = .ok (.goto 4, 3) := by decide +kernel
theorem dX5_filtered_24 : decode cX5_filtered 24 = .ok (.iconst 0, 1) := by decide +kernel
theorem dX5_filtered_25 : decode cX5_filtered 25 = .ok (.putfield 73, 3) := by decide +kernel
theorem dX5_filtered_28 : decode cX5_filtered 28 = .ok (.aload_n 0, 1) := by decide +kernel
theorem dX5_filtered_29 : decode cX5_filtered 29 = .ok (.aload_n 0, 1) := by decide +kernel
theorem dX5_filtered_30 : decode cX5_filtered 30 = .ok (.getfield 73, 3) := by decide +kernel
theorem dX5_filtered_33 : decode cX5_filtered 33 = .ok (.ifCond .ne 38, 3) := by decide +kernel
theorem dX5_filtered_36 : decode cX5_filtered 36 = .ok (.iload_n 2, 1) := by decide +kernel
theorem dX5_filtered_37 : decode cX5_filtered 37 = .ok (.iconst 0, 1) := by decide +kernel
theorem dX5_filtered_38 : decode cX5_filtered 38 = .ok (.aload_n 0, 1) := by decide +kernel
theorem dX5_filtered_39 : decode cX5_filtered 39 = .ok (.iload_n 1, 1) := by decide +kernel
theorem dX5_filtered_40 : decode cX5_filtered 40 = .ok (.invokevirtual 94, 3) := by decide +kernel
theorem dX5_filtered_43 : decode cX5_filtered 43 = .ok (.iconst 1, 1) := by decide +kernel
theorem dX5_filtered_44 : decode cX5_filtered 44 = .ok (.isub, 1) := by decide +kernel
theorem dX5_filtered_45 : decode cX5_filtered 45 = .ok (.invokestatic 76, 3) := by decide +kernel
theorem dX5_filtered_48 : decode cX5_filtered 48 = .ok (.ifCond .eq 19, 3) := by decide +kernel
theorem dX5_filtered_51 : decode cX5_filtered 51 = .ok (.iload 4, 2) := by decide +kernel
theorem dX5_filtered_53 : decode cX5_filtered 53 = .ok (.iconst 0, 1) := by decide +kernel
theorem dX5_filtered_54 : decode cX5_filtered 54 = .ok (.aload_n 0, 1) := by decide +kernel
theorem dX5_filtered_55 : decode cX5_filtered 55 = .ok (.iload_n 1, 1) := by decide +kernel
theorem dX5_filtered_56 : decode cX5_filtered 56 = .ok (.invokevirtual 97, 3) := by decide +kernel
theorem dX5_filtered_59 : decode cX5_filtered 59 = .ok (.iconst 1, 1) := by decide +kernel
theorem dX5_filtered_60 : decode cX5_filtered 60 = .ok (.isub, 1) := by decide +kernel
theorem dX5_filtered_61 : decode cX5_filtered 61 = .ok (.invokestatic 76, 3) := by decide +kernel
theorem dX5_filtered_64 : decode cX5_filtered 64 = .ok (.ifCond .ne 7, 3) := by decide +kernel
theorem dX5_filtered_67 : decode cX5_filtered 67 = .ok (.iconst 2, 1) := by decide +kernel
theorem dX5_filtered_68 : decode cX5_filtered 68 = .ok (.goto 7, 3) := by decide +kernel
theorem dX5_filtered_71 : decode cX5_filtered 71 = .ok (.aload_n 0, 1) := by decide +kernel
theorem dX5_filtered_72 : decode cX5_filtered 72 = .ok (.getfield 73, 3) := by decide +kernel
theorem dX5_filtered_75 : decode cX5_filtered 75 = .ok (.putfield 73, 3) := by decide +kernel
theorem dX5_filtered_78 : decode cX5_filtered 78 = .ok (.aload_n 0, 1) := by decide +kernel
theorem dX5_filtered_79 : decode cX5_filtered 79 = .ok (.getfield 73, 3) := by decide +kernel
theorem dX5_filtered_82 : decode cX5_filtered 82 = .ok (.ifCond .le 5, 3) := by decide +kernel
theorem dX5_filtered_85 : decode cX5_filtered 85 = .ok (.iconst 0, 1) := by decide +kernel
theorem dX5_filtered_86 : decode cX5_filtered 86 = .ok (.ireturn, 1) := by decide +kernel
theorem dX5_filtered_87 : decode cX5_filtered 87 = .ok (.aload_n 0, 1) := by decide +kernel
theorem dX5_filtered_88 : decode cX5_filtered 88 = .ok (.iload_n 1, 1) := by decide +kernel
theorem dX5_filtered_89 : decode cX5_filtered 89 = .ok (.iload_n 2, 1) := by decide +kernel
theorem dX5_filtered_90 : decode cX5_filtered 90 = .ok (.invokevirtual 115, 3) := by decide +kernel
theorem dX5_filtered_93 : decode cX5_filtered 93 = .ok (.aload_n 0, 1) := by decide +kernel
theorem dX5_filtered_94 : decode cX5_filtered 94 = .ok (.iload_n 3, 1) := by decide +kernel
theorem dX5_filtered_95 : decode cX5_filtered 95 = .ok (.aload_n 0, 1) := by decide +kernel
theorem dX5_filtered_96 : decode cX5_filtered 96 = .ok (.iload_n 1, 1) := by decide +kernel
theorem dX5_filtered_97 : decode cX5_filtered 97 = .ok (.invokevirtual 97, 3) := by decide +kernel
theorem dX5_filtered_100 : decode cX5_filtered 100 = .ok (.invokevirtual 119, 3) := by decide +kernel
theorem dX5_filtered_103 : decode cX5_filtered 103 = .ok (.aload_n 0, 1) := by decide +kernel
theorem dX5_filtered_104 : decode cX5_filtered 104 = .ok (.getfield 34, 3) := by decide +kernel
theorem dX5_filtered_107 : decode cX5_filtered 107 = .ok (.iload 4, 2) := by decide +kernel
theorem dX5_filtered_109 : decode cX5_filtered 109 = .ok (.iaload, 1) := by decide +kernel
theorem dX5_filtered_110 : decode cX5_filtered 110 = .ok (.ireturn, 1) := by decide +kernel
theorem dX5_counted_0 : decode cX5_counted 0 = .ok (.iconst 0, 1) := by decide +kernel
theorem dX5_counted_1 : decode cX5_counted 1 = .ok (.istore_n 3, 1) := by decide +kernel
theorem dX5_counted_2 : decode cX5_counted 2 = .ok (.iload_n 3, 1) := by decide +kernel
theorem dX5_counted_3 : decode cX5_counted 3 = .ok (.sipush 256, 3) := by decide +kernel
theorem dX5_counted_6 : decode cX5_counted 6 = .ok (.if_icmp .ge 16, 3) := by decide +kernel
theorem dX5_counted_9 : decode cX5_counted 9 = .ok (.aload_n 0, 1) := by decide +kernel
theorem dX5_counted_10 : decode cX5_counted 10 = .ok (.getfield 37, 3) := by decide +kernel
theorem dX5_counted_13 : decode cX5_counted 13 = .ok (.iload_n 3, 1) := by decide +kernel
theorem dX5_counted_14 : decode cX5_counted 14 = .ok (.iconst 0, 1) := by decide +kernel
theorem dX5_counted_15 : decode cX5_counted 15 = .ok (.bastore, 1) := by decide +kernel
theorem dX5_counted_16 : decode cX5_counted 16 = .ok (.iinc 3 1, 3) := by decide +kernel
theorem dX5_counted_19 : decode cX5_counted 19 = .ok (.goto (-17), 3) := by decide +kernel
theorem dX5_counted_22 : decode cX5_counted 22 = .ok (.iconst 0, 1) := by decide +kernel
theorem dX5_counted_23 : decode cX5_counted 23 = .ok (.istore_n 3, 1) := by decide +kernel
theorem dX5_counted_24 : decode cX5_counted 24 = .ok (.iconst 0, 1) := by decide +kernel
theorem dX5_counted_25 : decode cX5_counted 25 = .ok (.istore 4, 2) := by decide +kernel
theorem dX5_counted_27 : decode cX5_counted 27 = .ok (.iconst 0, 1) := by decide +kernel
theorem dX5_counted_28 : decode cX5_counted 28 = .ok (.istore 5, 2) := by decide +kernel
theorem dX5_counted_30 : decode cX5_counted 30 = .ok (.iload 5, 2) := by decide +kernel
theorem dX5_counted_32 : decode cX5_counted 32 = .ok (.iload_n 2, 1) := by decide +kernel
theorem dX5_counted_33 : decode cX5_counted 33 = .ok (.if_icmp .ge 100, 3) := by decide +kernel
theorem dX5_counted_36 : decode cX5_counted 36 = .ok (.aload_n 0, 1) := by decide +kernel
theorem dX5_counted_37 : decode cX5_counted 37 = .ok (.getfield 34, 3) := by decide +kernel
theorem dX5_counted_40 : decode cX5_counted 40 = .ok (.iload 5, 2) := by decide +kernel
theorem dX5_counted_42 : decode cX5_counted 42 = .ok (.iaload, 1) := by decide +kernel
theorem dX5_counted_43 : decode cX5_counted 43 = .ok (.istore 6, 2) := by decide +kernel
theorem dX5_counted_45 : decode cX5_counted 45 = .ok (.iload_n 1, 1) := by decide +kernel
theorem dX5_counted_46 : decode cX5_counted 46 = .ok (.iconst 5, 1) := by decide +kernel
theorem dX5_counted_47 : decode cX5_counted 47 = .ok (.if_icmp .ne 25, 3) := by decide +kernel
theorem dX5_counted_50 : decode cX5_counted 50 = .ok (.iload 6, 2) := by decide +kernel
theorem dX5_counted_52 : decode cX5_counted 52 = .ok (.sipush 128, 3) := by decide +kernel
theorem dX5_counted_55 : decode cX5_counted 55 = .ok (.if_icmp .ge 8, 3) := by decide +kernel
theorem dX5_counted_58 : decode cX5_counted 58 = .ok (.iload 6, 2) := by decide +kernel
theorem dX5_counted_60 : decode cX5_counted 60 = .ok (.goto 48, 3) := by decide +kernel
theorem dX5_counted_63 : decode cX5_counted 63 = .ok (.sipush 256, 3) := by decide +kernel
theorem dX5_counted_66 : decode cX5_counted 66 = .ok (.iload 6, 2) := by decide +kernel
theorem dX5_counted_68 : decode cX5_counted 68 = .ok (.isub, 1) := by decide +kernel
theorem dX5_counted_69 : decode cX5_counted 69 = .ok (.goto 39, 3) := by decide +kernel
theorem dX5_counted_72 : decode cX5_counted 72 = .ok (.iload_n 1, 1) := by decide +kernel
theorem dX5_counted_73 : decode cX5_counted 73 = .ok (.bipush 6, 2) := by decide +kernel
theorem dX5_counted_75 : decode cX5_counted 75 = .ok (.if_icmp .ne 18, 3) := by decide +kernel
theorem dX5_counted_78 : decode cX5_counted 78 = .ok (.iload 6, 2) := by decide +kernel
theorem dX5_counted_80 : decode cX5_counted 80 = .ok (.iload 4, 2) := by decide +kernel
theorem dX5_counted_82 : decode cX5_counted 82 = .ok (.if_icmp .eq 7, 3) := by decide +kernel
theorem dX5_counted_85 : decode cX5_counted 85 = .ok (.iconst 1, 1) := by decide +kernel
theorem dX5_counted_86 : decode cX5_counted 86 = .ok (.goto 22, 3) := by decide +kernel
theorem dX5_counted_89 : decode cX5_counted 89 = .ok (.iconst 0, 1) := by decide +kernel
theorem dX5_counted_90 : decode cX5_counted 90 = .ok (.goto 18, 3) := by decide +kernel
theorem dX5_counted_93 : decode cX5_counted 93 = .ok (.aload_n 0, 1) := by decide +kernel
theorem dX5_counted_94 : decode cX5_counted 94 = .ok (.getfield 37, 3) := by decide +kernel
theorem dX5_counted_97 : decode cX5_counted 97 = .ok (.iload 6, 2) := by decide +kernel
theorem dX5_counted_99 : decode cX5_counted 99 = .ok (.baload, 1) := by decide +kernel
theorem dX5_counted_100 : decode cX5_counted 100 = .ok (.ifCond .eq 7, 3) := by decide +kernel
theorem dX5_counted_103 : decode cX5_counted 103 = .ok (.iconst 0, 1) := by decide +kernel
theorem dX5_counted_104 : decode cX5_counted 104 = .ok (.goto 4, 3) := by decide +kernel
theorem dX5_counted_107 : decode cX5_counted 107 = .ok (.iconst 1, 1) := by decide +kernel
theorem dX5_counted_108 : decode cX5_counted 108 = .ok (.istore 7, 2) := by decide +kernel
theorem dX5_counted_110 : decode cX5_counted 110 = .ok (.iload_n 3, 1) := by decide +kernel
theorem dX5_counted_111 : decode cX5_counted 111 = .ok (.iload 7, 2) := by decide +kernel
theorem dX5_counted_113 : decode cX5_counted 113 = .ok (.iadd, 1) := by decide +kernel
theorem dX5_counted_114 : decode cX5_counted 114 = .ok (.istore_n 3, 1) := by decide +kernel
theorem dX5_counted_115 : decode cX5_counted 115 = .ok (.aload_n 0, 1) := by decide +kernel
theorem dX5_counted_116 : decode cX5_counted 116 = .ok (.getfield 37, 3) := by decide +kernel
theorem dX5_counted_119 : decode cX5_counted 119 = .ok (.iload 6, 2) := by decide +kernel
theorem dX5_counted_121 : decode cX5_counted 121 = .ok (.iconst 1, 1) := by decide +kernel
theorem dX5_counted_122 : decode cX5_counted 122 = .ok (.bastore, 1) := by decide +kernel
theorem dX5_counted_123 : decode cX5_counted 123 = .ok (.iload 6, 2) := by decide +kernel
theorem dX5_counted_125 : decode cX5_counted 125 = .ok (.istore 4, 2) := by decide +kernel
theorem dX5_counted_127 : decode cX5_counted 127 = .ok (.iinc 5 1, 3) := by decide +kernel
theorem dX5_counted_130 : decode cX5_counted 130 = .ok (.goto (-100), 3) := by decide +kernel
theorem dX5_counted_133 : decode cX5_counted 133 = .ok (.iload_n 3, 1) := by decide +kernel
theorem dX5_counted_134 : decode cX5_counted 134 = .ok (.ireturn, 1) := by decide +kernel
theorem dX5_worth_0 : decode cX5_worth 0 = .ok (.aload_n 0, 1) := by decide +kernel
theorem dX5_worth_1 : decode cX5_worth 1 = .ok (.iload_n 1, 1) := by decide +kernel
theorem dX5_worth_2 : decode cX5_worth 2 = .ok (.iconst 0, 1) := by decide +kernel
theorem dX5_worth_3 : decode cX5_worth 3 = .ok (.bipush 7, 2) := by decide +kernel
theorem dX5_worth_5 : decode cX5_worth 5 = .ok (.invokestatic 76, 3) := by decide +kernel
theorem dX5_worth_8 : decode cX5_worth 8 = .ok (.ifCond .eq 23, 3) := by decide +kernel
theorem dX5_worth_11 : decode cX5_worth 11 = .ok (.iload_n 3, 1) := by decide +kernel
theorem dX5_worth_12 : decode cX5_worth 12 = .ok (.iconst 0, 1) := by decide +kernel
theorem dX5_worth_13 : decode cX5_worth 13 = .ok (.iconst 4, 1) := by decide +kernel
theorem dX5_worth_14 : decode cX5_worth 14 = .ok (.invokestatic 76, 3) := by decide +kernel
theorem dX5_worth_17 : decode cX5_worth 17 = .ok (.ifCond .eq 14, 3) := by decide +kernel
theorem dX5_worth_20 : decode cX5_worth 20 = .ok (.iload 4, 2) := by decide +kernel
theorem dX5_worth_22 : decode cX5_worth 22 = .ok (.iconst 5, 1) := by decide +kernel
theorem dX5_worth_23 : decode cX5_worth 23 = .ok (.bipush 7, 2) := by decide +kernel
theorem dX5_worth_25 : decode cX5_worth 25 = .ok (.invokestatic 76, 3) := by decide +kernel
theorem dX5_worth_28 : decode cX5_worth 28 = .ok (.ifCond .ne 7, 3) := by decide +kernel
theorem dX5_worth_31 : decode cX5_worth 31 = .ok (.iconst 1, 1) := by decide +kernel
theorem dX5_worth_32 : decode cX5_worth 32 = .ok (.goto 4, 3) := by decide +kernel
theorem dX5_worth_35 : decode cX5_worth 35 = .ok (.iconst 0, 1) := by decide +kernel
theorem dX5_worth_36 : decode cX5_worth 36 = .ok (.putfield 73, 3) := by decide +kernel
theorem dX5_worth_39 : decode cX5_worth 39 = .ok (.aload_n 0, 1) := by decide +kernel
theorem dX5_worth_40 : decode cX5_worth 40 = .ok (.aload_n 0, 1) := by decide +kernel
theorem dX5_worth_41 : decode cX5_worth 41 = .ok (.getfield 73, 3) := by decide +kernel
theorem dX5_worth_44 : decode cX5_worth 44 = .ok (.ifCond .ne 22, 3) := by decide +kernel
theorem dX5_worth_47 : decode cX5_worth 47 = .ok (.iload_n 2, 1) := by decide +kernel
theorem dX5_worth_48 : decode cX5_worth 48 = .ok (.iconst 0, 1) := by decide +kernel
theorem dX5_worth_49 : decode cX5_worth 49 = .ok (.aload_n 0, 1) := by decide +kernel
theorem dX5_worth_50 : decode cX5_worth 50 = .ok (.iload_n 1, 1) := by decide +kernel
theorem dX5_worth_51 : decode cX5_worth 51 = .ok (.invokevirtual 94, 3) := by decide +kernel
theorem dX5_worth_54 : decode cX5_worth 54 = .ok (.iconst 1, 1) := by decide +kernel
theorem dX5_worth_55 : decode cX5_worth 55 = .ok (.isub, 1) := by decide +kernel
theorem dX5_worth_56 : decode cX5_worth 56 = .ok (.invokestatic 76, 3) := by decide +kernel
theorem dX5_worth_59 : decode cX5_worth 59 = .ok (.ifCond .ne 7, 3) := by decide +kernel
theorem dX5_worth_62 : decode cX5_worth 62 = .ok (.iconst 2, 1) := by decide +kernel
theorem dX5_worth_63 : decode cX5_worth 63 = .ok (.goto 7, 3) := by decide +kernel
theorem dX5_worth_66 : decode cX5_worth 66 = .ok (.aload_n 0, 1) := by decide +kernel
theorem dX5_worth_67 : decode cX5_worth 67 = .ok (.getfield 73, 3) := by decide +kernel
theorem dX5_worth_70 : decode cX5_worth 70 = .ok (.putfield 73, 3) := by decide +kernel
theorem dX5_worth_73 : decode cX5_worth 73 = .ok (.aload_n 0, 1) := by decide +kernel
theorem dX5_worth_74 : decode cX5_worth 74 = .ok (.getfield 73, 3) := by decide +kernel
theorem dX5_worth_77 : decode cX5_worth 77 = .ok (.ifCond .le 5, 3) := by decide +kernel
theorem dX5_worth_80 : decode cX5_worth 80 = .ok (.iconst 0, 1) := by decide +kernel
theorem dX5_worth_81 : decode cX5_worth 81 = .ok (.ireturn, 1) := by decide +kernel
theorem dX5_worth_82 : decode cX5_worth 82 = .ok (.aload_n 0, 1) := by decide +kernel
theorem dX5_worth_83 : decode cX5_worth 83 = .ok (.iload_n 1, 1) := by decide +kernel
theorem dX5_worth_84 : decode cX5_worth 84 = .ok (.iload_n 2, 1) := by decide +kernel
theorem dX5_worth_85 : decode cX5_worth 85 = .ok (.invokevirtual 115, 3) := by decide +kernel
theorem dX5_worth_88 : decode cX5_worth 88 = .ok (.aload_n 0, 1) := by decide +kernel
theorem dX5_worth_89 : decode cX5_worth 89 = .ok (.iload_n 3, 1) := by decide +kernel
theorem dX5_worth_90 : decode cX5_worth 90 = .ok (.aload_n 0, 1) := by decide +kernel
theorem dX5_worth_91 : decode cX5_worth 91 = .ok (.iload_n 1, 1) := by decide +kernel
theorem dX5_worth_92 : decode cX5_worth 92 = .ok (.invokevirtual 97, 3) := by decide +kernel
theorem dX5_worth_95 : decode cX5_worth 95 = .ok (.invokevirtual 119, 3) := by decide +kernel
theorem dX5_worth_98 : decode cX5_worth 98 = .ok (.aload_n 0, 1) := by decide +kernel
theorem dX5_worth_99 : decode cX5_worth 99 = .ok (.iload 4, 2) := by decide +kernel
theorem dX5_worth_101 : decode cX5_worth 101 = .ok (.aload_n 0, 1) := by decide +kernel
theorem dX5_worth_102 : decode cX5_worth 102 = .ok (.iload_n 1, 1) := by decide +kernel
theorem dX5_worth_103 : decode cX5_worth 103 = .ok (.invokevirtual 97, 3) := by decide +kernel
theorem dX5_worth_106 : decode cX5_worth 106 = .ok (.invokevirtual 122, 3) := by decide +kernel
theorem dX5_worth_109 : decode cX5_worth 109 = .ok (.ireturn, 1) := by decide +kernel
theorem dX5_choose_0 : decode cX5_choose 0 = .ok (.iconst 0, 1) := by decide +kernel
theorem dX5_choose_1 : decode cX5_choose 1 = .ok (.istore_n 3, 1) := by decide +kernel
theorem dX5_choose_2 : decode cX5_choose 2 = .ok (.ldc 125, 2) := by decide +kernel
theorem dX5_choose_4 : decode cX5_choose 4 = .ok (.istore 4, 2) := by decide +kernel
theorem dX5_choose_6 : decode cX5_choose 6 = .ok (.iconst 0, 1) := by decide +kernel
theorem dX5_choose_7 : decode cX5_choose 7 = .ok (.istore 5, 2) := by decide +kernel
theorem dX5_choose_9 : decode cX5_choose 9 = .ok (.iload 5, 2) := by decide +kernel
theorem dX5_choose_11 : decode cX5_choose 11 = .ok (.iconst 5, 1) := by decide +kernel
theorem dX5_choose_12 : decode cX5_choose 12 = .ok (.if_icmp .ge 54, 3) := by decide +kernel
theorem dX5_choose_15 : decode cX5_choose 15 = .ok (.aload_n 0, 1) := by decide +kernel
theorem dX5_choose_16 : decode cX5_choose 16 = .ok (.iload 5, 2) := by decide +kernel
theorem dX5_choose_18 : decode cX5_choose 18 = .ok (.iload_n 2, 1) := by decide +kernel
theorem dX5_choose_19 : decode cX5_choose 19 = .ok (.invokevirtual 119, 3) := by decide +kernel
theorem dX5_choose_22 : decode cX5_choose 22 = .ok (.aload_n 0, 1) := by decide +kernel
theorem dX5_choose_23 : decode cX5_choose 23 = .ok (.iload_n 1, 1) := by decide +kernel
theorem dX5_choose_24 : decode cX5_choose 24 = .ok (.iload_n 2, 1) := by decide +kernel
theorem dX5_choose_25 : decode cX5_choose 25 = .ok (.invokevirtual 122, 3) := by decide +kernel
theorem dX5_choose_28 : decode cX5_choose 28 = .ok (.istore 6, 2) := by decide +kernel
theorem dX5_choose_30 : decode cX5_choose 30 = .ok (.iload 6, 2) := by decide +kernel
theorem dX5_choose_32 : decode cX5_choose 32 = .ok (.iload 4, 2) := by decide +kernel
theorem dX5_choose_34 : decode cX5_choose 34 = .ok (.if_icmp .ge 8, 3) := by decide +kernel
theorem dX5_choose_37 : decode cX5_choose 37 = .ok (.iload 5, 2) := by decide +kernel
theorem dX5_choose_39 : decode cX5_choose 39 = .ok (.goto 4, 3) := by decide +kernel
theorem dX5_choose_42 : decode cX5_choose 42 = .ok (.iload_n 3, 1) := by decide +kernel
theorem dX5_choose_43 : decode cX5_choose 43 = .ok (.istore_n 3, 1) := by decide +kernel
theorem dX5_choose_44 : decode cX5_choose 44 = .ok (.iload 6, 2) := by decide +kernel
theorem dX5_choose_46 : decode cX5_choose 46 = .ok (.iload 4, 2) := by decide +kernel
theorem dX5_choose_48 : decode cX5_choose 48 = .ok (.if_icmp .ge 8, 3) := by decide +kernel
theorem dX5_choose_51 : decode cX5_choose 51 = .ok (.iload 6, 2) := by decide +kernel
theorem dX5_choose_53 : decode cX5_choose 53 = .ok (.goto 5, 3) := by decide +kernel
theorem dX5_choose_56 : decode cX5_choose 56 = .ok (.iload 4, 2) := by decide +kernel
theorem dX5_choose_58 : decode cX5_choose 58 = .ok (.istore 4, 2) := by decide +kernel
theorem dX5_choose_60 : decode cX5_choose 60 = .ok (.iinc 5 1, 3) := by decide +kernel
theorem dX5_choose_63 : decode cX5_choose 63 = .ok (.goto (-54), 3) := by decide +kernel
theorem dX5_choose_66 : decode cX5_choose 66 = .ok (.iload_n 3, 1) := by decide +kernel
theorem dX5_choose_67 : decode cX5_choose 67 = .ok (.ireturn, 1) := by decide +kernel
theorem dX5_encode_0 : decode cX5_encode 0 = .ok (.aload_n 0, 1) := by decide +kernel
theorem dX5_encode_1 : decode cX5_encode 1 = .ok (.iload_n 1, 1) := by decide +kernel
theorem dX5_encode_2 : decode cX5_encode 2 = .ok (.iconst 0, 1) := by decide +kernel
theorem dX5_encode_3 : decode cX5_encode 3 = .ok (.bipush 8, 2) := by decide +kernel
theorem dX5_encode_5 : decode cX5_encode 5 = .ok (.invokestatic 76, 3) := by decide +kernel
theorem dX5_encode_8 : decode cX5_encode 8 = .ok (.ifCond .eq 7, 3) := by decide +kernel
theorem dX5_encode_11 : decode cX5_encode 11 = .ok (.iconst 0, 1) := by decide +kernel
theorem dX5_encode_12 : decode cX5_encode 12 = .ok (.goto 4, 3) := by decide +kernel
theorem dX5_encode_15 : decode cX5_encode 15 = .ok (.iconst 1, 1) := by decide +kernel
theorem dX5_encode_16 : decode cX5_encode 16 = .ok (.putfield 73, 3) := by decide +kernel
theorem dX5_encode_19 : decode cX5_encode 19 = .ok (.aload_n 0, 1) := by decide +kernel
theorem dX5_encode_20 : decode cX5_encode 20 = .ok (.getfield 73, 3) := by decide +kernel
theorem dX5_encode_23 : decode cX5_encode 23 = .ok (.ifCond .le 5, 3) := by decide +kernel
theorem dX5_encode_26 : decode cX5_encode 26 = .ok (.iconst 0, 1) := by decide +kernel
theorem dX5_encode_27 : decode cX5_encode 27 = .ok (.ireturn, 1) := by decide +kernel
theorem dX5_encode_28 : decode cX5_encode 28 = .ok (.iload_n 2, 1) := by decide +kernel
theorem dX5_encode_29 : decode cX5_encode 29 = .ok (.istore 4, 2) := by decide +kernel
theorem dX5_encode_31 : decode cX5_encode 31 = .ok (.aload_n 0, 1) := by decide +kernel
theorem dX5_encode_32 : decode cX5_encode 32 = .ok (.iconst 0, 1) := by decide +kernel
theorem dX5_encode_33 : decode cX5_encode 33 = .ok (.putfield 126, 3) := by decide +kernel
theorem dX5_encode_36 : decode cX5_encode 36 = .ok (.iconst 0, 1) := by decide +kernel
theorem dX5_encode_37 : decode cX5_encode 37 = .ok (.istore 5, 2) := by decide +kernel
theorem dX5_encode_39 : decode cX5_encode 39 = .ok (.iload 5, 2) := by decide +kernel
theorem dX5_encode_41 : decode cX5_encode 41 = .ok (.iconst 5, 1) := by decide +kernel
theorem dX5_encode_42 : decode cX5_encode 42 = .ok (.if_icmp .ge 17, 3) := by decide +kernel
theorem dX5_encode_45 : decode cX5_encode 45 = .ok (.aload_n 0, 1) := by decide +kernel
theorem dX5_encode_46 : decode cX5_encode 46 = .ok (.getfield 44, 3) := by decide +kernel
theorem dX5_encode_49 : decode cX5_encode 49 = .ok (.iload 5, 2) := by decide +kernel
theorem dX5_encode_51 : decode cX5_encode 51 = .ok (.iconst 0, 1) := by decide +kernel
theorem dX5_encode_52 : decode cX5_encode 52 = .ok (.iastore, 1) := by decide +kernel
theorem dX5_encode_53 : decode cX5_encode 53 = .ok (.iinc 5 1, 3) := by decide +kernel
theorem dX5_encode_56 : decode cX5_encode 56 = .ok (.goto (-17), 3) := by decide +kernel
theorem dX5_encode_59 : decode cX5_encode 59 = .ok (.iload_n 3, 1) := by decide +kernel
theorem dX5_encode_60 : decode cX5_encode 60 = .ok (.ifCond .eq 7, 3) := by decide +kernel
theorem dX5_encode_63 : decode cX5_encode 63 = .ok (.iconst 1, 1) := by decide +kernel
theorem dX5_encode_64 : decode cX5_encode 64 = .ok (.goto 4, 3) := by decide +kernel
theorem dX5_encode_67 : decode cX5_encode 67 = .ok (.iconst 0, 1) := by decide +kernel
theorem dX5_encode_68 : decode cX5_encode 68 = .ok (.istore 5, 2) := by decide +kernel
theorem dX5_encode_70 : decode cX5_encode 70 = .ok (.iload 5, 2) := by decide +kernel
theorem dX5_encode_72 : decode cX5_encode 72 = .ok (.iload_n 3, 1) := by decide +kernel
theorem dX5_encode_73 : decode cX5_encode 73 = .ok (.ifCond .eq 8, 3) := by decide +kernel
theorem dX5_encode_76 : decode cX5_encode 76 = .ok (.bipush 7, 2) := by decide +kernel
theorem dX5_encode_78 : decode cX5_encode 78 = .ok (.goto 4, 3) := by decide +kernel
theorem dX5_encode_81 : decode cX5_encode 81 = .ok (.iconst 0, 1) := by decide +kernel
theorem dX5_encode_82 : decode cX5_encode 82 = .ok (.if_icmp .gt 176, 3) := by decide +kernel
theorem dX5_encode_85 : decode cX5_encode 85 = .ok (.aload_n 0, 1) := by decide +kernel
theorem dX5_encode_86 : decode cX5_encode 86 = .ok (.iload 5, 2) := by decide +kernel
theorem dX5_encode_88 : decode cX5_encode 88 = .ok (.invokevirtual 97, 3) := by decide +kernel
theorem dX5_encode_91 : decode cX5_encode 91 = .ok (.istore 6, 2) := by decide +kernel
theorem dX5_encode_93 : decode cX5_encode 93 = .ok (.iconst 0, 1) := by decide +kernel
theorem dX5_encode_94 : decode cX5_encode 94 = .ok (.istore 7, 2) := by decide +kernel
theorem dX5_encode_96 : decode cX5_encode 96 = .ok (.iload 7, 2) := by decide +kernel
theorem dX5_encode_98 : decode cX5_encode 98 = .ok (.aload_n 0, 1) := by decide +kernel
theorem dX5_encode_99 : decode cX5_encode 99 = .ok (.iload 5, 2) := by decide +kernel
theorem dX5_encode_101 : decode cX5_encode 101 = .ok (.invokevirtual 94, 3) := by decide +kernel
theorem dX5_encode_104 : decode cX5_encode 104 = .ok (.if_icmp .ge 148, 3) := by decide +kernel
theorem dX5_encode_107 : decode cX5_encode 107 = .ok (.aload_n 0, 1) := by decide +kernel
theorem dX5_encode_108 : decode cX5_encode 108 = .ok (.iload 5, 2) := by decide +kernel
theorem dX5_encode_110 : decode cX5_encode 110 = .ok (.iload 7, 2) := by decide +kernel
theorem dX5_encode_112 : decode cX5_encode 112 = .ok (.invokevirtual 115, 3) := by decide +kernel
theorem dX5_encode_115 : decode cX5_encode 115 = .ok (.iload 4, 2) := by decide +kernel
theorem dX5_encode_117 : decode cX5_encode 117 = .ok (.ldc 129, 2) := by decide +kernel
theorem dX5_encode_119 : decode cX5_encode 119 = .ok (.imul, 1) := by decide +kernel
theorem dX5_encode_120 : decode cX5_encode 120 = .ok (.sipush 12345, 3) := by decide +kernel
theorem dX5_encode_123 : decode cX5_encode 123 = .ok (.iadd, 1) := by decide +kernel
theorem dX5_encode_124 : decode cX5_encode 124 = .ok (.istore 4, 2) := by decide +kernel
theorem dX5_encode_126 : decode cX5_encode 126 = .ok (.iload_n 1, 1) := by decide +kernel
theorem dX5_encode_127 : decode cX5_encode 127 = .ok (.iconst 5, 1) := by decide +kernel
theorem dX5_encode_128 : decode cX5_encode 128 = .ok (.if_icmp .ge 7, 3) := by decide +kernel
theorem dX5_encode_131 : decode cX5_encode 131 = .ok (.iload_n 1, 1) := by decide +kernel
theorem dX5_encode_132 : decode cX5_encode 132 = .ok (.goto 30, 3) := by decide +kernel
theorem dX5_encode_135 : decode cX5_encode 135 = .ok (.iload_n 1, 1) := by decide +kernel
theorem dX5_encode_136 : decode cX5_encode 136 = .ok (.bipush 8, 2) := by decide +kernel
theorem dX5_encode_138 : decode cX5_encode 138 = .ok (.if_icmp .ge 13, 3) := by decide +kernel
theorem dX5_encode_141 : decode cX5_encode 141 = .ok (.aload_n 0, 1) := by decide +kernel
theorem dX5_encode_142 : decode cX5_encode 142 = .ok (.iload_n 1, 1) := by decide +kernel
theorem dX5_encode_143 : decode cX5_encode 143 = .ok (.iload 6, 2) := by decide +kernel
theorem dX5_encode_145 : decode cX5_encode 145 = .ok (.invokevirtual 130, 3) := by decide +kernel
theorem dX5_encode_148 : decode cX5_encode 148 = .ok (.goto 14, 3) := by decide +kernel
theorem dX5_encode_151 : decode cX5_encode 151 = .ok (.iload 4, 2) := by decide +kernel
theorem dX5_encode_153 : decode cX5_encode 153 = .ok (.bipush 16, 2) := by decide +kernel
theorem dX5_encode_155 : decode cX5_encode 155 = .ok (.ishr, 1) := by decide +kernel
theorem dX5_encode_156 : decode cX5_encode 156 = .ok (.sipush 32767, 3) := by decide +kernel
theorem dX5_encode_159 : decode cX5_encode 159 = .ok (.iand, 1) := by decide +kernel
theorem dX5_encode_160 : decode cX5_encode 160 = .ok (.iconst 5, 1) := by decide +kernel
theorem dX5_encode_161 : decode cX5_encode 161 = .ok (.irem, 1) := by decide +kernel
theorem dX5_encode_162 : decode cX5_encode 162 = .ok (.istore 8, 2) := by decide +kernel
theorem dX5_encode_164 : decode cX5_encode 164 = .ok (.aload_n 0, 1) := by decide +kernel
theorem dX5_encode_165 : decode cX5_encode 165 = .ok (.getfield 44, 3) := by decide +kernel
theorem dX5_encode_168 : decode cX5_encode 168 = .ok (.iload 8, 2) := by decide +kernel
theorem dX5_encode_170 : decode cX5_encode 170 = .ok (.dup2, 1) := by decide +kernel
theorem dX5_encode_171 : decode cX5_encode 171 = .ok (.iaload, 1) := by decide +kernel
theorem dX5_encode_172 : decode cX5_encode 172 = .ok (.iconst 1, 1) := by decide +kernel
theorem dX5_encode_173 : decode cX5_encode 173 = .ok (.iadd, 1) := by decide +kernel
theorem dX5_encode_174 : decode cX5_encode 174 = .ok (.iastore, 1) := by decide +kernel
theorem dX5_encode_175 : decode cX5_encode 175 = .ok (.aload_n 0, 1) := by decide +kernel
theorem dX5_encode_176 : decode cX5_encode 176 = .ok (.iload 8, 2) := by decide +kernel
theorem dX5_encode_178 : decode cX5_encode 178 = .ok (.iload 6, 2) := by decide +kernel
theorem dX5_encode_180 : decode cX5_encode 180 = .ok (.invokevirtual 119, 3) := by decide +kernel
theorem dX5_encode_183 : decode cX5_encode 183 = .ok (.aload_n 0, 1) := by decide +kernel
theorem dX5_encode_184 : decode cX5_encode 184 = .ok (.getfield 41, 3) := by decide +kernel
theorem dX5_encode_187 : decode cX5_encode 187 = .ok (.aload_n 0, 1) := by decide +kernel
theorem dX5_encode_188 : decode cX5_encode 188 = .ok (.getfield 126, 3) := by decide +kernel
theorem dX5_encode_191 : decode cX5_encode 191 = .ok (.iload 8, 2) := by decide +kernel
theorem dX5_encode_193 : decode cX5_encode 193 = .ok (.iastore, 1) := by decide +kernel
theorem dX5_encode_194 : decode cX5_encode 194 = .ok (.aload_n 0, 1) := by decide +kernel
theorem dX5_encode_195 : decode cX5_encode 195 = .ok (.dup, 1) := by decide +kernel
theorem dX5_encode_196 : decode cX5_encode 196 = .ok (.getfield 126, 3) := by decide +kernel
theorem dX5_encode_199 : decode cX5_encode 199 = .ok (.iconst 1, 1) := by decide +kernel
theorem dX5_encode_200 : decode cX5_encode 200 = .ok (.iadd, 1) := by decide +kernel
theorem dX5_encode_201 : decode cX5_encode 201 = .ok (.putfield 126, 3) := by decide +kernel
theorem dX5_encode_204 : decode cX5_encode 204 = .ok (.iconst 0, 1) := by decide +kernel
theorem dX5_encode_205 : decode cX5_encode 205 = .ok (.istore 9, 2) := by decide +kernel
theorem dX5_encode_207 : decode cX5_encode 207 = .ok (.iload 9, 2) := by decide +kernel
theorem dX5_encode_209 : decode cX5_encode 209 = .ok (.iload 6, 2) := by decide +kernel
theorem dX5_encode_211 : decode cX5_encode 211 = .ok (.if_icmp .ge 35, 3) := by decide +kernel
theorem dX5_encode_214 : decode cX5_encode 214 = .ok (.aload_n 0, 1) := by decide +kernel
theorem dX5_encode_215 : decode cX5_encode 215 = .ok (.getfield 41, 3) := by decide +kernel
theorem dX5_encode_218 : decode cX5_encode 218 = .ok (.aload_n 0, 1) := by decide +kernel
theorem dX5_encode_219 : decode cX5_encode 219 = .ok (.getfield 126, 3) := by decide +kernel
theorem dX5_encode_222 : decode cX5_encode 222 = .ok (.aload_n 0, 1) := by decide +kernel
theorem dX5_encode_223 : decode cX5_encode 223 = .ok (.getfield 34, 3) := by decide +kernel
theorem dX5_encode_226 : decode cX5_encode 226 = .ok (.iload 9, 2) := by decide +kernel
theorem dX5_encode_228 : decode cX5_encode 228 = .ok (.iaload, 1) := by decide +kernel
theorem dX5_encode_229 : decode cX5_encode 229 = .ok (.iastore, 1) := by decide +kernel
theorem dX5_encode_230 : decode cX5_encode 230 = .ok (.aload_n 0, 1) := by decide +kernel
theorem dX5_encode_231 : decode cX5_encode 231 = .ok (.dup, 1) := by decide +kernel
theorem dX5_encode_232 : decode cX5_encode 232 = .ok (.getfield 126, 3) := by decide +kernel
theorem dX5_encode_235 : decode cX5_encode 235 = .ok (.iconst 1, 1) := by decide +kernel
theorem dX5_encode_236 : decode cX5_encode 236 = .ok (.iadd, 1) := by decide +kernel
theorem dX5_encode_237 : decode cX5_encode 237 = .ok (.putfield 126, 3) := by decide +kernel
theorem dX5_encode_240 : decode cX5_encode 240 = .ok (.iinc 9 1, 3) := by decide +kernel
theorem dX5_encode_243 : decode cX5_encode 243 = .ok (.goto (-36), 3) := by decide +kernel
theorem dX5_encode_246 : decode cX5_encode 246 = .ok (.iinc 7 1, 3) := by decide +kernel
theorem dX5_encode_249 : decode cX5_encode 249 = .ok (.goto (-153), 3) := by decide +kernel
theorem dX5_encode_252 : decode cX5_encode 252 = .ok (.iinc 5 1, 3) := by decide +kernel
theorem dX5_encode_255 : decode cX5_encode 255 = .ok (.goto (-185), 3) := by decide +kernel
theorem dX5_encode_258 : decode cX5_encode 258 = .ok (.aload_n 0, 1) := by decide +kernel
theorem dX5_encode_259 : decode cX5_encode 259 = .ok (.getfield 126, 3) := by decide +kernel
theorem dX5_encode_262 : decode cX5_encode 262 = .ok (.ireturn, 1) := by decide +kernel
theorem dX5_byteAt_0 : decode cX5_byteAt 0 = .ok (.aload_n 0, 1) := by decide +kernel
theorem dX5_byteAt_1 : decode cX5_byteAt 1 = .ok (.iload_n 1, 1) := by decide +kernel
theorem dX5_byteAt_2 : decode cX5_byteAt 2 = .ok (.iconst 0, 1) := by decide +kernel
theorem dX5_byteAt_3 : decode cX5_byteAt 3 = .ok (.aload_n 0, 1) := by decide +kernel
theorem dX5_byteAt_4 : decode cX5_byteAt 4 = .ok (.getfield 126, 3) := by decide +kernel
theorem dX5_byteAt_7 : decode cX5_byteAt 7 = .ok (.iconst 1, 1) := by decide +kernel
theorem dX5_byteAt_8 : decode cX5_byteAt 8 = .ok (.isub, 1) := by decide +kernel
theorem dX5_byteAt_9 : decode cX5_byteAt 9 = .ok (.invokestatic 76, 3) := by decide +kernel
theorem dX5_byteAt_12 : decode cX5_byteAt 12 = .ok (.ifCond .eq 7, 3) := by decide +kernel
theorem dX5_byteAt_15 : decode cX5_byteAt 15 = .ok (.iconst 0, 1) := by decide +kernel
theorem dX5_byteAt_16 : decode cX5_byteAt 16 = .ok (.goto 4, 3) := by decide +kernel
theorem dX5_byteAt_19 : decode cX5_byteAt 19 = .ok (.iconst 1, 1) := by decide +kernel
theorem dX5_byteAt_20 : decode cX5_byteAt 20 = .ok (.putfield 73, 3) := by decide +kernel
theorem dX5_byteAt_23 : decode cX5_byteAt 23 = .ok (.aload_n 0, 1) := by decide +kernel
theorem dX5_byteAt_24 : decode cX5_byteAt 24 = .ok (.getfield 73, 3) := by decide +kernel
theorem dX5_byteAt_27 : decode cX5_byteAt 27 = .ok (.ifCond .le 7, 3) := by decide +kernel
theorem dX5_byteAt_30 : decode cX5_byteAt 30 = .ok (.iconst 0, 1) := by decide +kernel
theorem dX5_byteAt_31 : decode cX5_byteAt 31 = .ok (.goto 9, 3) := by decide +kernel
theorem dX5_byteAt_34 : decode cX5_byteAt 34 = .ok (.aload_n 0, 1) := by decide +kernel
theorem dX5_byteAt_35 : decode cX5_byteAt 35 = .ok (.getfield 41, 3) := by decide +kernel
theorem dX5_byteAt_38 : decode cX5_byteAt 38 = .ok (.iload_n 1, 1) := by decide +kernel
theorem dX5_byteAt_39 : decode cX5_byteAt 39 = .ok (.iaload, 1) := by decide +kernel
theorem dX5_byteAt_40 : decode cX5_byteAt 40 = .ok (.ireturn, 1) := by decide +kernel
theorem dX5_chosen_0 : decode cX5_chosen 0 = .ok (.aload_n 0, 1) := by decide +kernel
theorem dX5_chosen_1 : decode cX5_chosen 1 = .ok (.iload_n 1, 1) := by decide +kernel
theorem dX5_chosen_2 : decode cX5_chosen 2 = .ok (.iconst 0, 1) := by decide +kernel
theorem dX5_chosen_3 : decode cX5_chosen 3 = .ok (.iconst 4, 1) := by decide +kernel
theorem dX5_chosen_4 : decode cX5_chosen 4 = .ok (.invokestatic 76, 3) := by decide +kernel
theorem dX5_chosen_7 : decode cX5_chosen 7 = .ok (.ifCond .eq 7, 3) := by decide +kernel
theorem dX5_chosen_10 : decode cX5_chosen 10 = .ok (.iconst 0, 1) := by decide +kernel
theorem dX5_chosen_11 : decode cX5_chosen 11 = .ok (.goto 4, 3) := by decide +kernel
theorem dX5_chosen_14 : decode cX5_chosen 14 = .ok (.iconst 1, 1) := by decide +kernel
theorem dX5_chosen_15 : decode cX5_chosen 15 = .ok (.putfield 73, 3) := by decide +kernel
theorem dX5_chosen_18 : decode cX5_chosen 18 = .ok (.aload_n 0, 1) := by decide +kernel
theorem dX5_chosen_19 : decode cX5_chosen 19 = .ok (.getfield 73, 3) := by decide +kernel
theorem dX5_chosen_22 : decode cX5_chosen 22 = .ok (.ifCond .le 7, 3) := by decide +kernel
theorem dX5_chosen_25 : decode cX5_chosen 25 = .ok (.iconst 0, 1) := by decide +kernel
theorem dX5_chosen_26 : decode cX5_chosen 26 = .ok (.goto 9, 3) := by decide +kernel
theorem dX5_chosen_29 : decode cX5_chosen 29 = .ok (.aload_n 0, 1) := by decide +kernel
theorem dX5_chosen_30 : decode cX5_chosen 30 = .ok (.getfield 44, 3) := by decide +kernel
theorem dX5_chosen_33 : decode cX5_chosen 33 = .ok (.iload_n 1, 1) := by decide +kernel
theorem dX5_chosen_34 : decode cX5_chosen 34 = .ok (.iaload, 1) := by decide +kernel
theorem dX5_chosen_35 : decode cX5_chosen 35 = .ok (.ireturn, 1) := by decide +kernel
theorem dX5_feed_0 : decode cX5_feed 0 = .ok (.aload_n 0, 1) := by decide +kernel
theorem dX5_feed_1 : decode cX5_feed 1 = .ok (.iload_n 1, 1) := by decide +kernel
theorem dX5_feed_2 : decode cX5_feed 2 = .ok (.iconst 0, 1) := by decide +kernel
theorem dX5_feed_3 : decode cX5_feed 3 = .ok (.sipush 255, 3) := by decide +kernel
theorem dX5_feed_6 : decode cX5_feed 6 = .ok (.invokestatic 76, 3) := by decide +kernel
theorem dX5_feed_9 : decode cX5_feed 9 = .ok (.ifCond .ne 7, 3) := by decide +kernel
theorem dX5_feed_12 : decode cX5_feed 12 = .ok (.iconst 1, 1) := by decide +kernel
theorem dX5_feed_13 : decode cX5_feed 13 = .ok (.goto 18, 3) := by decide +kernel
theorem dX5_feed_16 : decode cX5_feed 16 = .ok (.aload_n 0, 1) := by decide +kernel
theorem dX5_feed_17 : decode cX5_feed 17 = .ok (.getfield 133, 3) := by decide +kernel
theorem dX5_feed_20 : decode cX5_feed 20 = .ok (.sipush 4000, 3) := by decide +kernel
theorem dX5_feed_23 : decode cX5_feed 23 = .ok (.if_icmp .ne 7, 3) := by decide +kernel
theorem dX5_feed_26 : decode cX5_feed 26 = .ok (.iconst 2, 1) := by decide +kernel
theorem dX5_feed_27 : decode cX5_feed 27 = .ok (.goto 4, 3) := by decide +kernel
theorem dX5_feed_30 : decode cX5_feed 30 = .ok (.iconst 0, 1) := by decide +kernel
theorem dX5_feed_31 : decode cX5_feed 31 = .ok (.putfield 73, 3) := by decide +kernel
theorem dX5_feed_34 : decode cX5_feed 34 = .ok (.aload_n 0, 1) := by decide +kernel
theorem dX5_feed_35 : decode cX5_feed 35 = .ok (.getfield 73, 3) := by decide +kernel
theorem dX5_feed_38 : decode cX5_feed 38 = .ok (.ifCond .le 5, 3) := by decide +kernel
theorem dX5_feed_41 : decode cX5_feed 41 = .ok (.iconst 0, 1) := by decide +kernel
theorem dX5_feed_42 : decode cX5_feed 42 = .ok (.ireturn, 1) := by decide +kernel
theorem dX5_feed_43 : decode cX5_feed 43 = .ok (.aload_n 0, 1) := by decide +kernel
theorem dX5_feed_44 : decode cX5_feed 44 = .ok (.getfield 47, 3) := by decide +kernel
theorem dX5_feed_47 : decode cX5_feed 47 = .ok (.aload_n 0, 1) := by decide +kernel
theorem dX5_feed_48 : decode cX5_feed 48 = .ok (.getfield 133, 3) := by decide +kernel
theorem dX5_feed_51 : decode cX5_feed 51 = .ok (.iload_n 1, 1) := by decide +kernel
theorem dX5_feed_52 : decode cX5_feed 52 = .ok (.iastore, 1) := by decide +kernel
theorem dX5_feed_53 : decode cX5_feed 53 = .ok (.aload_n 0, 1) := by decide +kernel
theorem dX5_feed_54 : decode cX5_feed 54 = .ok (.dup, 1) := by decide +kernel
theorem dX5_feed_55 : decode cX5_feed 55 = .ok (.getfield 133, 3) := by decide +kernel
theorem dX5_feed_58 : decode cX5_feed 58 = .ok (.iconst 1, 1) := by decide +kernel
theorem dX5_feed_59 : decode cX5_feed 59 = .ok (.iadd, 1) := by decide +kernel
theorem dX5_feed_60 : decode cX5_feed 60 = .ok (.putfield 133, 3) := by decide +kernel
theorem dX5_feed_63 : decode cX5_feed 63 = .ok (.aload_n 0, 1) := by decide +kernel
theorem dX5_feed_64 : decode cX5_feed 64 = .ok (.getfield 133, 3) := by decide +kernel
theorem dX5_feed_67 : decode cX5_feed 67 = .ok (.ireturn, 1) := by decide +kernel
theorem dX5_passOn_0 : decode cX5_passOn 0 = .ok (.aload_n 0, 1) := by decide +kernel
theorem dX5_passOn_1 : decode cX5_passOn 1 = .ok (.aload_n 0, 1) := by decide +kernel
theorem dX5_passOn_2 : decode cX5_passOn 2 = .ok (.getfield 133, 3) := by decide +kernel
theorem dX5_passOn_5 : decode cX5_passOn 5 = .ok (.aload_n 0, 1) := by decide +kernel
theorem dX5_passOn_6 : decode cX5_passOn 6 = .ok (.getfield 126, 3) := by decide +kernel
theorem dX5_passOn_9 : decode cX5_passOn 9 = .ok (.iadd, 1) := by decide +kernel
theorem dX5_passOn_10 : decode cX5_passOn 10 = .ok (.sipush 4000, 3) := by decide +kernel
theorem dX5_passOn_13 : decode cX5_passOn 13 = .ok (.if_icmp .le 7, 3) := by decide +kernel
theorem dX5_passOn_16 : decode cX5_passOn 16 = .ok (.iconst 1, 1) := by decide +kernel
theorem dX5_passOn_17 : decode cX5_passOn 17 = .ok (.goto 4, 3) := by decide +kernel
theorem dX5_passOn_20 : decode cX5_passOn 20 = .ok (.iconst 0, 1) := by decide +kernel
theorem dX5_passOn_21 : decode cX5_passOn 21 = .ok (.putfield 73, 3) := by decide +kernel
theorem dX5_passOn_24 : decode cX5_passOn 24 = .ok (.aload_n 0, 1) := by decide +kernel
theorem dX5_passOn_25 : decode cX5_passOn 25 = .ok (.getfield 73, 3) := by decide +kernel
theorem dX5_passOn_28 : decode cX5_passOn 28 = .ok (.ifCond .le 5, 3) := by decide +kernel
theorem dX5_passOn_31 : decode cX5_passOn 31 = .ok (.iconst 0, 1) := by decide +kernel
theorem dX5_passOn_32 : decode cX5_passOn 32 = .ok (.ireturn, 1) := by decide +kernel
theorem dX5_passOn_33 : decode cX5_passOn 33 = .ok (.iconst 0, 1) := by decide +kernel
theorem dX5_passOn_34 : decode cX5_passOn 34 = .ok (.istore_n 1, 1) := by decide +kernel
theorem dX5_passOn_35 : decode cX5_passOn 35 = .ok (.iload_n 1, 1) := by decide +kernel
theorem dX5_passOn_36 : decode cX5_passOn 36 = .ok (.aload_n 0, 1) := by decide +kernel
theorem dX5_passOn_37 : decode cX5_passOn 37 = .ok (.getfield 126, 3) := by decide +kernel
theorem dX5_passOn_40 : decode cX5_passOn 40 = .ok (.if_icmp .ge 34, 3) := by decide +kernel
theorem dX5_passOn_43 : decode cX5_passOn 43 = .ok (.aload_n 0, 1) := by decide +kernel
theorem dX5_passOn_44 : decode cX5_passOn 44 = .ok (.getfield 47, 3) := by decide +kernel
theorem dX5_passOn_47 : decode cX5_passOn 47 = .ok (.aload_n 0, 1) := by decide +kernel
theorem dX5_passOn_48 : decode cX5_passOn 48 = .ok (.getfield 133, 3) := by decide +kernel
theorem dX5_passOn_51 : decode cX5_passOn 51 = .ok (.aload_n 0, 1) := by decide +kernel
theorem dX5_passOn_52 : decode cX5_passOn 52 = .ok (.getfield 41, 3) := by decide +kernel
theorem dX5_passOn_55 : decode cX5_passOn 55 = .ok (.iload_n 1, 1) := by decide +kernel
theorem dX5_passOn_56 : decode cX5_passOn 56 = .ok (.iaload, 1) := by decide +kernel
theorem dX5_passOn_57 : decode cX5_passOn 57 = .ok (.iastore, 1) := by decide +kernel
theorem dX5_passOn_58 : decode cX5_passOn 58 = .ok (.aload_n 0, 1) := by decide +kernel
theorem dX5_passOn_59 : decode cX5_passOn 59 = .ok (.dup, 1) := by decide +kernel
theorem dX5_passOn_60 : decode cX5_passOn 60 = .ok (.getfield 133, 3) := by decide +kernel
theorem dX5_passOn_63 : decode cX5_passOn 63 = .ok (.iconst 1, 1) := by decide +kernel
theorem dX5_passOn_64 : decode cX5_passOn 64 = .ok (.iadd, 1) := by decide +kernel
theorem dX5_passOn_65 : decode cX5_passOn 65 = .ok (.putfield 133, 3) := by decide +kernel
theorem dX5_passOn_68 : decode cX5_passOn 68 = .ok (.iinc 1 1, 3) := by decide +kernel
theorem dX5_passOn_71 : decode cX5_passOn 71 = .ok (.goto (-36), 3) := by decide +kernel
theorem dX5_passOn_74 : decode cX5_passOn 74 = .ok (.aload_n 0, 1) := by decide +kernel
theorem dX5_passOn_75 : decode cX5_passOn 75 = .ok (.getfield 133, 3) := by decide +kernel
theorem dX5_passOn_78 : decode cX5_passOn 78 = .ok (.ireturn, 1) := by decide +kernel
theorem dX5_unpack_0 : decode cX5_unpack 0 = .ok (.iconst 0, 1) := by decide +kernel
theorem dX5_unpack_1 : decode cX5_unpack 1 = .ok (.istore_n 3, 1) := by decide +kernel
theorem dX5_unpack_2 : decode cX5_unpack 2 = .ok (.iconst 0, 1) := by decide +kernel
theorem dX5_unpack_3 : decode cX5_unpack 3 = .ok (.istore 4, 2) := by decide +kernel
theorem dX5_unpack_5 : decode cX5_unpack 5 = .ok (.iload 4, 2) := by decide +kernel
theorem dX5_unpack_7 : decode cX5_unpack 7 = .ok (.aload_n 0, 1) := by decide +kernel
theorem dX5_unpack_8 : decode cX5_unpack 8 = .ok (.iload_n 1, 1) := by decide +kernel
theorem dX5_unpack_9 : decode cX5_unpack 9 = .ok (.invokevirtual 87, 3) := by decide +kernel
theorem dX5_unpack_12 : decode cX5_unpack 12 = .ok (.if_icmp .ge 129, 3) := by decide +kernel
theorem dX5_unpack_15 : decode cX5_unpack 15 = .ok (.aload_n 0, 1) := by decide +kernel
theorem dX5_unpack_16 : decode cX5_unpack 16 = .ok (.getfield 7, 3) := by decide +kernel
theorem dX5_unpack_19 : decode cX5_unpack 19 = .ok (.iload_n 1, 1) := by decide +kernel
theorem dX5_unpack_20 : decode cX5_unpack 20 = .ok (.iaload, 1) := by decide +kernel
theorem dX5_unpack_21 : decode cX5_unpack 21 = .ok (.iload 4, 2) := by decide +kernel
theorem dX5_unpack_23 : decode cX5_unpack 23 = .ok (.aload_n 0, 1) := by decide +kernel
theorem dX5_unpack_24 : decode cX5_unpack 24 = .ok (.getfield 13, 3) := by decide +kernel
theorem dX5_unpack_27 : decode cX5_unpack 27 = .ok (.iload_n 1, 1) := by decide +kernel
theorem dX5_unpack_28 : decode cX5_unpack 28 = .ok (.iaload, 1) := by decide +kernel
theorem dX5_unpack_29 : decode cX5_unpack 29 = .ok (.imul, 1) := by decide +kernel
theorem dX5_unpack_30 : decode cX5_unpack 30 = .ok (.iadd, 1) := by decide +kernel
theorem dX5_unpack_31 : decode cX5_unpack 31 = .ok (.istore 5, 2) := by decide +kernel
theorem dX5_unpack_33 : decode cX5_unpack 33 = .ok (.aload_n 0, 1) := by decide +kernel
theorem dX5_unpack_34 : decode cX5_unpack 34 = .ok (.getfield 16, 3) := by decide +kernel
theorem dX5_unpack_37 : decode cX5_unpack 37 = .ok (.iload_n 1, 1) := by decide +kernel
theorem dX5_unpack_38 : decode cX5_unpack 38 = .ok (.iaload, 1) := by decide +kernel
theorem dX5_unpack_39 : decode cX5_unpack 39 = .ok (.iload_n 2, 1) := by decide +kernel
theorem dX5_unpack_40 : decode cX5_unpack 40 = .ok (.aload_n 0, 1) := by decide +kernel
theorem dX5_unpack_41 : decode cX5_unpack 41 = .ok (.getfield 19, 3) := by decide +kernel
theorem dX5_unpack_44 : decode cX5_unpack 44 = .ok (.iload_n 1, 1) := by decide +kernel
theorem dX5_unpack_45 : decode cX5_unpack 45 = .ok (.iaload, 1) := by decide +kernel
theorem dX5_unpack_46 : decode cX5_unpack 46 = .ok (.imul, 1) := by decide +kernel
theorem dX5_unpack_47 : decode cX5_unpack 47 = .ok (.iadd, 1) := by decide +kernel
theorem dX5_unpack_48 : decode cX5_unpack 48 = .ok (.istore 6, 2) := by decide +kernel
theorem dX5_unpack_50 : decode cX5_unpack 50 = .ok (.iconst 0, 1) := by decide +kernel
theorem dX5_unpack_51 : decode cX5_unpack 51 = .ok (.istore 7, 2) := by decide +kernel
theorem dX5_unpack_53 : decode cX5_unpack 53 = .ok (.iload 7, 2) := by decide +kernel
theorem dX5_unpack_55 : decode cX5_unpack 55 = .ok (.aload_n 0, 1) := by decide +kernel
theorem dX5_unpack_56 : decode cX5_unpack 56 = .ok (.getfield 64, 3) := by decide +kernel
theorem dX5_unpack_59 : decode cX5_unpack 59 = .ok (.if_icmp .ge 76, 3) := by decide +kernel
theorem dX5_unpack_62 : decode cX5_unpack 62 = .ok (.iconst 0, 1) := by decide +kernel
theorem dX5_unpack_63 : decode cX5_unpack 63 = .ok (.istore 8, 2) := by decide +kernel
theorem dX5_unpack_65 : decode cX5_unpack 65 = .ok (.iconst 0, 1) := by decide +kernel
theorem dX5_unpack_66 : decode cX5_unpack 66 = .ok (.istore 9, 2) := by decide +kernel
theorem dX5_unpack_68 : decode cX5_unpack 68 = .ok (.iload 9, 2) := by decide +kernel
theorem dX5_unpack_70 : decode cX5_unpack 70 = .ok (.aload_n 0, 1) := by decide +kernel
theorem dX5_unpack_71 : decode cX5_unpack 71 = .ok (.getfield 67, 3) := by decide +kernel
theorem dX5_unpack_74 : decode cX5_unpack 74 = .ok (.if_icmp .ge 38, 3) := by decide +kernel
theorem dX5_unpack_77 : decode cX5_unpack 77 = .ok (.iconst 2, 1) := by decide +kernel
theorem dX5_unpack_78 : decode cX5_unpack 78 = .ok (.iload 8, 2) := by decide +kernel
theorem dX5_unpack_80 : decode cX5_unpack 80 = .ok (.imul, 1) := by decide +kernel
theorem dX5_unpack_81 : decode cX5_unpack 81 = .ok (.aload_n 0, 1) := by decide +kernel
theorem dX5_unpack_82 : decode cX5_unpack 82 = .ok (.getfield 28, 3) := by decide +kernel
theorem dX5_unpack_85 : decode cX5_unpack 85 = .ok (.iload_n 3, 1) := by decide +kernel
theorem dX5_unpack_86 : decode cX5_unpack 86 = .ok (.bipush 8, 2) := by decide +kernel
theorem dX5_unpack_88 : decode cX5_unpack 88 = .ok (.idiv, 1) := by decide +kernel
theorem dX5_unpack_89 : decode cX5_unpack 89 = .ok (.iaload, 1) := by decide +kernel
theorem dX5_unpack_90 : decode cX5_unpack 90 = .ok (.bipush 7, 2) := by decide +kernel
theorem dX5_unpack_92 : decode cX5_unpack 92 = .ok (.iload_n 3, 1) := by decide +kernel
theorem dX5_unpack_93 : decode cX5_unpack 93 = .ok (.bipush 8, 2) := by decide +kernel
theorem dX5_unpack_95 : decode cX5_unpack 95 = .ok (.irem, 1) := by decide +kernel
theorem dX5_unpack_96 : decode cX5_unpack 96 = .ok (.isub, 1) := by decide +kernel
theorem dX5_unpack_97 : decode cX5_unpack 97 = .ok (.ishr, 1) := by decide +kernel
theorem dX5_unpack_98 : decode cX5_unpack 98 = .ok (.iconst 1, 1) := by decide +kernel
theorem dX5_unpack_99 : decode cX5_unpack 99 = .ok (.iand, 1) := by decide +kernel
theorem dX5_unpack_100 : decode cX5_unpack 100 = .ok (.iadd, 1) := by decide +kernel
theorem dX5_unpack_101 : decode cX5_unpack 101 = .ok (.istore 8, 2) := by decide +kernel
theorem dX5_unpack_103 : decode cX5_unpack 103 = .ok (.iinc 3 1, 3) := by decide +kernel
theorem dX5_unpack_106 : decode cX5_unpack 106 = .ok (.iinc 9 1, 3) := by decide +kernel
theorem dX5_unpack_109 : decode cX5_unpack 109 = .ok (.goto (-41), 3) := by decide +kernel
theorem dX5_unpack_112 : decode cX5_unpack 112 = .ok (.aload_n 0, 1) := by decide +kernel
theorem dX5_unpack_113 : decode cX5_unpack 113 = .ok (.getfield 25, 3) := by decide +kernel
theorem dX5_unpack_116 : decode cX5_unpack 116 = .ok (.iload 5, 2) := by decide +kernel
theorem dX5_unpack_118 : decode cX5_unpack 118 = .ok (.iload 6, 2) := by decide +kernel
theorem dX5_unpack_120 : decode cX5_unpack 120 = .ok (.invokestatic 83, 3) := by decide +kernel
theorem dX5_unpack_123 : decode cX5_unpack 123 = .ok (.iload 7, 2) := by decide +kernel
theorem dX5_unpack_125 : decode cX5_unpack 125 = .ok (.iadd, 1) := by decide +kernel
theorem dX5_unpack_126 : decode cX5_unpack 126 = .ok (.iload 8, 2) := by decide +kernel
theorem dX5_unpack_128 : decode cX5_unpack 128 = .ok (.iastore, 1) := by decide +kernel
theorem dX5_unpack_129 : decode cX5_unpack 129 = .ok (.iinc 7 1, 3) := by decide +kernel
theorem dX5_unpack_132 : decode cX5_unpack 132 = .ok (.goto (-79), 3) := by decide +kernel
theorem dX5_unpack_135 : decode cX5_unpack 135 = .ok (.iinc 4 1, 3) := by decide +kernel
theorem dX5_unpack_138 : decode cX5_unpack 138 = .ok (.goto (-133), 3) := by decide +kernel
theorem dX5_unpack_141 : decode cX5_unpack 141 = .ok (.return_, 1) := by decide +kernel
theorem dX5_decode_0 : decode cX5_decode 0 = .ok (.aload_n 0, 1) := by decide +kernel
theorem dX5_decode_1 : decode cX5_decode 1 = .ok (.iconst 0, 1) := by decide +kernel
theorem dX5_decode_2 : decode cX5_decode 2 = .ok (.putfield 73, 3) := by decide +kernel
theorem dX5_decode_5 : decode cX5_decode 5 = .ok (.aload_n 0, 1) := by decide +kernel
theorem dX5_decode_6 : decode cX5_decode 6 = .ok (.getfield 133, 3) := by decide +kernel
theorem dX5_decode_9 : decode cX5_decode 9 = .ok (.istore_n 2, 1) := by decide +kernel
theorem dX5_decode_10 : decode cX5_decode 10 = .ok (.aload_n 0, 1) := by decide +kernel
theorem dX5_decode_11 : decode cX5_decode 11 = .ok (.iconst 0, 1) := by decide +kernel
theorem dX5_decode_12 : decode cX5_decode 12 = .ok (.putfield 133, 3) := by decide +kernel
theorem dX5_decode_15 : decode cX5_decode 15 = .ok (.iconst 0, 1) := by decide +kernel
theorem dX5_decode_16 : decode cX5_decode 16 = .ok (.istore_n 3, 1) := by decide +kernel
theorem dX5_decode_17 : decode cX5_decode 17 = .ok (.iconst 0, 1) := by decide +kernel
theorem dX5_decode_18 : decode cX5_decode 18 = .ok (.istore 4, 2) := by decide +kernel
theorem dX5_decode_20 : decode cX5_decode 20 = .ok (.iload_n 1, 1) := by decide +kernel
theorem dX5_decode_21 : decode cX5_decode 21 = .ok (.ifCond .eq 7, 3) := by decide +kernel
theorem dX5_decode_24 : decode cX5_decode 24 = .ok (.iconst 1, 1) := by decide +kernel
theorem dX5_decode_25 : decode cX5_decode 25 = .ok (.goto 4, 3) := by decide +kernel
theorem dX5_decode_28 : decode cX5_decode 28 = .ok (.iconst 0, 1) := by decide +kernel
theorem dX5_decode_29 : decode cX5_decode 29 = .ok (.istore 5, 2) := by decide +kernel
theorem dX5_decode_31 : decode cX5_decode 31 = .ok (.iload 5, 2) := by decide +kernel
theorem dX5_decode_33 : decode cX5_decode 33 = .ok (.iload_n 1, 1) := by decide +kernel
theorem dX5_decode_34 : decode cX5_decode 34 = .ok (.ifCond .eq 8, 3) := by decide +kernel
theorem dX5_decode_37 : decode cX5_decode 37 = .ok (.bipush 7, 2) := by decide +kernel
theorem dX5_decode_39 : decode cX5_decode 39 = .ok (.goto 4, 3) := by decide +kernel
theorem dX5_decode_42 : decode cX5_decode 42 = .ok (.iconst 0, 1) := by decide +kernel
theorem dX5_decode_43 : decode cX5_decode 43 = .ok (.if_icmp .gt 211, 3) := by decide +kernel
theorem dX5_decode_46 : decode cX5_decode 46 = .ok (.aload_n 0, 1) := by decide +kernel
theorem dX5_decode_47 : decode cX5_decode 47 = .ok (.iload 5, 2) := by decide +kernel
theorem dX5_decode_49 : decode cX5_decode 49 = .ok (.invokevirtual 97, 3) := by decide +kernel
theorem dX5_decode_52 : decode cX5_decode 52 = .ok (.istore 6, 2) := by decide +kernel
theorem dX5_decode_54 : decode cX5_decode 54 = .ok (.iconst 0, 1) := by decide +kernel
theorem dX5_decode_55 : decode cX5_decode 55 = .ok (.istore 7, 2) := by decide +kernel
theorem dX5_decode_57 : decode cX5_decode 57 = .ok (.iload 7, 2) := by decide +kernel
theorem dX5_decode_59 : decode cX5_decode 59 = .ok (.sipush 140, 3) := by decide +kernel
theorem dX5_decode_62 : decode cX5_decode 62 = .ok (.if_icmp .ge 17, 3) := by decide +kernel
theorem dX5_decode_65 : decode cX5_decode 65 = .ok (.aload_n 0, 1) := by decide +kernel
theorem dX5_decode_66 : decode cX5_decode 66 = .ok (.getfield 28, 3) := by decide +kernel
theorem dX5_decode_69 : decode cX5_decode 69 = .ok (.iload 7, 2) := by decide +kernel
theorem dX5_decode_71 : decode cX5_decode 71 = .ok (.iconst 0, 1) := by decide +kernel
theorem dX5_decode_72 : decode cX5_decode 72 = .ok (.iastore, 1) := by decide +kernel
theorem dX5_decode_73 : decode cX5_decode 73 = .ok (.iinc 7 1, 3) := by decide +kernel
theorem dX5_decode_76 : decode cX5_decode 76 = .ok (.goto (-19), 3) := by decide +kernel
theorem dX5_decode_79 : decode cX5_decode 79 = .ok (.iconst 0, 1) := by decide +kernel
theorem dX5_decode_80 : decode cX5_decode 80 = .ok (.istore 7, 2) := by decide +kernel
theorem dX5_decode_82 : decode cX5_decode 82 = .ok (.iload 7, 2) := by decide +kernel
theorem dX5_decode_84 : decode cX5_decode 84 = .ok (.aload_n 0, 1) := by decide +kernel
theorem dX5_decode_85 : decode cX5_decode 85 = .ok (.iload 5, 2) := by decide +kernel
theorem dX5_decode_87 : decode cX5_decode 87 = .ok (.invokevirtual 94, 3) := by decide +kernel
theorem dX5_decode_90 : decode cX5_decode 90 = .ok (.if_icmp .ge 158, 3) := by decide +kernel
theorem dX5_decode_93 : decode cX5_decode 93 = .ok (.iload_n 3, 1) := by decide +kernel
theorem dX5_decode_94 : decode cX5_decode 94 = .ok (.iload_n 2, 1) := by decide +kernel
theorem dX5_decode_95 : decode cX5_decode 95 = .ok (.if_icmp .eq 13, 3) := by decide +kernel
theorem dX5_decode_98 : decode cX5_decode 98 = .ok (.aload_n 0, 1) := by decide +kernel
theorem dX5_decode_99 : decode cX5_decode 99 = .ok (.getfield 47, 3) := by decide +kernel
theorem dX5_decode_102 : decode cX5_decode 102 = .ok (.iload_n 3, 1) := by decide +kernel
theorem dX5_decode_103 : decode cX5_decode 103 = .ok (.iaload, 1) := by decide +kernel
theorem dX5_decode_104 : decode cX5_decode 104 = .ok (.iconst 4, 1) := by decide +kernel
theorem dX5_decode_105 : decode cX5_decode 105 = .ok (.if_icmp .le 7, 3) := by decide +kernel
theorem dX5_decode_108 : decode cX5_decode 108 = .ok (.iconst (-1), 1) := by decide +kernel
theorem dX5_decode_109 : decode cX5_decode 109 = .ok (.iload_n 3, 1) := by decide +kernel
theorem dX5_decode_110 : decode cX5_decode 110 = .ok (.isub, 1) := by decide +kernel
theorem dX5_decode_111 : decode cX5_decode 111 = .ok (.ireturn, 1) := by decide +kernel
theorem dX5_decode_112 : decode cX5_decode 112 = .ok (.aload_n 0, 1) := by decide +kernel
theorem dX5_decode_113 : decode cX5_decode 113 = .ok (.getfield 47, 3) := by decide +kernel
theorem dX5_decode_116 : decode cX5_decode 116 = .ok (.iload_n 3, 1) := by decide +kernel
theorem dX5_decode_117 : decode cX5_decode 117 = .ok (.iaload, 1) := by decide +kernel
theorem dX5_decode_118 : decode cX5_decode 118 = .ok (.istore 8, 2) := by decide +kernel
theorem dX5_decode_120 : decode cX5_decode 120 = .ok (.iinc 3 1, 3) := by decide +kernel
theorem dX5_decode_123 : decode cX5_decode 123 = .ok (.iconst 0, 1) := by decide +kernel
theorem dX5_decode_124 : decode cX5_decode 124 = .ok (.istore 9, 2) := by decide +kernel
theorem dX5_decode_126 : decode cX5_decode 126 = .ok (.iload 9, 2) := by decide +kernel
theorem dX5_decode_128 : decode cX5_decode 128 = .ok (.iload 6, 2) := by decide +kernel
theorem dX5_decode_130 : decode cX5_decode 130 = .ok (.if_icmp .ge 23, 3) := by decide +kernel
theorem dX5_decode_133 : decode cX5_decode 133 = .ok (.aload_n 0, 1) := by decide +kernel
theorem dX5_decode_134 : decode cX5_decode 134 = .ok (.getfield 31, 3) := by decide +kernel
theorem dX5_decode_137 : decode cX5_decode 137 = .ok (.iload 9, 2) := by decide +kernel
theorem dX5_decode_139 : decode cX5_decode 139 = .ok (.aload_n 0, 1) := by decide +kernel
theorem dX5_decode_140 : decode cX5_decode 140 = .ok (.getfield 28, 3) := by decide +kernel
theorem dX5_decode_143 : decode cX5_decode 143 = .ok (.iload 9, 2) := by decide +kernel
theorem dX5_decode_145 : decode cX5_decode 145 = .ok (.iaload, 1) := by decide +kernel
theorem dX5_decode_146 : decode cX5_decode 146 = .ok (.iastore, 1) := by decide +kernel
theorem dX5_decode_147 : decode cX5_decode 147 = .ok (.iinc 9 1, 3) := by decide +kernel
theorem dX5_decode_150 : decode cX5_decode 150 = .ok (.goto (-24), 3) := by decide +kernel
theorem dX5_decode_153 : decode cX5_decode 153 = .ok (.iconst 0, 1) := by decide +kernel
theorem dX5_decode_154 : decode cX5_decode 154 = .ok (.istore 9, 2) := by decide +kernel
theorem dX5_decode_156 : decode cX5_decode 156 = .ok (.iload 9, 2) := by decide +kernel
theorem dX5_decode_158 : decode cX5_decode 158 = .ok (.iload 6, 2) := by decide +kernel
theorem dX5_decode_160 : decode cX5_decode 160 = .ok (.if_icmp .ge 71, 3) := by decide +kernel
theorem dX5_decode_163 : decode cX5_decode 163 = .ok (.iload_n 3, 1) := by decide +kernel
theorem dX5_decode_164 : decode cX5_decode 164 = .ok (.iload_n 2, 1) := by decide +kernel
theorem dX5_decode_165 : decode cX5_decode 165 = .ok (.if_icmp .ne 7, 3) := by decide +kernel
theorem dX5_decode_168 : decode cX5_decode 168 = .ok (.iconst (-1), 1) := by decide +kernel
theorem dX5_decode_169 : decode cX5_decode 169 = .ok (.iload_n 3, 1) := by decide +kernel
theorem dX5_decode_170 : decode cX5_decode 170 = .ok (.isub, 1) := by decide +kernel
theorem dX5_decode_171 : decode cX5_decode 171 = .ok (.ireturn, 1) := by decide +kernel
theorem dX5_decode_172 : decode cX5_decode 172 = .ok (.aload_n 0, 1) := by decide +kernel
theorem dX5_decode_173 : decode cX5_decode 173 = .ok (.getfield 28, 3) := by decide +kernel
theorem dX5_decode_176 : decode cX5_decode 176 = .ok (.iload 9, 2) := by decide +kernel
theorem dX5_decode_178 : decode cX5_decode 178 = .ok (.aload_n 0, 1) := by decide +kernel
theorem dX5_decode_179 : decode cX5_decode 179 = .ok (.getfield 47, 3) := by decide +kernel
theorem dX5_decode_182 : decode cX5_decode 182 = .ok (.iload_n 3, 1) := by decide +kernel
theorem dX5_decode_183 : decode cX5_decode 183 = .ok (.iaload, 1) := by decide +kernel
theorem dX5_decode_184 : decode cX5_decode 184 = .ok (.iload 8, 2) := by decide +kernel
theorem dX5_decode_186 : decode cX5_decode 186 = .ok (.aload_n 0, 1) := by decide +kernel
theorem dX5_decode_187 : decode cX5_decode 187 = .ok (.aload_n 0, 1) := by decide +kernel
theorem dX5_decode_188 : decode cX5_decode 188 = .ok (.getfield 28, 3) := by decide +kernel
theorem dX5_decode_191 : decode cX5_decode 191 = .ok (.iload 9, 2) := by decide +kernel
theorem dX5_decode_193 : decode cX5_decode 193 = .ok (.invokevirtual 103, 3) := by decide +kernel
theorem dX5_decode_196 : decode cX5_decode 196 = .ok (.aload_n 0, 1) := by decide +kernel
theorem dX5_decode_197 : decode cX5_decode 197 = .ok (.getfield 31, 3) := by decide +kernel
theorem dX5_decode_200 : decode cX5_decode 200 = .ok (.iload 9, 2) := by decide +kernel
theorem dX5_decode_202 : decode cX5_decode 202 = .ok (.iaload, 1) := by decide +kernel
theorem dX5_decode_203 : decode cX5_decode 203 = .ok (.aload_n 0, 1) := by decide +kernel
theorem dX5_decode_204 : decode cX5_decode 204 = .ok (.aload_n 0, 1) := by decide +kernel
theorem dX5_decode_205 : decode cX5_decode 205 = .ok (.getfield 31, 3) := by decide +kernel
theorem dX5_decode_208 : decode cX5_decode 208 = .ok (.iload 9, 2) := by decide +kernel
theorem dX5_decode_210 : decode cX5_decode 210 = .ok (.invokevirtual 103, 3) := by decide +kernel
theorem dX5_decode_213 : decode cX5_decode 213 = .ok (.invokestatic 107, 3) := by decide +kernel
theorem dX5_decode_216 : decode cX5_decode 216 = .ok (.iadd, 1) := by decide +kernel
theorem dX5_decode_217 : decode cX5_decode 217 = .ok (.sipush 255, 3) := by decide +kernel
theorem dX5_decode_220 : decode cX5_decode 220 = .ok (.iand, 1) := by decide +kernel
theorem dX5_decode_221 : decode cX5_decode 221 = .ok (.iastore, 1) := by decide +kernel
theorem dX5_decode_222 : decode cX5_decode 222 = .ok (.iinc 3 1, 3) := by decide +kernel
theorem dX5_decode_225 : decode cX5_decode 225 = .ok (.iinc 9 1, 3) := by decide +kernel
theorem dX5_decode_228 : decode cX5_decode 228 = .ok (.goto (-72), 3) := by decide +kernel
theorem dX5_decode_231 : decode cX5_decode 231 = .ok (.aload_n 0, 1) := by decide +kernel
theorem dX5_decode_232 : decode cX5_decode 232 = .ok (.iload 5, 2) := by decide +kernel
theorem dX5_decode_234 : decode cX5_decode 234 = .ok (.iload 7, 2) := by decide +kernel
theorem dX5_decode_236 : decode cX5_decode 236 = .ok (.invokevirtual 136, 3) := by decide +kernel
theorem dX5_decode_239 : decode cX5_decode 239 = .ok (.iinc 4 1, 3) := by decide +kernel
theorem dX5_decode_242 : decode cX5_decode 242 = .ok (.iinc 7 1, 3) := by decide +kernel
theorem dX5_decode_245 : decode cX5_decode 245 = .ok (.goto (-163), 3) := by decide +kernel
theorem dX5_decode_248 : decode cX5_decode 248 = .ok (.iinc 5 1, 3) := by decide +kernel
theorem dX5_decode_251 : decode cX5_decode 251 = .ok (.goto (-220), 3) := by decide +kernel
theorem dX5_decode_254 : decode cX5_decode 254 = .ok (.iload_n 3, 1) := by decide +kernel
theorem dX5_decode_255 : decode cX5_decode 255 = .ok (.iload_n 2, 1) := by decide +kernel
theorem dX5_decode_256 : decode cX5_decode 256 = .ok (.if_icmp .ge 7, 3) := by decide +kernel
theorem dX5_decode_259 : decode cX5_decode 259 = .ok (.iconst (-1), 1) := by decide +kernel
theorem dX5_decode_260 : decode cX5_decode 260 = .ok (.iload_n 3, 1) := by decide +kernel
theorem dX5_decode_261 : decode cX5_decode 261 = .ok (.isub, 1) := by decide +kernel
theorem dX5_decode_262 : decode cX5_decode 262 = .ok (.ireturn, 1) := by decide +kernel
theorem dX5_decode_263 : decode cX5_decode 263 = .ok (.iconst 0, 1) := by decide +kernel
theorem dX5_decode_264 : decode cX5_decode 264 = .ok (.istore 5, 2) := by decide +kernel
theorem dX5_decode_266 : decode cX5_decode 266 = .ok (.iload 5, 2) := by decide +kernel
theorem dX5_decode_268 : decode cX5_decode 268 = .ok (.aload_n 0, 1) := by decide +kernel
theorem dX5_decode_269 : decode cX5_decode 269 = .ok (.getfield 61, 3) := by decide +kernel
theorem dX5_decode_272 : decode cX5_decode 272 = .ok (.if_icmp .ge 75, 3) := by decide +kernel
theorem dX5_decode_275 : decode cX5_decode 275 = .ok (.iconst 0, 1) := by decide +kernel
theorem dX5_decode_276 : decode cX5_decode 276 = .ok (.istore 6, 2) := by decide +kernel
theorem dX5_decode_278 : decode cX5_decode 278 = .ok (.iload 6, 2) := by decide +kernel
theorem dX5_decode_280 : decode cX5_decode 280 = .ok (.aload_n 0, 1) := by decide +kernel
theorem dX5_decode_281 : decode cX5_decode 281 = .ok (.getfield 57, 3) := by decide +kernel
theorem dX5_decode_284 : decode cX5_decode 284 = .ok (.if_icmp .ge 57, 3) := by decide +kernel
theorem dX5_decode_287 : decode cX5_decode 287 = .ok (.iconst 0, 1) := by decide +kernel
theorem dX5_decode_288 : decode cX5_decode 288 = .ok (.istore 7, 2) := by decide +kernel
theorem dX5_decode_290 : decode cX5_decode 290 = .ok (.iload 7, 2) := by decide +kernel
theorem dX5_decode_292 : decode cX5_decode 292 = .ok (.aload_n 0, 1) := by decide +kernel
theorem dX5_decode_293 : decode cX5_decode 293 = .ok (.getfield 64, 3) := by decide +kernel
theorem dX5_decode_296 : decode cX5_decode 296 = .ok (.if_icmp .ge 39, 3) := by decide +kernel
theorem dX5_decode_299 : decode cX5_decode 299 = .ok (.aload_n 0, 1) := by decide +kernel
theorem dX5_decode_300 : decode cX5_decode 300 = .ok (.getfield 22, 3) := by decide +kernel
theorem dX5_decode_303 : decode cX5_decode 303 = .ok (.iload 6, 2) := by decide +kernel
theorem dX5_decode_305 : decode cX5_decode 305 = .ok (.iload 5, 2) := by decide +kernel
theorem dX5_decode_307 : decode cX5_decode 307 = .ok (.invokestatic 83, 3) := by decide +kernel
theorem dX5_decode_310 : decode cX5_decode 310 = .ok (.iload 7, 2) := by decide +kernel
theorem dX5_decode_312 : decode cX5_decode 312 = .ok (.iadd, 1) := by decide +kernel
theorem dX5_decode_313 : decode cX5_decode 313 = .ok (.aload_n 0, 1) := by decide +kernel
theorem dX5_decode_314 : decode cX5_decode 314 = .ok (.getfield 25, 3) := by decide +kernel
theorem dX5_decode_317 : decode cX5_decode 317 = .ok (.iload 6, 2) := by decide +kernel
theorem dX5_decode_319 : decode cX5_decode 319 = .ok (.iload 5, 2) := by decide +kernel
theorem dX5_decode_321 : decode cX5_decode 321 = .ok (.invokestatic 83, 3) := by decide +kernel
theorem dX5_decode_324 : decode cX5_decode 324 = .ok (.iload 7, 2) := by decide +kernel
theorem dX5_decode_326 : decode cX5_decode 326 = .ok (.iadd, 1) := by decide +kernel
theorem dX5_decode_327 : decode cX5_decode 327 = .ok (.iaload, 1) := by decide +kernel
theorem dX5_decode_328 : decode cX5_decode 328 = .ok (.iastore, 1) := by decide +kernel
theorem dX5_decode_329 : decode cX5_decode 329 = .ok (.iinc 7 1, 3) := by decide +kernel
theorem dX5_decode_332 : decode cX5_decode 332 = .ok (.goto (-42), 3) := by decide +kernel
theorem dX5_decode_335 : decode cX5_decode 335 = .ok (.iinc 6 1, 3) := by decide +kernel
theorem dX5_decode_338 : decode cX5_decode 338 = .ok (.goto (-60), 3) := by decide +kernel
theorem dX5_decode_341 : decode cX5_decode 341 = .ok (.iinc 5 1, 3) := by decide +kernel
theorem dX5_decode_344 : decode cX5_decode 344 = .ok (.goto (-78), 3) := by decide +kernel
theorem dX5_decode_347 : decode cX5_decode 347 = .ok (.iload 4, 2) := by decide +kernel
theorem dX5_decode_349 : decode cX5_decode 349 = .ok (.ireturn, 1) := by decide +kernel
theorem dX5_clean_0 : decode cX5_clean 0 = .ok (.aload_n 0, 1) := by decide +kernel
theorem dX5_clean_1 : decode cX5_clean 1 = .ok (.aload_n 0, 1) := by decide +kernel
theorem dX5_clean_2 : decode cX5_clean 2 = .ok (.getfield 64, 3) := by decide +kernel
theorem dX5_clean_5 : decode cX5_clean 5 = .ok (.iconst 2, 1) := by decide +kernel
theorem dX5_clean_6 : decode cX5_clean 6 = .ok (.irem, 1) := by decide +kernel
theorem dX5_clean_7 : decode cX5_clean 7 = .ok (.ifCond .ne 7, 3) := by decide +kernel
theorem dX5_clean_10 : decode cX5_clean 10 = .ok (.iconst 0, 1) := by decide +kernel
theorem dX5_clean_11 : decode cX5_clean 11 = .ok (.goto 4, 3) := by decide +kernel
theorem dX5_clean_14 : decode cX5_clean 14 = .ok (.iconst 1, 1) := by decide +kernel
theorem dX5_clean_15 : decode cX5_clean 15 = .ok (.putfield 73, 3) := by decide +kernel
theorem dX5_clean_18 : decode cX5_clean 18 = .ok (.iconst 0, 1) := by decide +kernel
theorem dX5_clean_19 : decode cX5_clean 19 = .ok (.istore_n 1, 1) := by decide +kernel
theorem dX5_clean_20 : decode cX5_clean 20 = .ok (.iconst 0, 1) := by decide +kernel
theorem dX5_clean_21 : decode cX5_clean 21 = .ok (.istore_n 2, 1) := by decide +kernel
theorem dX5_clean_22 : decode cX5_clean 22 = .ok (.iload_n 2, 1) := by decide +kernel
theorem dX5_clean_23 : decode cX5_clean 23 = .ok (.aload_n 0, 1) := by decide +kernel
theorem dX5_clean_24 : decode cX5_clean 24 = .ok (.getfield 61, 3) := by decide +kernel
theorem dX5_clean_27 : decode cX5_clean 27 = .ok (.if_icmp .ge 108, 3) := by decide +kernel
theorem dX5_clean_30 : decode cX5_clean 30 = .ok (.aload_n 0, 1) := by decide +kernel
theorem dX5_clean_31 : decode cX5_clean 31 = .ok (.getfield 73, 3) := by decide +kernel
theorem dX5_clean_34 : decode cX5_clean 34 = .ok (.ifCond .ne 101, 3) := by decide +kernel
theorem dX5_clean_37 : decode cX5_clean 37 = .ok (.iconst 0, 1) := by decide +kernel
theorem dX5_clean_38 : decode cX5_clean 38 = .ok (.istore_n 3, 1) := by decide +kernel
theorem dX5_clean_39 : decode cX5_clean 39 = .ok (.iload_n 3, 1) := by decide +kernel
theorem dX5_clean_40 : decode cX5_clean 40 = .ok (.aload_n 0, 1) := by decide +kernel
theorem dX5_clean_41 : decode cX5_clean 41 = .ok (.getfield 57, 3) := by decide +kernel
theorem dX5_clean_44 : decode cX5_clean 44 = .ok (.if_icmp .ge 85, 3) := by decide +kernel
theorem dX5_clean_47 : decode cX5_clean 47 = .ok (.iload_n 3, 1) := by decide +kernel
theorem dX5_clean_48 : decode cX5_clean 48 = .ok (.iload_n 2, 1) := by decide +kernel
theorem dX5_clean_49 : decode cX5_clean 49 = .ok (.invokestatic 83, 3) := by decide +kernel
theorem dX5_clean_52 : decode cX5_clean 52 = .ok (.istore 4, 2) := by decide +kernel
theorem dX5_clean_54 : decode cX5_clean 54 = .ok (.iconst 0, 1) := by decide +kernel
theorem dX5_clean_55 : decode cX5_clean 55 = .ok (.istore 5, 2) := by decide +kernel
theorem dX5_clean_57 : decode cX5_clean 57 = .ok (.iload 5, 2) := by decide +kernel
theorem dX5_clean_59 : decode cX5_clean 59 = .ok (.aload_n 0, 1) := by decide +kernel
theorem dX5_clean_60 : decode cX5_clean 60 = .ok (.getfield 64, 3) := by decide +kernel
theorem dX5_clean_63 : decode cX5_clean 63 = .ok (.iconst 1, 1) := by decide +kernel
theorem dX5_clean_64 : decode cX5_clean 64 = .ok (.isub, 1) := by decide +kernel
theorem dX5_clean_65 : decode cX5_clean 65 = .ok (.if_icmp .ge 58, 3) := by decide +kernel
theorem dX5_clean_68 : decode cX5_clean 68 = .ok (.aload_n 0, 1) := by decide +kernel
theorem dX5_clean_69 : decode cX5_clean 69 = .ok (.getfield 22, 3) := by decide +kernel
theorem dX5_clean_72 : decode cX5_clean 72 = .ok (.iload 4, 2) := by decide +kernel
theorem dX5_clean_74 : decode cX5_clean 74 = .ok (.aload_n 0, 1) := by decide +kernel
theorem dX5_clean_75 : decode cX5_clean 75 = .ok (.getfield 64, 3) := by decide +kernel
theorem dX5_clean_78 : decode cX5_clean 78 = .ok (.iadd, 1) := by decide +kernel
theorem dX5_clean_79 : decode cX5_clean 79 = .ok (.iconst 1, 1) := by decide +kernel
theorem dX5_clean_80 : decode cX5_clean 80 = .ok (.isub, 1) := by decide +kernel
theorem dX5_clean_81 : decode cX5_clean 81 = .ok (.iaload, 1) := by decide +kernel
theorem dX5_clean_82 : decode cX5_clean 82 = .ok (.ifCond .ne 41, 3) := by decide +kernel
theorem dX5_clean_85 : decode cX5_clean 85 = .ok (.aload_n 0, 1) := by decide +kernel
theorem dX5_clean_86 : decode cX5_clean 86 = .ok (.getfield 22, 3) := by decide +kernel
theorem dX5_clean_89 : decode cX5_clean 89 = .ok (.iload 4, 2) := by decide +kernel
theorem dX5_clean_91 : decode cX5_clean 91 = .ok (.iload 5, 2) := by decide +kernel
theorem dX5_clean_93 : decode cX5_clean 93 = .ok (.iadd, 1) := by decide +kernel
theorem dX5_clean_94 : decode cX5_clean 94 = .ok (.iaload, 1) := by decide +kernel
theorem dX5_clean_95 : decode cX5_clean 95 = .ok (.ifCond .eq 9, 3) := by decide +kernel
theorem dX5_clean_98 : decode cX5_clean 98 = .ok (.iload_n 1, 1) := by decide +kernel
theorem dX5_clean_99 : decode cX5_clean 99 = .ok (.iconst 1, 1) := by decide +kernel
theorem dX5_clean_100 : decode cX5_clean 100 = .ok (.iadd, 1) := by decide +kernel
theorem dX5_clean_101 : decode cX5_clean 101 = .ok (.goto 4, 3) := by decide +kernel
theorem dX5_clean_104 : decode cX5_clean 104 = .ok (.iload_n 1, 1) := by decide +kernel
theorem dX5_clean_105 : decode cX5_clean 105 = .ok (.istore_n 1, 1) := by decide +kernel
theorem dX5_clean_106 : decode cX5_clean 106 = .ok (.aload_n 0, 1) := by decide +kernel
theorem dX5_clean_107 : decode cX5_clean 107 = .ok (.getfield 22, 3) := by decide +kernel
theorem dX5_clean_110 : decode cX5_clean 110 = .ok (.iload 4, 2) := by decide +kernel
theorem dX5_clean_112 : decode cX5_clean 112 = .ok (.iload 5, 2) := by decide +kernel
theorem dX5_clean_114 : decode cX5_clean 114 = .ok (.iadd, 1) := by decide +kernel
theorem dX5_clean_115 : decode cX5_clean 115 = .ok (.iconst 0, 1) := by decide +kernel
theorem dX5_clean_116 : decode cX5_clean 116 = .ok (.iastore, 1) := by decide +kernel
theorem dX5_clean_117 : decode cX5_clean 117 = .ok (.iinc 5 1, 3) := by decide +kernel
theorem dX5_clean_120 : decode cX5_clean 120 = .ok (.goto (-63), 3) := by decide +kernel
theorem dX5_clean_123 : decode cX5_clean 123 = .ok (.iinc 3 1, 3) := by decide +kernel
theorem dX5_clean_126 : decode cX5_clean 126 = .ok (.goto (-87), 3) := by decide +kernel
theorem dX5_clean_129 : decode cX5_clean 129 = .ok (.iinc 2 1, 3) := by decide +kernel
theorem dX5_clean_132 : decode cX5_clean 132 = .ok (.goto (-110), 3) := by decide +kernel
theorem dX5_clean_135 : decode cX5_clean 135 = .ok (.iload_n 1, 1) := by decide +kernel
theorem dX5_clean_136 : decode cX5_clean 136 = .ok (.ireturn, 1) := by decide +kernel
theorem dX5_colour_0 : decode cX5_colour 0 = .ok (.aload_n 0, 1) := by decide +kernel
theorem dX5_colour_1 : decode cX5_colour 1 = .ok (.iload_n 1, 1) := by decide +kernel
theorem dX5_colour_2 : decode cX5_colour 2 = .ok (.iconst 0, 1) := by decide +kernel
theorem dX5_colour_3 : decode cX5_colour 3 = .ok (.ldc 139, 2) := by decide +kernel
theorem dX5_colour_5 : decode cX5_colour 5 = .ok (.invokestatic 76, 3) := by decide +kernel
theorem dX5_colour_8 : decode cX5_colour 8 = .ok (.ifCond .ne 7, 3) := by decide +kernel
theorem dX5_colour_11 : decode cX5_colour 11 = .ok (.iconst 1, 1) := by decide +kernel
theorem dX5_colour_12 : decode cX5_colour 12 = .ok (.goto 17, 3) := by decide +kernel
theorem dX5_colour_15 : decode cX5_colour 15 = .ok (.aload_n 0, 1) := by decide +kernel
theorem dX5_colour_16 : decode cX5_colour 16 = .ok (.getfield 140, 3) := by decide +kernel
theorem dX5_colour_19 : decode cX5_colour 19 = .ok (.bipush 64, 2) := by decide +kernel
theorem dX5_colour_21 : decode cX5_colour 21 = .ok (.if_icmp .ne 7, 3) := by decide +kernel
theorem dX5_colour_24 : decode cX5_colour 24 = .ok (.iconst 2, 1) := by decide +kernel
theorem dX5_colour_25 : decode cX5_colour 25 = .ok (.goto 4, 3) := by decide +kernel
theorem dX5_colour_28 : decode cX5_colour 28 = .ok (.iconst 0, 1) := by decide +kernel
theorem dX5_colour_29 : decode cX5_colour 29 = .ok (.putfield 73, 3) := by decide +kernel
theorem dX5_colour_32 : decode cX5_colour 32 = .ok (.aload_n 0, 1) := by decide +kernel
theorem dX5_colour_33 : decode cX5_colour 33 = .ok (.getfield 73, 3) := by decide +kernel
theorem dX5_colour_36 : decode cX5_colour 36 = .ok (.ifCond .le 5, 3) := by decide +kernel
theorem dX5_colour_39 : decode cX5_colour 39 = .ok (.iconst 0, 1) := by decide +kernel
theorem dX5_colour_40 : decode cX5_colour 40 = .ok (.ireturn, 1) := by decide +kernel
theorem dX5_colour_41 : decode cX5_colour 41 = .ok (.aload_n 0, 1) := by decide +kernel
theorem dX5_colour_42 : decode cX5_colour 42 = .ok (.getfield 50, 3) := by decide +kernel
theorem dX5_colour_45 : decode cX5_colour 45 = .ok (.aload_n 0, 1) := by decide +kernel
theorem dX5_colour_46 : decode cX5_colour 46 = .ok (.getfield 140, 3) := by decide +kernel
theorem dX5_colour_49 : decode cX5_colour 49 = .ok (.iload_n 1, 1) := by decide +kernel
theorem dX5_colour_50 : decode cX5_colour 50 = .ok (.iastore, 1) := by decide +kernel
theorem dX5_colour_51 : decode cX5_colour 51 = .ok (.aload_n 0, 1) := by decide +kernel
theorem dX5_colour_52 : decode cX5_colour 52 = .ok (.dup, 1) := by decide +kernel
theorem dX5_colour_53 : decode cX5_colour 53 = .ok (.getfield 140, 3) := by decide +kernel
theorem dX5_colour_56 : decode cX5_colour 56 = .ok (.iconst 1, 1) := by decide +kernel
theorem dX5_colour_57 : decode cX5_colour 57 = .ok (.iadd, 1) := by decide +kernel
theorem dX5_colour_58 : decode cX5_colour 58 = .ok (.putfield 140, 3) := by decide +kernel
theorem dX5_colour_61 : decode cX5_colour 61 = .ok (.aload_n 0, 1) := by decide +kernel
theorem dX5_colour_62 : decode cX5_colour 62 = .ok (.getfield 140, 3) := by decide +kernel
theorem dX5_colour_65 : decode cX5_colour 65 = .ok (.iconst 1, 1) := by decide +kernel
theorem dX5_colour_66 : decode cX5_colour 66 = .ok (.isub, 1) := by decide +kernel
theorem dX5_colour_67 : decode cX5_colour 67 = .ok (.ireturn, 1) := by decide +kernel
theorem dX5_part_0 : decode cX5_part 0 = .ok (.aload_n 0, 1) := by decide +kernel
theorem dX5_part_1 : decode cX5_part 1 = .ok (.getfield 50, 3) := by decide +kernel
theorem dX5_part_4 : decode cX5_part 4 = .ok (.iload_n 1, 1) := by decide +kernel
theorem dX5_part_5 : decode cX5_part 5 = .ok (.iaload, 1) := by decide +kernel
theorem dX5_part_6 : decode cX5_part 6 = .ok (.bipush 16, 2) := by decide +kernel
theorem dX5_part_8 : decode cX5_part 8 = .ok (.bipush 8, 2) := by decide +kernel
theorem dX5_part_10 : decode cX5_part 10 = .ok (.iload_n 2, 1) := by decide +kernel
theorem dX5_part_11 : decode cX5_part 11 = .ok (.imul, 1) := by decide +kernel
theorem dX5_part_12 : decode cX5_part 12 = .ok (.isub, 1) := by decide +kernel
theorem dX5_part_13 : decode cX5_part 13 = .ok (.ishr, 1) := by decide +kernel
theorem dX5_part_14 : decode cX5_part 14 = .ok (.sipush 255, 3) := by decide +kernel
theorem dX5_part_17 : decode cX5_part 17 = .ok (.iand, 1) := by decide +kernel
theorem dX5_part_18 : decode cX5_part 18 = .ok (.ireturn, 1) := by decide +kernel
theorem dX5_far_0 : decode cX5_far 0 = .ok (.iconst 0, 1) := by decide +kernel
theorem dX5_far_1 : decode cX5_far 1 = .ok (.istore_n 3, 1) := by decide +kernel
theorem dX5_far_2 : decode cX5_far 2 = .ok (.iconst 0, 1) := by decide +kernel
theorem dX5_far_3 : decode cX5_far 3 = .ok (.istore 4, 2) := by decide +kernel
theorem dX5_far_5 : decode cX5_far 5 = .ok (.iload 4, 2) := by decide +kernel
theorem dX5_far_7 : decode cX5_far 7 = .ok (.iconst 3, 1) := by decide +kernel
theorem dX5_far_8 : decode cX5_far 8 = .ok (.if_icmp .ge 59, 3) := by decide +kernel
theorem dX5_far_11 : decode cX5_far 11 = .ok (.iload_n 2, 1) := by decide +kernel
theorem dX5_far_12 : decode cX5_far 12 = .ok (.ifCond .ge 13, 3) := by decide +kernel
theorem dX5_far_15 : decode cX5_far 15 = .ok (.aload_n 0, 1) := by decide +kernel
theorem dX5_far_16 : decode cX5_far 16 = .ok (.iload_n 1, 1) := by decide +kernel
theorem dX5_far_17 : decode cX5_far 17 = .ok (.iload 4, 2) := by decide +kernel
theorem dX5_far_19 : decode cX5_far 19 = .ok (.invokevirtual 143, 3) := by decide +kernel
theorem dX5_far_22 : decode cX5_far 22 = .ok (.goto 18, 3) := by decide +kernel
theorem dX5_far_25 : decode cX5_far 25 = .ok (.aload_n 0, 1) := by decide +kernel
theorem dX5_far_26 : decode cX5_far 26 = .ok (.iload_n 1, 1) := by decide +kernel
theorem dX5_far_27 : decode cX5_far 27 = .ok (.iload 4, 2) := by decide +kernel
theorem dX5_far_29 : decode cX5_far 29 = .ok (.invokevirtual 143, 3) := by decide +kernel
theorem dX5_far_32 : decode cX5_far 32 = .ok (.aload_n 0, 1) := by decide +kernel
theorem dX5_far_33 : decode cX5_far 33 = .ok (.iload_n 2, 1) := by decide +kernel
theorem dX5_far_34 : decode cX5_far 34 = .ok (.iload 4, 2) := by decide +kernel
theorem dX5_far_36 : decode cX5_far 36 = .ok (.invokevirtual 143, 3) := by decide +kernel
theorem dX5_far_39 : decode cX5_far 39 = .ok (.isub, 1) := by decide +kernel
theorem dX5_far_40 : decode cX5_far 40 = .ok (.istore 5, 2) := by decide +kernel
theorem dX5_far_42 : decode cX5_far 42 = .ok (.iload_n 2, 1) := by decide +kernel
theorem dX5_far_43 : decode cX5_far 43 = .ok (.ifCond .ge 10, 3) := by decide +kernel
theorem dX5_far_46 : decode cX5_far 46 = .ok (.iload_n 3, 1) := by decide +kernel
theorem dX5_far_47 : decode cX5_far 47 = .ok (.iload 5, 2) := by decide +kernel
theorem dX5_far_49 : decode cX5_far 49 = .ok (.iadd, 1) := by decide +kernel
theorem dX5_far_50 : decode cX5_far 50 = .ok (.goto 10, 3) := by decide +kernel
theorem dX5_far_53 : decode cX5_far 53 = .ok (.iload_n 3, 1) := by decide +kernel
theorem dX5_far_54 : decode cX5_far 54 = .ok (.iload 5, 2) := by decide +kernel
theorem dX5_far_56 : decode cX5_far 56 = .ok (.iload 5, 2) := by decide +kernel
theorem dX5_far_58 : decode cX5_far 58 = .ok (.imul, 1) := by decide +kernel
theorem dX5_far_59 : decode cX5_far 59 = .ok (.iadd, 1) := by decide +kernel
theorem dX5_far_60 : decode cX5_far 60 = .ok (.istore_n 3, 1) := by decide +kernel
theorem dX5_far_61 : decode cX5_far 61 = .ok (.iinc 4 1, 3) := by decide +kernel
theorem dX5_far_64 : decode cX5_far 64 = .ok (.goto (-59), 3) := by decide +kernel
theorem dX5_far_67 : decode cX5_far 67 = .ok (.iload_n 3, 1) := by decide +kernel
theorem dX5_far_68 : decode cX5_far 68 = .ok (.ireturn, 1) := by decide +kernel
theorem dX5_order_0 : decode cX5_order 0 = .ok (.aload_n 0, 1) := by decide +kernel
theorem dX5_order_1 : decode cX5_order 1 = .ok (.iload_n 1, 1) := by decide +kernel
theorem dX5_order_2 : decode cX5_order 2 = .ok (.iconst 0, 1) := by decide +kernel
theorem dX5_order_3 : decode cX5_order 3 = .ok (.aload_n 0, 1) := by decide +kernel
theorem dX5_order_4 : decode cX5_order 4 = .ok (.getfield 140, 3) := by decide +kernel
theorem dX5_order_7 : decode cX5_order 7 = .ok (.iconst 1, 1) := by decide +kernel
theorem dX5_order_8 : decode cX5_order 8 = .ok (.isub, 1) := by decide +kernel
theorem dX5_order_9 : decode cX5_order 9 = .ok (.invokestatic 76, 3) := by decide +kernel
theorem dX5_order_12 : decode cX5_order 12 = .ok (.ifCond .eq 7, 3) := by decide +kernel
theorem dX5_order_15 : decode cX5_order 15 = .ok (.iconst 0, 1) := by decide +kernel
theorem dX5_order_16 : decode cX5_order 16 = .ok (.goto 4, 3) := by decide +kernel
theorem dX5_order_19 : decode cX5_order 19 = .ok (.iconst 1, 1) := by decide +kernel
theorem dX5_order_20 : decode cX5_order 20 = .ok (.putfield 73, 3) := by decide +kernel
theorem dX5_order_23 : decode cX5_order 23 = .ok (.aload_n 0, 1) := by decide +kernel
theorem dX5_order_24 : decode cX5_order 24 = .ok (.getfield 73, 3) := by decide +kernel
theorem dX5_order_27 : decode cX5_order 27 = .ok (.ifCond .le 5, 3) := by decide +kernel
theorem dX5_order_30 : decode cX5_order 30 = .ok (.iconst 0, 1) := by decide +kernel
theorem dX5_order_31 : decode cX5_order 31 = .ok (.ireturn, 1) := by decide +kernel
theorem dX5_order_32 : decode cX5_order 32 = .ok (.iconst 0, 1) := by decide +kernel
theorem dX5_order_33 : decode cX5_order 33 = .ok (.istore_n 2, 1) := by decide +kernel
theorem dX5_order_34 : decode cX5_order 34 = .ok (.iload_n 2, 1) := by decide +kernel
theorem dX5_order_35 : decode cX5_order 35 = .ok (.bipush 64, 2) := by decide +kernel
theorem dX5_order_37 : decode cX5_order 37 = .ok (.if_icmp .ge 16, 3) := by decide +kernel
theorem dX5_order_40 : decode cX5_order 40 = .ok (.aload_n 0, 1) := by decide +kernel
theorem dX5_order_41 : decode cX5_order 41 = .ok (.getfield 37, 3) := by decide +kernel
theorem dX5_order_44 : decode cX5_order 44 = .ok (.iload_n 2, 1) := by decide +kernel
theorem dX5_order_45 : decode cX5_order 45 = .ok (.iconst 0, 1) := by decide +kernel
theorem dX5_order_46 : decode cX5_order 46 = .ok (.bastore, 1) := by decide +kernel
theorem dX5_order_47 : decode cX5_order 47 = .ok (.iinc 2 1, 3) := by decide +kernel
theorem dX5_order_50 : decode cX5_order 50 = .ok (.goto (-16), 3) := by decide +kernel
theorem dX5_order_53 : decode cX5_order 53 = .ok (.iconst (-1), 1) := by decide +kernel
theorem dX5_order_54 : decode cX5_order 54 = .ok (.istore_n 2, 1) := by decide +kernel
theorem dX5_order_55 : decode cX5_order 55 = .ok (.iconst 0, 1) := by decide +kernel
theorem dX5_order_56 : decode cX5_order 56 = .ok (.istore_n 3, 1) := by decide +kernel
theorem dX5_order_57 : decode cX5_order 57 = .ok (.iload_n 3, 1) := by decide +kernel
theorem dX5_order_58 : decode cX5_order 58 = .ok (.iload_n 1, 1) := by decide +kernel
theorem dX5_order_59 : decode cX5_order 59 = .ok (.if_icmp .gt 94, 3) := by decide +kernel
theorem dX5_order_62 : decode cX5_order 62 = .ok (.iconst (-1), 1) := by decide +kernel
theorem dX5_order_63 : decode cX5_order 63 = .ok (.istore 4, 2) := by decide +kernel
theorem dX5_order_65 : decode cX5_order 65 = .ok (.iconst 0, 1) := by decide +kernel
theorem dX5_order_66 : decode cX5_order 66 = .ok (.istore 5, 2) := by decide +kernel
theorem dX5_order_68 : decode cX5_order 68 = .ok (.iload 5, 2) := by decide +kernel
theorem dX5_order_70 : decode cX5_order 70 = .ok (.aload_n 0, 1) := by decide +kernel
theorem dX5_order_71 : decode cX5_order 71 = .ok (.getfield 140, 3) := by decide +kernel
theorem dX5_order_74 : decode cX5_order 74 = .ok (.if_icmp .ge 62, 3) := by decide +kernel
theorem dX5_order_77 : decode cX5_order 77 = .ok (.aload_n 0, 1) := by decide +kernel
theorem dX5_order_78 : decode cX5_order 78 = .ok (.getfield 37, 3) := by decide +kernel
theorem dX5_order_81 : decode cX5_order 81 = .ok (.iload 5, 2) := by decide +kernel
theorem dX5_order_83 : decode cX5_order 83 = .ok (.baload, 1) := by decide +kernel
theorem dX5_order_84 : decode cX5_order 84 = .ok (.ifCond .ne 29, 3) := by decide +kernel
theorem dX5_order_87 : decode cX5_order 87 = .ok (.iload 4, 2) := by decide +kernel
theorem dX5_order_89 : decode cX5_order 89 = .ok (.ifCond .lt 20, 3) := by decide +kernel
theorem dX5_order_92 : decode cX5_order 92 = .ok (.aload_n 0, 1) := by decide +kernel
theorem dX5_order_93 : decode cX5_order 93 = .ok (.iload 5, 2) := by decide +kernel
theorem dX5_order_95 : decode cX5_order 95 = .ok (.iload_n 2, 1) := by decide +kernel
theorem dX5_order_96 : decode cX5_order 96 = .ok (.invokevirtual 146, 3) := by decide +kernel
theorem dX5_order_99 : decode cX5_order 99 = .ok (.aload_n 0, 1) := by decide +kernel
theorem dX5_order_100 : decode cX5_order 100 = .ok (.iload 4, 2) := by decide +kernel
theorem dX5_order_102 : decode cX5_order 102 = .ok (.iload_n 2, 1) := by decide +kernel
theorem dX5_order_103 : decode cX5_order 103 = .ok (.invokevirtual 146, 3) := by decide +kernel
theorem dX5_order_106 : decode cX5_order 106 = .ok (.if_icmp .ge 7, 3) := by decide +kernel
theorem dX5_order_109 : decode cX5_order 109 = .ok (.iconst 1, 1) := by decide +kernel
theorem dX5_order_110 : decode cX5_order 110 = .ok (.goto 4, 3) := by decide +kernel
theorem dX5_order_113 : decode cX5_order 113 = .ok (.iconst 0, 1) := by decide +kernel
theorem dX5_order_114 : decode cX5_order 114 = .ok (.istore 6, 2) := by decide +kernel
theorem dX5_order_116 : decode cX5_order 116 = .ok (.iload 6, 2) := by decide +kernel
theorem dX5_order_118 : decode cX5_order 118 = .ok (.ifCond .eq 8, 3) := by decide +kernel
theorem dX5_order_121 : decode cX5_order 121 = .ok (.iload 5, 2) := by decide +kernel
theorem dX5_order_123 : decode cX5_order 123 = .ok (.goto 5, 3) := by decide +kernel
theorem dX5_order_126 : decode cX5_order 126 = .ok (.iload 4, 2) := by decide +kernel
theorem dX5_order_128 : decode cX5_order 128 = .ok (.istore 4, 2) := by decide +kernel
theorem dX5_order_130 : decode cX5_order 130 = .ok (.iinc 5 1, 3) := by decide +kernel
theorem dX5_order_133 : decode cX5_order 133 = .ok (.goto (-65), 3) := by decide +kernel
theorem dX5_order_136 : decode cX5_order 136 = .ok (.aload_n 0, 1) := by decide +kernel
theorem dX5_order_137 : decode cX5_order 137 = .ok (.getfield 37, 3) := by decide +kernel
theorem dX5_order_140 : decode cX5_order 140 = .ok (.iload 4, 2) := by decide +kernel
theorem dX5_order_142 : decode cX5_order 142 = .ok (.iconst 1, 1) := by decide +kernel
theorem dX5_order_143 : decode cX5_order 143 = .ok (.bastore, 1) := by decide +kernel
theorem dX5_order_144 : decode cX5_order 144 = .ok (.iload 4, 2) := by decide +kernel
theorem dX5_order_146 : decode cX5_order 146 = .ok (.istore_n 2, 1) := by decide +kernel
theorem dX5_order_147 : decode cX5_order 147 = .ok (.iinc 3 1, 3) := by decide +kernel
theorem dX5_order_150 : decode cX5_order 150 = .ok (.goto (-93), 3) := by decide +kernel
theorem dX5_order_153 : decode cX5_order 153 = .ok (.iload_n 2, 1) := by decide +kernel
theorem dX5_order_154 : decode cX5_order 154 = .ok (.ireturn, 1) := by decide +kernel
theorem dX5_told_0 : decode cX5_told 0 = .ok (.aload_n 0, 1) := by decide +kernel
theorem dX5_told_1 : decode cX5_told 1 = .ok (.iconst 0, 1) := by decide +kernel
theorem dX5_told_2 : decode cX5_told 2 = .ok (.putfield 73, 3) := by decide +kernel
theorem dX5_told_5 : decode cX5_told 5 = .ok (.iload_n 1, 1) := by decide +kernel
theorem dX5_told_6 : decode cX5_told 6 = .ok (.tableswitch 86 0 7 #[46, 51, 56, 61, 66, 71, 76, 81], 46) := by decide +kernel
theorem dX5_told_52 : decode cX5_told 52 = .ok (.aload_n 0, 1) := by decide +kernel
theorem dX5_told_53 : decode cX5_told 53 = .ok (.getfield 57, 3) := by decide +kernel
theorem dX5_told_56 : decode cX5_told 56 = .ok (.ireturn, 1) := by decide +kernel
theorem dX5_told_57 : decode cX5_told 57 = .ok (.aload_n 0, 1) := by decide +kernel
theorem dX5_told_58 : decode cX5_told 58 = .ok (.getfield 61, 3) := by decide +kernel
theorem dX5_told_61 : decode cX5_told 61 = .ok (.ireturn, 1) := by decide +kernel
theorem dX5_told_62 : decode cX5_told 62 = .ok (.aload_n 0, 1) := by decide +kernel
theorem dX5_told_63 : decode cX5_told 63 = .ok (.getfield 67, 3) := by decide +kernel
theorem dX5_told_66 : decode cX5_told 66 = .ok (.ireturn, 1) := by decide +kernel
theorem dX5_told_67 : decode cX5_told 67 = .ok (.aload_n 0, 1) := by decide +kernel
theorem dX5_told_68 : decode cX5_told 68 = .ok (.getfield 64, 3) := by decide +kernel
theorem dX5_told_71 : decode cX5_told 71 = .ok (.ireturn, 1) := by decide +kernel
theorem dX5_told_72 : decode cX5_told 72 = .ok (.aload_n 0, 1) := by decide +kernel
theorem dX5_told_73 : decode cX5_told 73 = .ok (.getfield 70, 3) := by decide +kernel
theorem dX5_told_76 : decode cX5_told 76 = .ok (.ireturn, 1) := by decide +kernel
theorem dX5_told_77 : decode cX5_told 77 = .ok (.aload_n 0, 1) := by decide +kernel
theorem dX5_told_78 : decode cX5_told 78 = .ok (.getfield 126, 3) := by decide +kernel
theorem dX5_told_81 : decode cX5_told 81 = .ok (.ireturn, 1) := by decide +kernel
theorem dX5_told_82 : decode cX5_told 82 = .ok (.aload_n 0, 1) := by decide +kernel
theorem dX5_told_83 : decode cX5_told 83 = .ok (.getfield 133, 3) := by decide +kernel
theorem dX5_told_86 : decode cX5_told 86 = .ok (.ireturn, 1) := by decide +kernel
theorem dX5_told_87 : decode cX5_told 87 = .ok (.aload_n 0, 1) := by decide +kernel
theorem dX5_told_88 : decode cX5_told 88 = .ok (.getfield 140, 3) := by decide +kernel
theorem dX5_told_91 : decode cX5_told 91 = .ok (.ireturn, 1) := by decide +kernel
theorem dX5_told_92 : decode cX5_told 92 = .ok (.iconst (-1), 1) := by decide +kernel
theorem dX5_told_93 : decode cX5_told 93 = .ok (.ireturn, 1) := by decide +kernel
theorem dX5_clear_0 : decode cX5_clear 0 = .ok (.aload_n 0, 1) := by decide +kernel
theorem dX5_clear_1 : decode cX5_clear 1 = .ok (.iconst 0, 1) := by decide +kernel
theorem dX5_clear_2 : decode cX5_clear 2 = .ok (.putfield 73, 3) := by decide +kernel
theorem dX5_clear_5 : decode cX5_clear 5 = .ok (.iconst 0, 1) := by decide +kernel
theorem dX5_clear_6 : decode cX5_clear 6 = .ok (.istore_n 1, 1) := by decide +kernel
theorem dX5_clear_7 : decode cX5_clear 7 = .ok (.iload_n 1, 1) := by decide +kernel
theorem dX5_clear_8 : decode cX5_clear 8 = .ok (.sipush 1024, 3) := by decide +kernel
theorem dX5_clear_11 : decode cX5_clear 11 = .ok (.if_icmp .ge 16, 3) := by decide +kernel
theorem dX5_clear_14 : decode cX5_clear 14 = .ok (.aload_n 0, 1) := by decide +kernel
theorem dX5_clear_15 : decode cX5_clear 15 = .ok (.getfield 22, 3) := by decide +kernel
theorem dX5_clear_18 : decode cX5_clear 18 = .ok (.iload_n 1, 1) := by decide +kernel
theorem dX5_clear_19 : decode cX5_clear 19 = .ok (.iconst 0, 1) := by decide +kernel
theorem dX5_clear_20 : decode cX5_clear 20 = .ok (.iastore, 1) := by decide +kernel
theorem dX5_clear_21 : decode cX5_clear 21 = .ok (.iinc 1 1, 3) := by decide +kernel
theorem dX5_clear_24 : decode cX5_clear 24 = .ok (.goto (-17), 3) := by decide +kernel
theorem dX5_clear_27 : decode cX5_clear 27 = .ok (.iconst 0, 1) := by decide +kernel
theorem dX5_clear_28 : decode cX5_clear 28 = .ok (.istore_n 1, 1) := by decide +kernel
theorem dX5_clear_29 : decode cX5_clear 29 = .ok (.iload_n 1, 1) := by decide +kernel
theorem dX5_clear_30 : decode cX5_clear 30 = .ok (.iconst 5, 1) := by decide +kernel
theorem dX5_clear_31 : decode cX5_clear 31 = .ok (.if_icmp .ge 16, 3) := by decide +kernel
theorem dX5_clear_34 : decode cX5_clear 34 = .ok (.aload_n 0, 1) := by decide +kernel
theorem dX5_clear_35 : decode cX5_clear 35 = .ok (.getfield 44, 3) := by decide +kernel
theorem dX5_clear_38 : decode cX5_clear 38 = .ok (.iload_n 1, 1) := by decide +kernel
theorem dX5_clear_39 : decode cX5_clear 39 = .ok (.iconst 0, 1) := by decide +kernel
theorem dX5_clear_40 : decode cX5_clear 40 = .ok (.iastore, 1) := by decide +kernel
theorem dX5_clear_41 : decode cX5_clear 41 = .ok (.iinc 1 1, 3) := by decide +kernel
theorem dX5_clear_44 : decode cX5_clear 44 = .ok (.goto (-15), 3) := by decide +kernel
theorem dX5_clear_47 : decode cX5_clear 47 = .ok (.aload_n 0, 1) := by decide +kernel
theorem dX5_clear_48 : decode cX5_clear 48 = .ok (.iconst 0, 1) := by decide +kernel
theorem dX5_clear_49 : decode cX5_clear 49 = .ok (.putfield 126, 3) := by decide +kernel
theorem dX5_clear_52 : decode cX5_clear 52 = .ok (.aload_n 0, 1) := by decide +kernel
theorem dX5_clear_53 : decode cX5_clear 53 = .ok (.iconst 0, 1) := by decide +kernel
theorem dX5_clear_54 : decode cX5_clear 54 = .ok (.putfield 133, 3) := by decide +kernel
theorem dX5_clear_57 : decode cX5_clear 57 = .ok (.aload_n 0, 1) := by decide +kernel
theorem dX5_clear_58 : decode cX5_clear 58 = .ok (.iconst 0, 1) := by decide +kernel
theorem dX5_clear_59 : decode cX5_clear 59 = .ok (.putfield 140, 3) := by decide +kernel
theorem dX5_clear_62 : decode cX5_clear 62 = .ok (.return_, 1) := by decide +kernel
