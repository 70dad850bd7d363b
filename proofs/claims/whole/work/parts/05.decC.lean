theorem dX4_init_0 : decode cX4_init 0 = .ok (.aload_n 0, 1) := by decide +kernel
theorem dX4_init_1 : decode cX4_init 1 = .ok (.invokespecial 1, 3) := by decide +kernel
theorem dX4_init_4 : decode cX4_init 4 = .ok (.aload_n 0, 1) := by decide +kernel
theorem dX4_init_5 : decode cX4_init 5 = .ok (.new 7, 3) := by decide +kernel
theorem dX4_init_8 : decode cX4_init 8 = .ok (.dup, 1) := by decide +kernel
theorem dX4_init_9 : decode cX4_init 9 = .ok (.iload_n 1, 1) := by decide +kernel
theorem dX4_init_10 : decode cX4_init 10 = .ok (.iload_n 2, 1) := by decide +kernel
theorem dX4_init_11 : decode cX4_init 11 = .ok (.iload_n 3, 1) := by decide +kernel
theorem dX4_init_12 : decode cX4_init 12 = .ok (.iload 4, 2) := by decide +kernel
theorem dX4_init_14 : decode cX4_init 14 = .ok (.invokespecial 9, 3) := by decide +kernel
theorem dX4_init_17 : decode cX4_init 17 = .ok (.putfield 12, 3) := by decide +kernel
theorem dX4_init_20 : decode cX4_init 20 = .ok (.aload_n 0, 1) := by decide +kernel
theorem dX4_init_21 : decode cX4_init 21 = .ok (.new 18, 3) := by decide +kernel
theorem dX4_init_24 : decode cX4_init 24 = .ok (.dup, 1) := by decide +kernel
theorem dX4_init_25 : decode cX4_init 25 = .ok (.aload_n 0, 1) := by decide +kernel
theorem dX4_init_26 : decode cX4_init 26 = .ok (.getfield 12, 3) := by decide +kernel
theorem dX4_init_29 : decode cX4_init 29 = .ok (.iconst 0, 1) := by decide +kernel
theorem dX4_init_30 : decode cX4_init 30 = .ok (.invokevirtual 20, 3) := by decide +kernel
theorem dX4_init_33 : decode cX4_init 33 = .ok (.aload_n 0, 1) := by decide +kernel
theorem dX4_init_34 : decode cX4_init 34 = .ok (.getfield 12, 3) := by decide +kernel
theorem dX4_init_37 : decode cX4_init 37 = .ok (.getfield 24, 3) := by decide +kernel
theorem dX4_init_40 : decode cX4_init 40 = .ok (.invokespecial 28, 3) := by decide +kernel
theorem dX4_init_43 : decode cX4_init 43 = .ok (.putfield 31, 3) := by decide +kernel
theorem dX4_init_46 : decode cX4_init 46 = .ok (.aload_n 0, 1) := by decide +kernel
theorem dX4_init_47 : decode cX4_init 47 = .ok (.new 35, 3) := by decide +kernel
theorem dX4_init_50 : decode cX4_init 50 = .ok (.dup, 1) := by decide +kernel
theorem dX4_init_51 : decode cX4_init 51 = .ok (.sipush 2078, 3) := by decide +kernel
theorem dX4_init_54 : decode cX4_init 54 = .ok (.invokespecial 37, 3) := by decide +kernel
theorem dX4_init_57 : decode cX4_init 57 = .ok (.putfield 40, 3) := by decide +kernel
theorem dX4_init_60 : decode cX4_init 60 = .ok (.aload_n 0, 1) := by decide +kernel
theorem dX4_init_61 : decode cX4_init 61 = .ok (.new 35, 3) := by decide +kernel
theorem dX4_init_64 : decode cX4_init 64 = .ok (.dup, 1) := by decide +kernel
theorem dX4_init_65 : decode cX4_init 65 = .ok (.sipush 4000, 3) := by decide +kernel
theorem dX4_init_68 : decode cX4_init 68 = .ok (.invokespecial 37, 3) := by decide +kernel
theorem dX4_init_71 : decode cX4_init 71 = .ok (.putfield 44, 3) := by decide +kernel
theorem dX4_init_74 : decode cX4_init 74 = .ok (.aload_n 0, 1) := by decide +kernel
theorem dX4_init_75 : decode cX4_init 75 = .ok (.iconst 5, 1) := by decide +kernel
theorem dX4_init_76 : decode cX4_init 76 = .ok (.newarray .int, 2) := by decide +kernel
theorem dX4_init_78 : decode cX4_init 78 = .ok (.putfield 47, 3) := by decide +kernel
theorem dX4_init_81 : decode cX4_init 81 = .ok (.aload_n 0, 1) := by decide +kernel
theorem dX4_init_82 : decode cX4_init 82 = .ok (.new 51, 3) := by decide +kernel
theorem dX4_init_85 : decode cX4_init 85 = .ok (.dup, 1) := by decide +kernel
theorem dX4_init_86 : decode cX4_init 86 = .ok (.invokespecial 53, 3) := by decide +kernel
theorem dX4_init_89 : decode cX4_init 89 = .ok (.putfield 54, 3) := by decide +kernel
theorem dX4_init_92 : decode cX4_init 92 = .ok (.return_, 1) := by decide +kernel
theorem dX4_put_0 : decode cX4_put 0 = .ok (.aload_n 0, 1) := by decide +kernel
theorem dX4_put_1 : decode cX4_put 1 = .ok (.getfield 12, 3) := by decide +kernel
theorem dX4_put_4 : decode cX4_put 4 = .ok (.iload_n 1, 1) := by decide +kernel
theorem dX4_put_5 : decode cX4_put 5 = .ok (.iload_n 2, 1) := by decide +kernel
theorem dX4_put_6 : decode cX4_put 6 = .ok (.iload_n 3, 1) := by decide +kernel
theorem dX4_put_7 : decode cX4_put 7 = .ok (.invokevirtual 58, 3) := by decide +kernel
theorem dX4_put_10 : decode cX4_put 10 = .ok (.ifCond .ne 13, 3) := by decide +kernel
theorem dX4_put_13 : decode cX4_put 13 = .ok (.new 62, 3) := by decide +kernel
theorem dX4_put_16 : decode cX4_put 16 = .ok (.dup, 1) := by decide +kernel
theorem dX4_put_17 : decode cX4_put 17 = .ok (.ldc 64, 2) := by decide +kernel
theorem dX4_put_19 : decode cX4_put 19 = .ok (.invokespecial 66, 3) := by decide +kernel
theorem dX4_put_22 : decode cX4_put 22 = .ok (.athrow, 1) := by decide +kernel
theorem dX4_put_23 : decode cX4_put 23 = .ok (.iload 4, 2) := by decide +kernel
theorem dX4_put_25 : decode cX4_put 25 = .ok (.ifCond .lt 15, 3) := by decide +kernel
theorem dX4_put_28 : decode cX4_put 28 = .ok (.iload 4, 2) := by decide +kernel
theorem dX4_put_30 : decode cX4_put 30 = .ok (.aload_n 0, 1) := by decide +kernel
theorem dX4_put_31 : decode cX4_put 31 = .ok (.getfield 12, 3) := by decide +kernel
theorem dX4_put_34 : decode cX4_put 34 = .ok (.getfield 69, 3) := by decide +kernel
theorem dX4_put_37 : decode cX4_put 37 = .ok (.if_icmp .le 13, 3) := by decide +kernel
theorem dX4_put_40 : decode cX4_put 40 = .ok (.new 72, 3) := by decide +kernel
theorem dX4_put_43 : decode cX4_put 43 = .ok (.dup, 1) := by decide +kernel
theorem dX4_put_44 : decode cX4_put 44 = .ok (.ldc 74, 2) := by decide +kernel
theorem dX4_put_46 : decode cX4_put 46 = .ok (.invokespecial 76, 3) := by decide +kernel
theorem dX4_put_49 : decode cX4_put 49 = .ok (.athrow, 1) := by decide +kernel
theorem dX4_put_50 : decode cX4_put 50 = .ok (.aload_n 0, 1) := by decide +kernel
theorem dX4_put_51 : decode cX4_put 51 = .ok (.getfield 12, 3) := by decide +kernel
theorem dX4_put_54 : decode cX4_put 54 = .ok (.iload_n 1, 1) := by decide +kernel
theorem dX4_put_55 : decode cX4_put 55 = .ok (.iload_n 2, 1) := by decide +kernel
theorem dX4_put_56 : decode cX4_put 56 = .ok (.iload_n 3, 1) := by decide +kernel
theorem dX4_put_57 : decode cX4_put 57 = .ok (.iload 4, 2) := by decide +kernel
theorem dX4_put_59 : decode cX4_put 59 = .ok (.invokevirtual 77, 3) := by decide +kernel
theorem dX4_put_62 : decode cX4_put 62 = .ok (.ireturn, 1) := by decide +kernel
theorem dX4_paint_0 : decode cX4_paint 0 = .ok (.aload_n 0, 1) := by decide +kernel
theorem dX4_paint_1 : decode cX4_paint 1 = .ok (.getfield 12, 3) := by decide +kernel
theorem dX4_paint_4 : decode cX4_paint 4 = .ok (.iload_n 1, 1) := by decide +kernel
theorem dX4_paint_5 : decode cX4_paint 5 = .ok (.iload_n 2, 1) := by decide +kernel
theorem dX4_paint_6 : decode cX4_paint 6 = .ok (.invokevirtual 81, 3) := by decide +kernel
theorem dX4_paint_9 : decode cX4_paint 9 = .ok (.ireturn, 1) := by decide +kernel
theorem dX4_at_0 : decode cX4_at 0 = .ok (.aload_n 0, 1) := by decide +kernel
theorem dX4_at_1 : decode cX4_at 1 = .ok (.getfield 12, 3) := by decide +kernel
theorem dX4_at_4 : decode cX4_at 4 = .ok (.iload_n 1, 1) := by decide +kernel
theorem dX4_at_5 : decode cX4_at 5 = .ok (.iload_n 2, 1) := by decide +kernel
theorem dX4_at_6 : decode cX4_at 6 = .ok (.iload_n 3, 1) := by decide +kernel
theorem dX4_at_7 : decode cX4_at 7 = .ok (.invokevirtual 58, 3) := by decide +kernel
theorem dX4_at_10 : decode cX4_at 10 = .ok (.ifCond .ne 13, 3) := by decide +kernel
theorem dX4_at_13 : decode cX4_at 13 = .ok (.new 62, 3) := by decide +kernel
theorem dX4_at_16 : decode cX4_at 16 = .ok (.dup, 1) := by decide +kernel
theorem dX4_at_17 : decode cX4_at 17 = .ok (.ldc 64, 2) := by decide +kernel
theorem dX4_at_19 : decode cX4_at 19 = .ok (.invokespecial 66, 3) := by decide +kernel
theorem dX4_at_22 : decode cX4_at 22 = .ok (.athrow, 1) := by decide +kernel
theorem dX4_at_23 : decode cX4_at 23 = .ok (.aload_n 0, 1) := by decide +kernel
theorem dX4_at_24 : decode cX4_at 24 = .ok (.getfield 12, 3) := by decide +kernel
theorem dX4_at_27 : decode cX4_at 27 = .ok (.iload_n 1, 1) := by decide +kernel
theorem dX4_at_28 : decode cX4_at 28 = .ok (.iload_n 2, 1) := by decide +kernel
theorem dX4_at_29 : decode cX4_at 29 = .ok (.iload_n 3, 1) := by decide +kernel
theorem dX4_at_30 : decode cX4_at 30 = .ok (.invokevirtual 85, 3) := by decide +kernel
theorem dX4_at_33 : decode cX4_at 33 = .ok (.ireturn, 1) := by decide +kernel
theorem dX4_pass_0 : decode cX4_pass 0 = .ok (.iload_n 1, 1) := by decide +kernel
theorem dX4_pass_1 : decode cX4_pass 1 = .ok (.invokestatic 89, 3) := by decide +kernel
theorem dX4_pass_4 : decode cX4_pass 4 = .ok (.ifCond .eq 12, 3) := by decide +kernel
theorem dX4_pass_7 : decode cX4_pass 7 = .ok (.iload_n 2, 1) := by decide +kernel
theorem dX4_pass_8 : decode cX4_pass 8 = .ok (.ifCond .lt 8, 3) := by decide +kernel
theorem dX4_pass_11 : decode cX4_pass 11 = .ok (.iload_n 2, 1) := by decide +kernel
theorem dX4_pass_12 : decode cX4_pass 12 = .ok (.iconst 2, 1) := by decide +kernel
theorem dX4_pass_13 : decode cX4_pass 13 = .ok (.if_icmp .le 13, 3) := by decide +kernel
theorem dX4_pass_16 : decode cX4_pass 16 = .ok (.new 72, 3) := by decide +kernel
theorem dX4_pass_19 : decode cX4_pass 19 = .ok (.dup, 1) := by decide +kernel
theorem dX4_pass_20 : decode cX4_pass 20 = .ok (.ldc 93, 2) := by decide +kernel
theorem dX4_pass_22 : decode cX4_pass 22 = .ok (.invokespecial 76, 3) := by decide +kernel
theorem dX4_pass_25 : decode cX4_pass 25 = .ok (.athrow, 1) := by decide +kernel
theorem dX4_pass_26 : decode cX4_pass 26 = .ok (.iload_n 2, 1) := by decide +kernel
theorem dX4_pass_27 : decode cX4_pass 27 = .ok (.ifCond .ne 12, 3) := by decide +kernel
theorem dX4_pass_30 : decode cX4_pass 30 = .ok (.aload_n 0, 1) := by decide +kernel
theorem dX4_pass_31 : decode cX4_pass 31 = .ok (.getfield 12, 3) := by decide +kernel
theorem dX4_pass_34 : decode cX4_pass 34 = .ok (.iload_n 1, 1) := by decide +kernel
theorem dX4_pass_35 : decode cX4_pass 35 = .ok (.invokevirtual 95, 3) := by decide +kernel
theorem dX4_pass_38 : decode cX4_pass 38 = .ok (.ireturn, 1) := by decide +kernel
theorem dX4_pass_39 : decode cX4_pass 39 = .ok (.iload_n 2, 1) := by decide +kernel
theorem dX4_pass_40 : decode cX4_pass 40 = .ok (.iconst 1, 1) := by decide +kernel
theorem dX4_pass_41 : decode cX4_pass 41 = .ok (.if_icmp .ne 14, 3) := by decide +kernel
theorem dX4_pass_44 : decode cX4_pass 44 = .ok (.aload_n 0, 1) := by decide +kernel
theorem dX4_pass_45 : decode cX4_pass 45 = .ok (.getfield 12, 3) := by decide +kernel
theorem dX4_pass_48 : decode cX4_pass 48 = .ok (.iload_n 1, 1) := by decide +kernel
theorem dX4_pass_49 : decode cX4_pass 49 = .ok (.invokevirtual 20, 3) := by decide +kernel
theorem dX4_pass_52 : decode cX4_pass 52 = .ok (.goto 11, 3) := by decide +kernel
theorem dX4_pass_55 : decode cX4_pass 55 = .ok (.aload_n 0, 1) := by decide +kernel
theorem dX4_pass_56 : decode cX4_pass 56 = .ok (.getfield 12, 3) := by decide +kernel
theorem dX4_pass_59 : decode cX4_pass 59 = .ok (.iload_n 1, 1) := by decide +kernel
theorem dX4_pass_60 : decode cX4_pass 60 = .ok (.invokevirtual 98, 3) := by decide +kernel
theorem dX4_pass_63 : decode cX4_pass 63 = .ok (.ireturn, 1) := by decide +kernel
theorem dX4_filtered_0 : decode cX4_filtered 0 = .ok (.iload_n 1, 1) := by decide +kernel
theorem dX4_filtered_1 : decode cX4_filtered 1 = .ok (.invokestatic 89, 3) := by decide +kernel
theorem dX4_filtered_4 : decode cX4_filtered 4 = .ok (.ifCond .eq 10, 3) := by decide +kernel
theorem dX4_filtered_7 : decode cX4_filtered 7 = .ok (.iload_n 3, 1) := by decide +kernel
theorem dX4_filtered_8 : decode cX4_filtered 8 = .ok (.invokestatic 101, 3) := by decide +kernel
theorem dX4_filtered_11 : decode cX4_filtered 11 = .ok (.ifCond .ne 13, 3) := by decide +kernel
theorem dX4_filtered_14 : decode cX4_filtered 14 = .ok (.new 72, 3) := by decide +kernel
theorem dX4_filtered_17 : decode cX4_filtered 17 = .ok (.dup, 1) := by decide +kernel
theorem dX4_filtered_18 : decode cX4_filtered 18 = .ok (.ldc 104, 2) := by decide +kernel
theorem dX4_filtered_20 : decode cX4_filtered 20 = .ok (.invokespecial 76, 3) := by decide +kernel
theorem dX4_filtered_23 : decode cX4_filtered 23 = .ok (.athrow, 1) := by decide +kernel
theorem dX4_filtered_24 : decode cX4_filtered 24 = .ok (.aload_n 0, 1) := by decide +kernel
theorem dX4_filtered_25 : decode cX4_filtered 25 = .ok (.getfield 12, 3) := by decide +kernel
theorem dX4_filtered_28 : decode cX4_filtered 28 = .ok (.iload_n 1, 1) := by decide +kernel
theorem dX4_filtered_29 : decode cX4_filtered 29 = .ok (.iload_n 2, 1) := by decide +kernel
theorem dX4_filtered_30 : decode cX4_filtered 30 = .ok (.invokevirtual 106, 3) := by decide +kernel
theorem dX4_filtered_33 : decode cX4_filtered 33 = .ok (.ifCond .eq 21, 3) := by decide +kernel
theorem dX4_filtered_36 : decode cX4_filtered 36 = .ok (.iload 4, 2) := by decide +kernel
theorem dX4_filtered_38 : decode cX4_filtered 38 = .ok (.ifCond .lt 16, 3) := by decide +kernel
theorem dX4_filtered_41 : decode cX4_filtered 41 = .ok (.iload 4, 2) := by decide +kernel
theorem dX4_filtered_43 : decode cX4_filtered 43 = .ok (.aload_n 0, 1) := by decide +kernel
theorem dX4_filtered_44 : decode cX4_filtered 44 = .ok (.getfield 12, 3) := by decide +kernel
theorem dX4_filtered_47 : decode cX4_filtered 47 = .ok (.iload_n 1, 1) := by decide +kernel
theorem dX4_filtered_48 : decode cX4_filtered 48 = .ok (.invokevirtual 20, 3) := by decide +kernel
theorem dX4_filtered_51 : decode cX4_filtered 51 = .ok (.if_icmp .lt 13, 3) := by decide +kernel
theorem dX4_filtered_54 : decode cX4_filtered 54 = .ok (.new 62, 3) := by decide +kernel
theorem dX4_filtered_57 : decode cX4_filtered 57 = .ok (.dup, 1) := by decide +kernel
theorem dX4_filtered_58 : decode cX4_filtered 58 = .ok (.ldc 110, 2) := by decide +kernel
theorem dX4_filtered_60 : decode cX4_filtered 60 = .ok (.invokespecial 66, 3) := by decide +kernel
theorem dX4_filtered_63 : decode cX4_filtered 63 = .ok (.athrow, 1) := by decide +kernel
theorem dX4_filtered_64 : decode cX4_filtered 64 = .ok (.aload_n 0, 1) := by decide +kernel
theorem dX4_filtered_65 : decode cX4_filtered 65 = .ok (.getfield 31, 3) := by decide +kernel
theorem dX4_filtered_68 : decode cX4_filtered 68 = .ok (.aload_n 0, 1) := by decide +kernel
theorem dX4_filtered_69 : decode cX4_filtered 69 = .ok (.getfield 12, 3) := by decide +kernel
theorem dX4_filtered_72 : decode cX4_filtered 72 = .ok (.iload_n 1, 1) := by decide +kernel
theorem dX4_filtered_73 : decode cX4_filtered 73 = .ok (.iload_n 2, 1) := by decide +kernel
theorem dX4_filtered_74 : decode cX4_filtered 74 = .ok (.invokevirtual 112, 3) := by decide +kernel
theorem dX4_filtered_77 : decode cX4_filtered 77 = .ok (.aload_n 0, 1) := by decide +kernel
theorem dX4_filtered_78 : decode cX4_filtered 78 = .ok (.getfield 31, 3) := by decide +kernel
theorem dX4_filtered_81 : decode cX4_filtered 81 = .ok (.iload_n 3, 1) := by decide +kernel
theorem dX4_filtered_82 : decode cX4_filtered 82 = .ok (.invokevirtual 116, 3) := by decide +kernel
theorem dX4_filtered_85 : decode cX4_filtered 85 = .ok (.aload_n 0, 1) := by decide +kernel
theorem dX4_filtered_86 : decode cX4_filtered 86 = .ok (.getfield 31, 3) := by decide +kernel
theorem dX4_filtered_89 : decode cX4_filtered 89 = .ok (.getfield 119, 3) := by decide +kernel
theorem dX4_filtered_92 : decode cX4_filtered 92 = .ok (.iload 4, 2) := by decide +kernel
theorem dX4_filtered_94 : decode cX4_filtered 94 = .ok (.iaload, 1) := by decide +kernel
theorem dX4_filtered_95 : decode cX4_filtered 95 = .ok (.ireturn, 1) := by decide +kernel
theorem dX4_worth_0 : decode cX4_worth 0 = .ok (.iload_n 1, 1) := by decide +kernel
theorem dX4_worth_1 : decode cX4_worth 1 = .ok (.invokestatic 89, 3) := by decide +kernel
theorem dX4_worth_4 : decode cX4_worth 4 = .ok (.ifCond .eq 23, 3) := by decide +kernel
theorem dX4_worth_7 : decode cX4_worth 7 = .ok (.iload_n 3, 1) := by decide +kernel
theorem dX4_worth_8 : decode cX4_worth 8 = .ok (.invokestatic 101, 3) := by decide +kernel
theorem dX4_worth_11 : decode cX4_worth 11 = .ok (.ifCond .eq 16, 3) := by decide +kernel
theorem dX4_worth_14 : decode cX4_worth 14 = .ok (.iload 4, 2) := by decide +kernel
theorem dX4_worth_16 : decode cX4_worth 16 = .ok (.iconst 5, 1) := by decide +kernel
theorem dX4_worth_17 : decode cX4_worth 17 = .ok (.if_icmp .lt 10, 3) := by decide +kernel
theorem dX4_worth_20 : decode cX4_worth 20 = .ok (.iload 4, 2) := by decide +kernel
theorem dX4_worth_22 : decode cX4_worth 22 = .ok (.bipush 7, 2) := by decide +kernel
theorem dX4_worth_24 : decode cX4_worth 24 = .ok (.if_icmp .le 13, 3) := by decide +kernel
theorem dX4_worth_27 : decode cX4_worth 27 = .ok (.new 72, 3) := by decide +kernel
theorem dX4_worth_30 : decode cX4_worth 30 = .ok (.dup, 1) := by decide +kernel
theorem dX4_worth_31 : decode cX4_worth 31 = .ok (.ldc 122, 2) := by decide +kernel
theorem dX4_worth_33 : decode cX4_worth 33 = .ok (.invokespecial 76, 3) := by decide +kernel
theorem dX4_worth_36 : decode cX4_worth 36 = .ok (.athrow, 1) := by decide +kernel
theorem dX4_worth_37 : decode cX4_worth 37 = .ok (.aload_n 0, 1) := by decide +kernel
theorem dX4_worth_38 : decode cX4_worth 38 = .ok (.getfield 12, 3) := by decide +kernel
theorem dX4_worth_41 : decode cX4_worth 41 = .ok (.iload_n 1, 1) := by decide +kernel
theorem dX4_worth_42 : decode cX4_worth 42 = .ok (.iload_n 2, 1) := by decide +kernel
theorem dX4_worth_43 : decode cX4_worth 43 = .ok (.invokevirtual 106, 3) := by decide +kernel
theorem dX4_worth_46 : decode cX4_worth 46 = .ok (.ifCond .ne 13, 3) := by decide +kernel
theorem dX4_worth_49 : decode cX4_worth 49 = .ok (.new 62, 3) := by decide +kernel
theorem dX4_worth_52 : decode cX4_worth 52 = .ok (.dup, 1) := by decide +kernel
theorem dX4_worth_53 : decode cX4_worth 53 = .ok (.ldc 124, 2) := by decide +kernel
theorem dX4_worth_55 : decode cX4_worth 55 = .ok (.invokespecial 66, 3) := by decide +kernel
theorem dX4_worth_58 : decode cX4_worth 58 = .ok (.athrow, 1) := by decide +kernel
theorem dX4_worth_59 : decode cX4_worth 59 = .ok (.aload_n 0, 1) := by decide +kernel
theorem dX4_worth_60 : decode cX4_worth 60 = .ok (.getfield 31, 3) := by decide +kernel
theorem dX4_worth_63 : decode cX4_worth 63 = .ok (.aload_n 0, 1) := by decide +kernel
theorem dX4_worth_64 : decode cX4_worth 64 = .ok (.getfield 12, 3) := by decide +kernel
theorem dX4_worth_67 : decode cX4_worth 67 = .ok (.iload_n 1, 1) := by decide +kernel
theorem dX4_worth_68 : decode cX4_worth 68 = .ok (.iload_n 2, 1) := by decide +kernel
theorem dX4_worth_69 : decode cX4_worth 69 = .ok (.invokevirtual 112, 3) := by decide +kernel
theorem dX4_worth_72 : decode cX4_worth 72 = .ok (.aload_n 0, 1) := by decide +kernel
theorem dX4_worth_73 : decode cX4_worth 73 = .ok (.getfield 31, 3) := by decide +kernel
theorem dX4_worth_76 : decode cX4_worth 76 = .ok (.iload_n 3, 1) := by decide +kernel
theorem dX4_worth_77 : decode cX4_worth 77 = .ok (.iload 4, 2) := by decide +kernel
theorem dX4_worth_79 : decode cX4_worth 79 = .ok (.invokevirtual 126, 3) := by decide +kernel
theorem dX4_worth_82 : decode cX4_worth 82 = .ok (.ireturn, 1) := by decide +kernel
theorem dX4_encode_0 : decode cX4_encode 0 = .ok (.iload_n 1, 1) := by decide +kernel
theorem dX4_encode_1 : decode cX4_encode 1 = .ok (.ifCond .lt 9, 3) := by decide +kernel
theorem dX4_encode_4 : decode cX4_encode 4 = .ok (.iload_n 1, 1) := by decide +kernel
theorem dX4_encode_5 : decode cX4_encode 5 = .ok (.bipush 8, 2) := by decide +kernel
theorem dX4_encode_7 : decode cX4_encode 7 = .ok (.if_icmp .le 13, 3) := by decide +kernel
theorem dX4_encode_10 : decode cX4_encode 10 = .ok (.new 72, 3) := by decide +kernel
theorem dX4_encode_13 : decode cX4_encode 13 = .ok (.dup, 1) := by decide +kernel
theorem dX4_encode_14 : decode cX4_encode 14 = .ok (.ldc 129, 2) := by decide +kernel
theorem dX4_encode_16 : decode cX4_encode 16 = .ok (.invokespecial 76, 3) := by decide +kernel
theorem dX4_encode_19 : decode cX4_encode 19 = .ok (.athrow, 1) := by decide +kernel
theorem dX4_encode_20 : decode cX4_encode 20 = .ok (.aload_n 0, 1) := by decide +kernel
theorem dX4_encode_21 : decode cX4_encode 21 = .ok (.invokevirtual 131, 3) := by decide +kernel
theorem dX4_encode_24 : decode cX4_encode 24 = .ok (.iload_n 2, 1) := by decide +kernel
theorem dX4_encode_25 : decode cX4_encode 25 = .ok (.istore 4, 2) := by decide +kernel
theorem dX4_encode_27 : decode cX4_encode 27 = .ok (.iload_n 3, 1) := by decide +kernel
theorem dX4_encode_28 : decode cX4_encode 28 = .ok (.invokestatic 134, 3) := by decide +kernel
theorem dX4_encode_31 : decode cX4_encode 31 = .ok (.istore 5, 2) := by decide +kernel
theorem dX4_encode_33 : decode cX4_encode 33 = .ok (.iload 5, 2) := by decide +kernel
theorem dX4_encode_35 : decode cX4_encode 35 = .ok (.iload_n 3, 1) := by decide +kernel
theorem dX4_encode_36 : decode cX4_encode 36 = .ok (.invokestatic 138, 3) := by decide +kernel
theorem dX4_encode_39 : decode cX4_encode 39 = .ok (.if_icmp .gt 104, 3) := by decide +kernel
theorem dX4_encode_42 : decode cX4_encode 42 = .ok (.iconst 0, 1) := by decide +kernel
theorem dX4_encode_43 : decode cX4_encode 43 = .ok (.istore 6, 2) := by decide +kernel
theorem dX4_encode_45 : decode cX4_encode 45 = .ok (.iload 6, 2) := by decide +kernel
theorem dX4_encode_47 : decode cX4_encode 47 = .ok (.aload_n 0, 1) := by decide +kernel
theorem dX4_encode_48 : decode cX4_encode 48 = .ok (.getfield 12, 3) := by decide +kernel
theorem dX4_encode_51 : decode cX4_encode 51 = .ok (.iload 5, 2) := by decide +kernel
theorem dX4_encode_53 : decode cX4_encode 53 = .ok (.invokevirtual 95, 3) := by decide +kernel
theorem dX4_encode_56 : decode cX4_encode 56 = .ok (.if_icmp .ge 81, 3) := by decide +kernel
theorem dX4_encode_59 : decode cX4_encode 59 = .ok (.iload 4, 2) := by decide +kernel
theorem dX4_encode_61 : decode cX4_encode 61 = .ok (.ldc 141, 2) := by decide +kernel
theorem dX4_encode_63 : decode cX4_encode 63 = .ok (.imul, 1) := by decide +kernel
theorem dX4_encode_64 : decode cX4_encode 64 = .ok (.sipush 12345, 3) := by decide +kernel
theorem dX4_encode_67 : decode cX4_encode 67 = .ok (.iadd, 1) := by decide +kernel
theorem dX4_encode_68 : decode cX4_encode 68 = .ok (.istore 4, 2) := by decide +kernel
theorem dX4_encode_70 : decode cX4_encode 70 = .ok (.aload_n 0, 1) := by decide +kernel
theorem dX4_encode_71 : decode cX4_encode 71 = .ok (.getfield 31, 3) := by decide +kernel
theorem dX4_encode_74 : decode cX4_encode 74 = .ok (.aload_n 0, 1) := by decide +kernel
theorem dX4_encode_75 : decode cX4_encode 75 = .ok (.getfield 12, 3) := by decide +kernel
theorem dX4_encode_78 : decode cX4_encode 78 = .ok (.iload 5, 2) := by decide +kernel
theorem dX4_encode_80 : decode cX4_encode 80 = .ok (.iload 6, 2) := by decide +kernel
theorem dX4_encode_82 : decode cX4_encode 82 = .ok (.invokevirtual 112, 3) := by decide +kernel
theorem dX4_encode_85 : decode cX4_encode 85 = .ok (.iload_n 1, 1) := by decide +kernel
theorem dX4_encode_86 : decode cX4_encode 86 = .ok (.istore 7, 2) := by decide +kernel
theorem dX4_encode_88 : decode cX4_encode 88 = .ok (.iload_n 1, 1) := by decide +kernel
theorem dX4_encode_89 : decode cX4_encode 89 = .ok (.bipush 8, 2) := by decide +kernel
theorem dX4_encode_91 : decode cX4_encode 91 = .ok (.if_icmp .ne 19, 3) := by decide +kernel
theorem dX4_encode_94 : decode cX4_encode 94 = .ok (.iload 4, 2) := by decide +kernel
theorem dX4_encode_96 : decode cX4_encode 96 = .ok (.bipush 16, 2) := by decide +kernel
theorem dX4_encode_98 : decode cX4_encode 98 = .ok (.ishr, 1) := by decide +kernel
theorem dX4_encode_99 : decode cX4_encode 99 = .ok (.sipush 32767, 3) := by decide +kernel
theorem dX4_encode_102 : decode cX4_encode 102 = .ok (.iand, 1) := by decide +kernel
theorem dX4_encode_103 : decode cX4_encode 103 = .ok (.iconst 5, 1) := by decide +kernel
theorem dX4_encode_104 : decode cX4_encode 104 = .ok (.irem, 1) := by decide +kernel
theorem dX4_encode_105 : decode cX4_encode 105 = .ok (.istore 7, 2) := by decide +kernel
theorem dX4_encode_107 : decode cX4_encode 107 = .ok (.goto 18, 3) := by decide +kernel
theorem dX4_encode_110 : decode cX4_encode 110 = .ok (.iload_n 1, 1) := by decide +kernel
theorem dX4_encode_111 : decode cX4_encode 111 = .ok (.iconst 4, 1) := by decide +kernel
theorem dX4_encode_112 : decode cX4_encode 112 = .ok (.if_icmp .le 13, 3) := by decide +kernel
theorem dX4_encode_115 : decode cX4_encode 115 = .ok (.aload_n 0, 1) := by decide +kernel
theorem dX4_encode_116 : decode cX4_encode 116 = .ok (.getfield 31, 3) := by decide +kernel
theorem dX4_encode_119 : decode cX4_encode 119 = .ok (.iload_n 1, 1) := by decide +kernel
theorem dX4_encode_120 : decode cX4_encode 120 = .ok (.invokevirtual 142, 3) := by decide +kernel
theorem dX4_encode_123 : decode cX4_encode 123 = .ok (.istore 7, 2) := by decide +kernel
theorem dX4_encode_125 : decode cX4_encode 125 = .ok (.aload_n 0, 1) := by decide +kernel
theorem dX4_encode_126 : decode cX4_encode 126 = .ok (.iload 7, 2) := by decide +kernel
theorem dX4_encode_128 : decode cX4_encode 128 = .ok (.invokevirtual 145, 3) := by decide +kernel
theorem dX4_encode_131 : decode cX4_encode 131 = .ok (.iinc 6 1, 3) := by decide +kernel
theorem dX4_encode_134 : decode cX4_encode 134 = .ok (.goto (-89), 3) := by decide +kernel
theorem dX4_encode_137 : decode cX4_encode 137 = .ok (.iinc 5 1, 3) := by decide +kernel
theorem dX4_encode_140 : decode cX4_encode 140 = .ok (.goto (-107), 3) := by decide +kernel
theorem dX4_encode_143 : decode cX4_encode 143 = .ok (.aload_n 0, 1) := by decide +kernel
theorem dX4_encode_144 : decode cX4_encode 144 = .ok (.getfield 40, 3) := by decide +kernel
theorem dX4_encode_147 : decode cX4_encode 147 = .ok (.getfield 148, 3) := by decide +kernel
theorem dX4_encode_150 : decode cX4_encode 150 = .ok (.ireturn, 1) := by decide +kernel
theorem dX4_byteAt_0 : decode cX4_byteAt 0 = .ok (.aload_n 0, 1) := by decide +kernel
theorem dX4_byteAt_1 : decode cX4_byteAt 1 = .ok (.getfield 40, 3) := by decide +kernel
theorem dX4_byteAt_4 : decode cX4_byteAt 4 = .ok (.iload_n 1, 1) := by decide +kernel
theorem dX4_byteAt_5 : decode cX4_byteAt 5 = .ok (.invokevirtual 151, 3) := by decide +kernel
theorem dX4_byteAt_8 : decode cX4_byteAt 8 = .ok (.ifCond .ne 13, 3) := by decide +kernel
theorem dX4_byteAt_11 : decode cX4_byteAt 11 = .ok (.new 62, 3) := by decide +kernel
theorem dX4_byteAt_14 : decode cX4_byteAt 14 = .ok (.dup, 1) := by decide +kernel
theorem dX4_byteAt_15 : decode cX4_byteAt 15 = .ok (.ldc 154, 2) := by decide +kernel
theorem dX4_byteAt_17 : decode cX4_byteAt 17 = .ok (.invokespecial 66, 3) := by decide +kernel
theorem dX4_byteAt_20 : decode cX4_byteAt 20 = .ok (.athrow, 1) := by decide +kernel
theorem dX4_byteAt_21 : decode cX4_byteAt 21 = .ok (.aload_n 0, 1) := by decide +kernel
theorem dX4_byteAt_22 : decode cX4_byteAt 22 = .ok (.getfield 40, 3) := by decide +kernel
theorem dX4_byteAt_25 : decode cX4_byteAt 25 = .ok (.iload_n 1, 1) := by decide +kernel
theorem dX4_byteAt_26 : decode cX4_byteAt 26 = .ok (.invokevirtual 156, 3) := by decide +kernel
theorem dX4_byteAt_29 : decode cX4_byteAt 29 = .ok (.ireturn, 1) := by decide +kernel
theorem dX4_chosen_0 : decode cX4_chosen 0 = .ok (.iload_n 1, 1) := by decide +kernel
theorem dX4_chosen_1 : decode cX4_chosen 1 = .ok (.invokestatic 101, 3) := by decide +kernel
theorem dX4_chosen_4 : decode cX4_chosen 4 = .ok (.ifCond .ne 13, 3) := by decide +kernel
theorem dX4_chosen_7 : decode cX4_chosen 7 = .ok (.new 72, 3) := by decide +kernel
theorem dX4_chosen_10 : decode cX4_chosen 10 = .ok (.dup, 1) := by decide +kernel
theorem dX4_chosen_11 : decode cX4_chosen 11 = .ok (.ldc 159, 2) := by decide +kernel
theorem dX4_chosen_13 : decode cX4_chosen 13 = .ok (.invokespecial 76, 3) := by decide +kernel
theorem dX4_chosen_16 : decode cX4_chosen 16 = .ok (.athrow, 1) := by decide +kernel
theorem dX4_chosen_17 : decode cX4_chosen 17 = .ok (.aload_n 0, 1) := by decide +kernel
theorem dX4_chosen_18 : decode cX4_chosen 18 = .ok (.getfield 47, 3) := by decide +kernel
theorem dX4_chosen_21 : decode cX4_chosen 21 = .ok (.iload_n 1, 1) := by decide +kernel
theorem dX4_chosen_22 : decode cX4_chosen 22 = .ok (.iaload, 1) := by decide +kernel
theorem dX4_chosen_23 : decode cX4_chosen 23 = .ok (.ireturn, 1) := by decide +kernel
theorem dX4_feed_0 : decode cX4_feed 0 = .ok (.iload_n 1, 1) := by decide +kernel
theorem dX4_feed_1 : decode cX4_feed 1 = .ok (.ifCond .lt 10, 3) := by decide +kernel
theorem dX4_feed_4 : decode cX4_feed 4 = .ok (.iload_n 1, 1) := by decide +kernel
theorem dX4_feed_5 : decode cX4_feed 5 = .ok (.sipush 255, 3) := by decide +kernel
theorem dX4_feed_8 : decode cX4_feed 8 = .ok (.if_icmp .le 13, 3) := by decide +kernel
theorem dX4_feed_11 : decode cX4_feed 11 = .ok (.new 72, 3) := by decide +kernel
theorem dX4_feed_14 : decode cX4_feed 14 = .ok (.dup, 1) := by decide +kernel
theorem dX4_feed_15 : decode cX4_feed 15 = .ok (.ldc 161, 2) := by decide +kernel
theorem dX4_feed_17 : decode cX4_feed 17 = .ok (.invokespecial 76, 3) := by decide +kernel
theorem dX4_feed_20 : decode cX4_feed 20 = .ok (.athrow, 1) := by decide +kernel
theorem dX4_feed_21 : decode cX4_feed 21 = .ok (.aload_n 0, 1) := by decide +kernel
theorem dX4_feed_22 : decode cX4_feed 22 = .ok (.getfield 44, 3) := by decide +kernel
theorem dX4_feed_25 : decode cX4_feed 25 = .ok (.iconst 1, 1) := by decide +kernel
theorem dX4_feed_26 : decode cX4_feed 26 = .ok (.invokevirtual 163, 3) := by decide +kernel
theorem dX4_feed_29 : decode cX4_feed 29 = .ok (.ifCond .ne 13, 3) := by decide +kernel
theorem dX4_feed_32 : decode cX4_feed 32 = .ok (.new 166, 3) := by decide +kernel
theorem dX4_feed_35 : decode cX4_feed 35 = .ok (.dup, 1) := by decide +kernel
theorem dX4_feed_36 : decode cX4_feed 36 = .ok (.ldc 168, 2) := by decide +kernel
theorem dX4_feed_38 : decode cX4_feed 38 = .ok (.invokespecial 170, 3) := by decide +kernel
theorem dX4_feed_41 : decode cX4_feed 41 = .ok (.athrow, 1) := by decide +kernel
theorem dX4_feed_42 : decode cX4_feed 42 = .ok (.aload_n 0, 1) := by decide +kernel
theorem dX4_feed_43 : decode cX4_feed 43 = .ok (.getfield 44, 3) := by decide +kernel
theorem dX4_feed_46 : decode cX4_feed 46 = .ok (.iload_n 1, 1) := by decide +kernel
theorem dX4_feed_47 : decode cX4_feed 47 = .ok (.invokevirtual 171, 3) := by decide +kernel
theorem dX4_feed_50 : decode cX4_feed 50 = .ok (.aload_n 0, 1) := by decide +kernel
theorem dX4_feed_51 : decode cX4_feed 51 = .ok (.getfield 44, 3) := by decide +kernel
theorem dX4_feed_54 : decode cX4_feed 54 = .ok (.getfield 148, 3) := by decide +kernel
theorem dX4_feed_57 : decode cX4_feed 57 = .ok (.ireturn, 1) := by decide +kernel
theorem dX4_passOn_0 : decode cX4_passOn 0 = .ok (.aload_n 0, 1) := by decide +kernel
theorem dX4_passOn_1 : decode cX4_passOn 1 = .ok (.getfield 44, 3) := by decide +kernel
theorem dX4_passOn_4 : decode cX4_passOn 4 = .ok (.aload_n 0, 1) := by decide +kernel
theorem dX4_passOn_5 : decode cX4_passOn 5 = .ok (.getfield 40, 3) := by decide +kernel
theorem dX4_passOn_8 : decode cX4_passOn 8 = .ok (.getfield 148, 3) := by decide +kernel
theorem dX4_passOn_11 : decode cX4_passOn 11 = .ok (.invokevirtual 163, 3) := by decide +kernel
theorem dX4_passOn_14 : decode cX4_passOn 14 = .ok (.ifCond .ne 13, 3) := by decide +kernel
theorem dX4_passOn_17 : decode cX4_passOn 17 = .ok (.new 166, 3) := by decide +kernel
theorem dX4_passOn_20 : decode cX4_passOn 20 = .ok (.dup, 1) := by decide +kernel
theorem dX4_passOn_21 : decode cX4_passOn 21 = .ok (.ldc 168, 2) := by decide +kernel
theorem dX4_passOn_23 : decode cX4_passOn 23 = .ok (.invokespecial 170, 3) := by decide +kernel
theorem dX4_passOn_26 : decode cX4_passOn 26 = .ok (.athrow, 1) := by decide +kernel
theorem dX4_passOn_27 : decode cX4_passOn 27 = .ok (.iconst 0, 1) := by decide +kernel
theorem dX4_passOn_28 : decode cX4_passOn 28 = .ok (.istore_n 1, 1) := by decide +kernel
theorem dX4_passOn_29 : decode cX4_passOn 29 = .ok (.iload_n 1, 1) := by decide +kernel
theorem dX4_passOn_30 : decode cX4_passOn 30 = .ok (.aload_n 0, 1) := by decide +kernel
theorem dX4_passOn_31 : decode cX4_passOn 31 = .ok (.getfield 40, 3) := by decide +kernel
theorem dX4_passOn_34 : decode cX4_passOn 34 = .ok (.getfield 148, 3) := by decide +kernel
theorem dX4_passOn_37 : decode cX4_passOn 37 = .ok (.if_icmp .ge 24, 3) := by decide +kernel
theorem dX4_passOn_40 : decode cX4_passOn 40 = .ok (.aload_n 0, 1) := by decide +kernel
theorem dX4_passOn_41 : decode cX4_passOn 41 = .ok (.getfield 44, 3) := by decide +kernel
theorem dX4_passOn_44 : decode cX4_passOn 44 = .ok (.aload_n 0, 1) := by decide +kernel
theorem dX4_passOn_45 : decode cX4_passOn 45 = .ok (.getfield 40, 3) := by decide +kernel
theorem dX4_passOn_48 : decode cX4_passOn 48 = .ok (.iload_n 1, 1) := by decide +kernel
theorem dX4_passOn_49 : decode cX4_passOn 49 = .ok (.invokevirtual 156, 3) := by decide +kernel
theorem dX4_passOn_52 : decode cX4_passOn 52 = .ok (.invokevirtual 171, 3) := by decide +kernel
theorem dX4_passOn_55 : decode cX4_passOn 55 = .ok (.iinc 1 1, 3) := by decide +kernel
theorem dX4_passOn_58 : decode cX4_passOn 58 = .ok (.goto (-29), 3) := by decide +kernel
theorem dX4_passOn_61 : decode cX4_passOn 61 = .ok (.aload_n 0, 1) := by decide +kernel
theorem dX4_passOn_62 : decode cX4_passOn 62 = .ok (.getfield 44, 3) := by decide +kernel
theorem dX4_passOn_65 : decode cX4_passOn 65 = .ok (.getfield 148, 3) := by decide +kernel
theorem dX4_passOn_68 : decode cX4_passOn 68 = .ok (.ireturn, 1) := by decide +kernel
theorem dX4_decode_0 : decode cX4_decode 0 = .ok (.aload_n 0, 1) := by decide +kernel
theorem dX4_decode_1 : decode cX4_decode 1 = .ok (.iload_n 1, 1) := by decide +kernel
theorem dX4_decode_2 : decode cX4_decode 2 = .ok (.invokevirtual 174, 3) := by decide +kernel
theorem dX4_decode_5 : decode cX4_decode 5 = .ok (.istore_n 2, 1) := by decide +kernel
theorem dX4_decode_6 : decode cX4_decode 6 = .ok (.aload_n 0, 1) := by decide +kernel
theorem dX4_decode_7 : decode cX4_decode 7 = .ok (.getfield 44, 3) := by decide +kernel
theorem dX4_decode_10 : decode cX4_decode 10 = .ok (.invokevirtual 177, 3) := by decide +kernel
theorem dX4_decode_13 : decode cX4_decode 13 = .ok (.iload_n 2, 1) := by decide +kernel
theorem dX4_decode_14 : decode cX4_decode 14 = .ok (.ifCond .lt 10, 3) := by decide +kernel
theorem dX4_decode_17 : decode cX4_decode 17 = .ok (.aload_n 0, 1) := by decide +kernel
theorem dX4_decode_18 : decode cX4_decode 18 = .ok (.getfield 12, 3) := by decide +kernel
theorem dX4_decode_21 : decode cX4_decode 21 = .ok (.invokevirtual 180, 3) := by decide +kernel
theorem dX4_decode_24 : decode cX4_decode 24 = .ok (.iload_n 2, 1) := by decide +kernel
theorem dX4_decode_25 : decode cX4_decode 25 = .ok (.ireturn, 1) := by decide +kernel
theorem dX4_clean_0 : decode cX4_clean 0 = .ok (.aload_n 0, 1) := by decide +kernel
theorem dX4_clean_1 : decode cX4_clean 1 = .ok (.getfield 12, 3) := by decide +kernel
theorem dX4_clean_4 : decode cX4_clean 4 = .ok (.invokevirtual 183, 3) := by decide +kernel
theorem dX4_clean_7 : decode cX4_clean 7 = .ok (.ifCond .ne 13, 3) := by decide +kernel
theorem dX4_clean_10 : decode cX4_clean 10 = .ok (.new 187, 3) := by decide +kernel
theorem dX4_clean_13 : decode cX4_clean 13 = .ok (.dup, 1) := by decide +kernel
theorem dX4_clean_14 : decode cX4_clean 14 = .ok (.ldc 189, 2) := by decide +kernel
theorem dX4_clean_16 : decode cX4_clean 16 = .ok (.invokespecial 191, 3) := by decide +kernel
theorem dX4_clean_19 : decode cX4_clean 19 = .ok (.athrow, 1) := by decide +kernel
theorem dX4_clean_20 : decode cX4_clean 20 = .ok (.aload_n 0, 1) := by decide +kernel
theorem dX4_clean_21 : decode cX4_clean 21 = .ok (.getfield 12, 3) := by decide +kernel
theorem dX4_clean_24 : decode cX4_clean 24 = .ok (.invokevirtual 192, 3) := by decide +kernel
theorem dX4_clean_27 : decode cX4_clean 27 = .ok (.ireturn, 1) := by decide +kernel
theorem dX4_colour_0 : decode cX4_colour 0 = .ok (.iload_n 1, 1) := by decide +kernel
theorem dX4_colour_1 : decode cX4_colour 1 = .ok (.ifCond .lt 9, 3) := by decide +kernel
theorem dX4_colour_4 : decode cX4_colour 4 = .ok (.iload_n 1, 1) := by decide +kernel
theorem dX4_colour_5 : decode cX4_colour 5 = .ok (.ldc 196, 2) := by decide +kernel
theorem dX4_colour_7 : decode cX4_colour 7 = .ok (.if_icmp .le 13, 3) := by decide +kernel
theorem dX4_colour_10 : decode cX4_colour 10 = .ok (.new 72, 3) := by decide +kernel
theorem dX4_colour_13 : decode cX4_colour 13 = .ok (.dup, 1) := by decide +kernel
theorem dX4_colour_14 : decode cX4_colour 14 = .ok (.ldc 197, 2) := by decide +kernel
theorem dX4_colour_16 : decode cX4_colour 16 = .ok (.invokespecial 76, 3) := by decide +kernel
theorem dX4_colour_19 : decode cX4_colour 19 = .ok (.athrow, 1) := by decide +kernel
theorem dX4_colour_20 : decode cX4_colour 20 = .ok (.aload_n 0, 1) := by decide +kernel
theorem dX4_colour_21 : decode cX4_colour 21 = .ok (.getfield 54, 3) := by decide +kernel
theorem dX4_colour_24 : decode cX4_colour 24 = .ok (.getfield 199, 3) := by decide +kernel
theorem dX4_colour_27 : decode cX4_colour 27 = .ok (.bipush 64, 2) := by decide +kernel
theorem dX4_colour_29 : decode cX4_colour 29 = .ok (.if_icmp .lt 13, 3) := by decide +kernel
theorem dX4_colour_32 : decode cX4_colour 32 = .ok (.new 166, 3) := by decide +kernel
theorem dX4_colour_35 : decode cX4_colour 35 = .ok (.dup, 1) := by decide +kernel
theorem dX4_colour_36 : decode cX4_colour 36 = .ok (.ldc 200, 2) := by decide +kernel
theorem dX4_colour_38 : decode cX4_colour 38 = .ok (.invokespecial 170, 3) := by decide +kernel
theorem dX4_colour_41 : decode cX4_colour 41 = .ok (.athrow, 1) := by decide +kernel
theorem dX4_colour_42 : decode cX4_colour 42 = .ok (.aload_n 0, 1) := by decide +kernel
theorem dX4_colour_43 : decode cX4_colour 43 = .ok (.getfield 54, 3) := by decide +kernel
theorem dX4_colour_46 : decode cX4_colour 46 = .ok (.iload_n 1, 1) := by decide +kernel
theorem dX4_colour_47 : decode cX4_colour 47 = .ok (.invokevirtual 202, 3) := by decide +kernel
theorem dX4_colour_50 : decode cX4_colour 50 = .ok (.ireturn, 1) := by decide +kernel
theorem dX4_order_0 : decode cX4_order 0 = .ok (.iload_n 1, 1) := by decide +kernel
theorem dX4_order_1 : decode cX4_order 1 = .ok (.ifCond .lt 14, 3) := by decide +kernel
theorem dX4_order_4 : decode cX4_order 4 = .ok (.iload_n 1, 1) := by decide +kernel
theorem dX4_order_5 : decode cX4_order 5 = .ok (.aload_n 0, 1) := by decide +kernel
theorem dX4_order_6 : decode cX4_order 6 = .ok (.getfield 54, 3) := by decide +kernel
theorem dX4_order_9 : decode cX4_order 9 = .ok (.getfield 199, 3) := by decide +kernel
theorem dX4_order_12 : decode cX4_order 12 = .ok (.if_icmp .lt 13, 3) := by decide +kernel
theorem dX4_order_15 : decode cX4_order 15 = .ok (.new 62, 3) := by decide +kernel
theorem dX4_order_18 : decode cX4_order 18 = .ok (.dup, 1) := by decide +kernel
theorem dX4_order_19 : decode cX4_order 19 = .ok (.ldc 204, 2) := by decide +kernel
theorem dX4_order_21 : decode cX4_order 21 = .ok (.invokespecial 66, 3) := by decide +kernel
theorem dX4_order_24 : decode cX4_order 24 = .ok (.athrow, 1) := by decide +kernel
theorem dX4_order_25 : decode cX4_order 25 = .ok (.aload_n 0, 1) := by decide +kernel
theorem dX4_order_26 : decode cX4_order 26 = .ok (.getfield 54, 3) := by decide +kernel
theorem dX4_order_29 : decode cX4_order 29 = .ok (.iload_n 1, 1) := by decide +kernel
theorem dX4_order_30 : decode cX4_order 30 = .ok (.invokevirtual 206, 3) := by decide +kernel
theorem dX4_order_33 : decode cX4_order 33 = .ok (.ireturn, 1) := by decide +kernel
theorem dX4_told_0 : decode cX4_told 0 = .ok (.iload_n 1, 1) := by decide +kernel
theorem dX4_told_1 : decode cX4_told 1 = .ok (.tableswitch 111 0 7 #[47, 55, 63, 71, 79, 87, 95, 103], 47) := by decide +kernel
theorem dX4_told_48 : decode cX4_told 48 = .ok (.aload_n 0, 1) := by decide +kernel
theorem dX4_told_49 : decode cX4_told 49 = .ok (.getfield 12, 3) := by decide +kernel
theorem dX4_told_52 : decode cX4_told 52 = .ok (.getfield 209, 3) := by decide +kernel
theorem dX4_told_55 : decode cX4_told 55 = .ok (.ireturn, 1) := by decide +kernel
theorem dX4_told_56 : decode cX4_told 56 = .ok (.aload_n 0, 1) := by decide +kernel
theorem dX4_told_57 : decode cX4_told 57 = .ok (.getfield 12, 3) := by decide +kernel
theorem dX4_told_60 : decode cX4_told 60 = .ok (.getfield 212, 3) := by decide +kernel
theorem dX4_told_63 : decode cX4_told 63 = .ok (.ireturn, 1) := by decide +kernel
theorem dX4_told_64 : decode cX4_told 64 = .ok (.aload_n 0, 1) := by decide +kernel
theorem dX4_told_65 : decode cX4_told 65 = .ok (.getfield 12, 3) := by decide +kernel
theorem dX4_told_68 : decode cX4_told 68 = .ok (.getfield 215, 3) := by decide +kernel
theorem dX4_told_71 : decode cX4_told 71 = .ok (.ireturn, 1) := by decide +kernel
theorem dX4_told_72 : decode cX4_told 72 = .ok (.aload_n 0, 1) := by decide +kernel
theorem dX4_told_73 : decode cX4_told 73 = .ok (.getfield 12, 3) := by decide +kernel
theorem dX4_told_76 : decode cX4_told 76 = .ok (.getfield 218, 3) := by decide +kernel
theorem dX4_told_79 : decode cX4_told 79 = .ok (.ireturn, 1) := by decide +kernel
theorem dX4_told_80 : decode cX4_told 80 = .ok (.aload_n 0, 1) := by decide +kernel
theorem dX4_told_81 : decode cX4_told 81 = .ok (.getfield 12, 3) := by decide +kernel
theorem dX4_told_84 : decode cX4_told 84 = .ok (.getfield 24, 3) := by decide +kernel
theorem dX4_told_87 : decode cX4_told 87 = .ok (.ireturn, 1) := by decide +kernel
theorem dX4_told_88 : decode cX4_told 88 = .ok (.aload_n 0, 1) := by decide +kernel
theorem dX4_told_89 : decode cX4_told 89 = .ok (.getfield 40, 3) := by decide +kernel
theorem dX4_told_92 : decode cX4_told 92 = .ok (.getfield 148, 3) := by decide +kernel
theorem dX4_told_95 : decode cX4_told 95 = .ok (.ireturn, 1) := by decide +kernel
theorem dX4_told_96 : decode cX4_told 96 = .ok (.aload_n 0, 1) := by decide +kernel
theorem dX4_told_97 : decode cX4_told 97 = .ok (.getfield 44, 3) := by decide +kernel
theorem dX4_told_100 : decode cX4_told 100 = .ok (.getfield 148, 3) := by decide +kernel
theorem dX4_told_103 : decode cX4_told 103 = .ok (.ireturn, 1) := by decide +kernel
theorem dX4_told_104 : decode cX4_told 104 = .ok (.aload_n 0, 1) := by decide +kernel
theorem dX4_told_105 : decode cX4_told 105 = .ok (.getfield 54, 3) := by decide +kernel
theorem dX4_told_108 : decode cX4_told 108 = .ok (.getfield 199, 3) := by decide +kernel
theorem dX4_told_111 : decode cX4_told 111 = .ok (.ireturn, 1) := by decide +kernel
theorem dX4_told_112 : decode cX4_told 112 = .ok (.iconst (-1), 1) := by decide +kernel
theorem dX4_told_113 : decode cX4_told 113 = .ok (.ireturn, 1) := by decide +kernel
theorem dX4_clear_0 : decode cX4_clear 0 = .ok (.aload_n 0, 1) := by decide +kernel
theorem dX4_clear_1 : decode cX4_clear 1 = .ok (.getfield 12, 3) := by decide +kernel
theorem dX4_clear_4 : decode cX4_clear 4 = .ok (.invokevirtual 221, 3) := by decide +kernel
theorem dX4_clear_7 : decode cX4_clear 7 = .ok (.aload_n 0, 1) := by decide +kernel
theorem dX4_clear_8 : decode cX4_clear 8 = .ok (.invokevirtual 131, 3) := by decide +kernel
theorem dX4_clear_11 : decode cX4_clear 11 = .ok (.aload_n 0, 1) := by decide +kernel
theorem dX4_clear_12 : decode cX4_clear 12 = .ok (.getfield 44, 3) := by decide +kernel
theorem dX4_clear_15 : decode cX4_clear 15 = .ok (.invokevirtual 177, 3) := by decide +kernel
theorem dX4_clear_18 : decode cX4_clear 18 = .ok (.aload_n 0, 1) := by decide +kernel
theorem dX4_clear_19 : decode cX4_clear 19 = .ok (.getfield 54, 3) := by decide +kernel
theorem dX4_clear_22 : decode cX4_clear 22 = .ok (.invokevirtual 224, 3) := by decide +kernel
theorem dX4_clear_25 : decode cX4_clear 25 = .ok (.return_, 1) := by decide +kernel
theorem dX4_isPass_0 : decode cX4_isPass 0 = .ok (.iload_n 0, 1) := by decide +kernel
theorem dX4_isPass_1 : decode cX4_isPass 1 = .ok (.ifCond .lt 13, 3) := by decide +kernel
theorem dX4_isPass_4 : decode cX4_isPass 4 = .ok (.iload_n 0, 1) := by decide +kernel
theorem dX4_isPass_5 : decode cX4_isPass 5 = .ok (.bipush 7, 2) := by decide +kernel
theorem dX4_isPass_7 : decode cX4_isPass 7 = .ok (.if_icmp .gt 7, 3) := by decide +kernel
theorem dX4_isPass_10 : decode cX4_isPass 10 = .ok (.iconst 1, 1) := by decide +kernel
theorem dX4_isPass_11 : decode cX4_isPass 11 = .ok (.goto 4, 3) := by decide +kernel
theorem dX4_isPass_14 : decode cX4_isPass 14 = .ok (.iconst 0, 1) := by decide +kernel
theorem dX4_isPass_15 : decode cX4_isPass 15 = .ok (.ireturn, 1) := by decide +kernel
theorem dX4_isKind_0 : decode cX4_isKind 0 = .ok (.iload_n 0, 1) := by decide +kernel
theorem dX4_isKind_1 : decode cX4_isKind 1 = .ok (.ifCond .lt 12, 3) := by decide +kernel
theorem dX4_isKind_4 : decode cX4_isKind 4 = .ok (.iload_n 0, 1) := by decide +kernel
theorem dX4_isKind_5 : decode cX4_isKind 5 = .ok (.iconst 4, 1) := by decide +kernel
theorem dX4_isKind_6 : decode cX4_isKind 6 = .ok (.if_icmp .gt 7, 3) := by decide +kernel
theorem dX4_isKind_9 : decode cX4_isKind 9 = .ok (.iconst 1, 1) := by decide +kernel
theorem dX4_isKind_10 : decode cX4_isKind 10 = .ok (.goto 4, 3) := by decide +kernel
theorem dX4_isKind_13 : decode cX4_isKind 13 = .ok (.iconst 0, 1) := by decide +kernel
theorem dX4_isKind_14 : decode cX4_isKind 14 = .ok (.ireturn, 1) := by decide +kernel
theorem dX4_firstPass_0 : decode cX4_firstPass 0 = .ok (.iload_n 0, 1) := by decide +kernel
theorem dX4_firstPass_1 : decode cX4_firstPass 1 = .ok (.ifCond .eq 7, 3) := by decide +kernel
theorem dX4_firstPass_4 : decode cX4_firstPass 4 = .ok (.iconst 1, 1) := by decide +kernel
theorem dX4_firstPass_5 : decode cX4_firstPass 5 = .ok (.goto 4, 3) := by decide +kernel
theorem dX4_firstPass_8 : decode cX4_firstPass 8 = .ok (.iconst 0, 1) := by decide +kernel
theorem dX4_firstPass_9 : decode cX4_firstPass 9 = .ok (.ireturn, 1) := by decide +kernel
theorem dX4_lastPass_0 : decode cX4_lastPass 0 = .ok (.iload_n 0, 1) := by decide +kernel
theorem dX4_lastPass_1 : decode cX4_lastPass 1 = .ok (.ifCond .eq 8, 3) := by decide +kernel
theorem dX4_lastPass_4 : decode cX4_lastPass 4 = .ok (.bipush 7, 2) := by decide +kernel
theorem dX4_lastPass_6 : decode cX4_lastPass 6 = .ok (.goto 4, 3) := by decide +kernel
theorem dX4_lastPass_9 : decode cX4_lastPass 9 = .ok (.iconst 0, 1) := by decide +kernel
theorem dX4_lastPass_10 : decode cX4_lastPass 10 = .ok (.ireturn, 1) := by decide +kernel
theorem dX4_forgetEncoded_0 : decode cX4_forgetEncoded 0 = .ok (.aload_n 0, 1) := by decide +kernel
theorem dX4_forgetEncoded_1 : decode cX4_forgetEncoded 1 = .ok (.getfield 40, 3) := by decide +kernel
theorem dX4_forgetEncoded_4 : decode cX4_forgetEncoded 4 = .ok (.invokevirtual 177, 3) := by decide +kernel
theorem dX4_forgetEncoded_7 : decode cX4_forgetEncoded 7 = .ok (.aload_n 0, 1) := by decide +kernel
theorem dX4_forgetEncoded_8 : decode cX4_forgetEncoded 8 = .ok (.getfield 47, 3) := by decide +kernel
theorem dX4_forgetEncoded_11 : decode cX4_forgetEncoded 11 = .ok (.iconst 0, 1) := by decide +kernel
theorem dX4_forgetEncoded_12 : decode cX4_forgetEncoded 12 = .ok (.invokestatic 225, 3) := by decide +kernel
theorem dX4_forgetEncoded_15 : decode cX4_forgetEncoded 15 = .ok (.return_, 1) := by decide +kernel
theorem dX4_appendLine_0 : decode cX4_appendLine 0 = .ok (.iload_n 1, 1) := by decide +kernel
theorem dX4_appendLine_1 : decode cX4_appendLine 1 = .ok (.invokestatic 101, 3) := by decide +kernel
theorem dX4_appendLine_4 : decode cX4_appendLine 4 = .ok (.ifCond .eq 13, 3) := by decide +kernel
theorem dX4_appendLine_7 : decode cX4_appendLine 7 = .ok (.aload_n 0, 1) := by decide +kernel
theorem dX4_appendLine_8 : decode cX4_appendLine 8 = .ok (.getfield 47, 3) := by decide +kernel
theorem dX4_appendLine_11 : decode cX4_appendLine 11 = .ok (.iload_n 1, 1) := by decide +kernel
theorem dX4_appendLine_12 : decode cX4_appendLine 12 = .ok (.dup2, 1) := by decide +kernel
theorem dX4_appendLine_13 : decode cX4_appendLine 13 = .ok (.iaload, 1) := by decide +kernel
theorem dX4_appendLine_14 : decode cX4_appendLine 14 = .ok (.iconst 1, 1) := by decide +kernel
theorem dX4_appendLine_15 : decode cX4_appendLine 15 = .ok (.iadd, 1) := by decide +kernel
theorem dX4_appendLine_16 : decode cX4_appendLine 16 = .ok (.iastore, 1) := by decide +kernel
theorem dX4_appendLine_17 : decode cX4_appendLine 17 = .ok (.aload_n 0, 1) := by decide +kernel
theorem dX4_appendLine_18 : decode cX4_appendLine 18 = .ok (.getfield 31, 3) := by decide +kernel
theorem dX4_appendLine_21 : decode cX4_appendLine 21 = .ok (.iload_n 1, 1) := by decide +kernel
theorem dX4_appendLine_22 : decode cX4_appendLine 22 = .ok (.invokevirtual 116, 3) := by decide +kernel
theorem dX4_appendLine_25 : decode cX4_appendLine 25 = .ok (.aload_n 0, 1) := by decide +kernel
theorem dX4_appendLine_26 : decode cX4_appendLine 26 = .ok (.getfield 40, 3) := by decide +kernel
theorem dX4_appendLine_29 : decode cX4_appendLine 29 = .ok (.iload_n 1, 1) := by decide +kernel
theorem dX4_appendLine_30 : decode cX4_appendLine 30 = .ok (.invokevirtual 171, 3) := by decide +kernel
theorem dX4_appendLine_33 : decode cX4_appendLine 33 = .ok (.iconst 0, 1) := by decide +kernel
theorem dX4_appendLine_34 : decode cX4_appendLine 34 = .ok (.istore_n 2, 1) := by decide +kernel
theorem dX4_appendLine_35 : decode cX4_appendLine 35 = .ok (.iload_n 2, 1) := by decide +kernel
theorem dX4_appendLine_36 : decode cX4_appendLine 36 = .ok (.aload_n 0, 1) := by decide +kernel
theorem dX4_appendLine_37 : decode cX4_appendLine 37 = .ok (.getfield 31, 3) := by decide +kernel
theorem dX4_appendLine_40 : decode cX4_appendLine 40 = .ok (.getfield 231, 3) := by decide +kernel
theorem dX4_appendLine_43 : decode cX4_appendLine 43 = .ok (.if_icmp .ge 25, 3) := by decide +kernel
theorem dX4_appendLine_46 : decode cX4_appendLine 46 = .ok (.aload_n 0, 1) := by decide +kernel
theorem dX4_appendLine_47 : decode cX4_appendLine 47 = .ok (.getfield 40, 3) := by decide +kernel
theorem dX4_appendLine_50 : decode cX4_appendLine 50 = .ok (.aload_n 0, 1) := by decide +kernel
theorem dX4_appendLine_51 : decode cX4_appendLine 51 = .ok (.getfield 31, 3) := by decide +kernel
theorem dX4_appendLine_54 : decode cX4_appendLine 54 = .ok (.getfield 119, 3) := by decide +kernel
theorem dX4_appendLine_57 : decode cX4_appendLine 57 = .ok (.iload_n 2, 1) := by decide +kernel
theorem dX4_appendLine_58 : decode cX4_appendLine 58 = .ok (.iaload, 1) := by decide +kernel
theorem dX4_appendLine_59 : decode cX4_appendLine 59 = .ok (.invokevirtual 171, 3) := by decide +kernel
theorem dX4_appendLine_62 : decode cX4_appendLine 62 = .ok (.iinc 2 1, 3) := by decide +kernel
theorem dX4_appendLine_65 : decode cX4_appendLine 65 = .ok (.goto (-30), 3) := by decide +kernel
theorem dX4_appendLine_68 : decode cX4_appendLine 68 = .ok (.return_, 1) := by decide +kernel
theorem dX4_readDraft_0 : decode cX4_readDraft 0 = .ok (.iconst 0, 1) := by decide +kernel
theorem dX4_readDraft_1 : decode cX4_readDraft 1 = .ok (.istore_n 2, 1) := by decide +kernel
theorem dX4_readDraft_2 : decode cX4_readDraft 2 = .ok (.iconst 0, 1) := by decide +kernel
theorem dX4_readDraft_3 : decode cX4_readDraft 3 = .ok (.istore_n 3, 1) := by decide +kernel
theorem dX4_readDraft_4 : decode cX4_readDraft 4 = .ok (.iload_n 1, 1) := by decide +kernel
theorem dX4_readDraft_5 : decode cX4_readDraft 5 = .ok (.invokestatic 134, 3) := by decide +kernel
theorem dX4_readDraft_8 : decode cX4_readDraft 8 = .ok (.istore 4, 2) := by decide +kernel
theorem dX4_readDraft_10 : decode cX4_readDraft 10 = .ok (.iload 4, 2) := by decide +kernel
theorem dX4_readDraft_12 : decode cX4_readDraft 12 = .ok (.iload_n 1, 1) := by decide +kernel
theorem dX4_readDraft_13 : decode cX4_readDraft 13 = .ok (.invokestatic 138, 3) := by decide +kernel
theorem dX4_readDraft_16 : decode cX4_readDraft 16 = .ok (.if_icmp .gt 151, 3) := by decide +kernel
theorem dX4_readDraft_19 : decode cX4_readDraft 19 = .ok (.aload_n 0, 1) := by decide +kernel
theorem dX4_readDraft_20 : decode cX4_readDraft 20 = .ok (.getfield 31, 3) := by decide +kernel
theorem dX4_readDraft_23 : decode cX4_readDraft 23 = .ok (.aload_n 0, 1) := by decide +kernel
theorem dX4_readDraft_24 : decode cX4_readDraft 24 = .ok (.getfield 12, 3) := by decide +kernel
theorem dX4_readDraft_27 : decode cX4_readDraft 27 = .ok (.iload 4, 2) := by decide +kernel
theorem dX4_readDraft_29 : decode cX4_readDraft 29 = .ok (.invokevirtual 20, 3) := by decide +kernel
theorem dX4_readDraft_32 : decode cX4_readDraft 32 = .ok (.invokevirtual 234, 3) := by decide +kernel
theorem dX4_readDraft_35 : decode cX4_readDraft 35 = .ok (.iconst 0, 1) := by decide +kernel
theorem dX4_readDraft_36 : decode cX4_readDraft 36 = .ok (.istore 5, 2) := by decide +kernel
theorem dX4_readDraft_38 : decode cX4_readDraft 38 = .ok (.iload 5, 2) := by decide +kernel
theorem dX4_readDraft_40 : decode cX4_readDraft 40 = .ok (.aload_n 0, 1) := by decide +kernel
theorem dX4_readDraft_41 : decode cX4_readDraft 41 = .ok (.getfield 12, 3) := by decide +kernel
theorem dX4_readDraft_44 : decode cX4_readDraft 44 = .ok (.iload 4, 2) := by decide +kernel
theorem dX4_readDraft_46 : decode cX4_readDraft 46 = .ok (.invokevirtual 95, 3) := by decide +kernel
theorem dX4_readDraft_49 : decode cX4_readDraft 49 = .ok (.if_icmp .ge 112, 3) := by decide +kernel
theorem dX4_readDraft_52 : decode cX4_readDraft 52 = .ok (.aload_n 0, 1) := by decide +kernel
theorem dX4_readDraft_53 : decode cX4_readDraft 53 = .ok (.getfield 44, 3) := by decide +kernel
theorem dX4_readDraft_56 : decode cX4_readDraft 56 = .ok (.iload_n 2, 1) := by decide +kernel
theorem dX4_readDraft_57 : decode cX4_readDraft 57 = .ok (.invokevirtual 151, 3) := by decide +kernel
theorem dX4_readDraft_60 : decode cX4_readDraft 60 = .ok (.ifCond .eq 17, 3) := by decide +kernel
theorem dX4_readDraft_63 : decode cX4_readDraft 63 = .ok (.aload_n 0, 1) := by decide +kernel
theorem dX4_readDraft_64 : decode cX4_readDraft 64 = .ok (.getfield 44, 3) := by decide +kernel
theorem dX4_readDraft_67 : decode cX4_readDraft 67 = .ok (.iload_n 2, 1) := by decide +kernel
theorem dX4_readDraft_68 : decode cX4_readDraft 68 = .ok (.invokevirtual 156, 3) := by decide +kernel
theorem dX4_readDraft_71 : decode cX4_readDraft 71 = .ok (.invokestatic 101, 3) := by decide +kernel
theorem dX4_readDraft_74 : decode cX4_readDraft 74 = .ok (.ifCond .ne 7, 3) := by decide +kernel
theorem dX4_readDraft_77 : decode cX4_readDraft 77 = .ok (.iconst (-1), 1) := by decide +kernel
theorem dX4_readDraft_78 : decode cX4_readDraft 78 = .ok (.iload_n 2, 1) := by decide +kernel
theorem dX4_readDraft_79 : decode cX4_readDraft 79 = .ok (.isub, 1) := by decide +kernel
theorem dX4_readDraft_80 : decode cX4_readDraft 80 = .ok (.ireturn, 1) := by decide +kernel
theorem dX4_readDraft_81 : decode cX4_readDraft 81 = .ok (.aload_n 0, 1) := by decide +kernel
theorem dX4_readDraft_82 : decode cX4_readDraft 82 = .ok (.getfield 44, 3) := by decide +kernel
theorem dX4_readDraft_85 : decode cX4_readDraft 85 = .ok (.getfield 148, 3) := by decide +kernel
theorem dX4_readDraft_88 : decode cX4_readDraft 88 = .ok (.iload_n 2, 1) := by decide +kernel
theorem dX4_readDraft_89 : decode cX4_readDraft 89 = .ok (.isub, 1) := by decide +kernel
theorem dX4_readDraft_90 : decode cX4_readDraft 90 = .ok (.aload_n 0, 1) := by decide +kernel
theorem dX4_readDraft_91 : decode cX4_readDraft 91 = .ok (.getfield 31, 3) := by decide +kernel
theorem dX4_readDraft_94 : decode cX4_readDraft 94 = .ok (.getfield 231, 3) := by decide +kernel
theorem dX4_readDraft_97 : decode cX4_readDraft 97 = .ok (.if_icmp .gt 13, 3) := by decide +kernel
theorem dX4_readDraft_100 : decode cX4_readDraft 100 = .ok (.iconst (-1), 1) := by decide +kernel
theorem dX4_readDraft_101 : decode cX4_readDraft 101 = .ok (.aload_n 0, 1) := by decide +kernel
theorem dX4_readDraft_102 : decode cX4_readDraft 102 = .ok (.getfield 44, 3) := by decide +kernel
theorem dX4_readDraft_105 : decode cX4_readDraft 105 = .ok (.getfield 148, 3) := by decide +kernel
theorem dX4_readDraft_108 : decode cX4_readDraft 108 = .ok (.isub, 1) := by decide +kernel
theorem dX4_readDraft_109 : decode cX4_readDraft 109 = .ok (.ireturn, 1) := by decide +kernel
theorem dX4_readDraft_110 : decode cX4_readDraft 110 = .ok (.aload_n 0, 1) := by decide +kernel
theorem dX4_readDraft_111 : decode cX4_readDraft 111 = .ok (.getfield 31, 3) := by decide +kernel
theorem dX4_readDraft_114 : decode cX4_readDraft 114 = .ok (.aload_n 0, 1) := by decide +kernel
theorem dX4_readDraft_115 : decode cX4_readDraft 115 = .ok (.getfield 44, 3) := by decide +kernel
theorem dX4_readDraft_118 : decode cX4_readDraft 118 = .ok (.iload_n 2, 1) := by decide +kernel
theorem dX4_readDraft_119 : decode cX4_readDraft 119 = .ok (.invokevirtual 237, 3) := by decide +kernel
theorem dX4_readDraft_122 : decode cX4_readDraft 122 = .ok (.aload_n 0, 1) := by decide +kernel
theorem dX4_readDraft_123 : decode cX4_readDraft 123 = .ok (.getfield 12, 3) := by decide +kernel
theorem dX4_readDraft_126 : decode cX4_readDraft 126 = .ok (.iload 4, 2) := by decide +kernel
theorem dX4_readDraft_128 : decode cX4_readDraft 128 = .ok (.iload 5, 2) := by decide +kernel
theorem dX4_readDraft_130 : decode cX4_readDraft 130 = .ok (.aload_n 0, 1) := by decide +kernel
theorem dX4_readDraft_131 : decode cX4_readDraft 131 = .ok (.getfield 31, 3) := by decide +kernel
theorem dX4_readDraft_134 : decode cX4_readDraft 134 = .ok (.getfield 241, 3) := by decide +kernel
theorem dX4_readDraft_137 : decode cX4_readDraft 137 = .ok (.invokevirtual 244, 3) := by decide +kernel
theorem dX4_readDraft_140 : decode cX4_readDraft 140 = .ok (.iload_n 2, 1) := by decide +kernel
theorem dX4_readDraft_141 : decode cX4_readDraft 141 = .ok (.iconst 1, 1) := by decide +kernel
theorem dX4_readDraft_142 : decode cX4_readDraft 142 = .ok (.aload_n 0, 1) := by decide +kernel
theorem dX4_readDraft_143 : decode cX4_readDraft 143 = .ok (.getfield 31, 3) := by decide +kernel
theorem dX4_readDraft_146 : decode cX4_readDraft 146 = .ok (.getfield 231, 3) := by decide +kernel
theorem dX4_readDraft_149 : decode cX4_readDraft 149 = .ok (.iadd, 1) := by decide +kernel
theorem dX4_readDraft_150 : decode cX4_readDraft 150 = .ok (.iadd, 1) := by decide +kernel
theorem dX4_readDraft_151 : decode cX4_readDraft 151 = .ok (.istore_n 2, 1) := by decide +kernel
theorem dX4_readDraft_152 : decode cX4_readDraft 152 = .ok (.iinc 3 1, 3) := by decide +kernel
theorem dX4_readDraft_155 : decode cX4_readDraft 155 = .ok (.iinc 5 1, 3) := by decide +kernel
theorem dX4_readDraft_158 : decode cX4_readDraft 158 = .ok (.goto (-120), 3) := by decide +kernel
theorem dX4_readDraft_161 : decode cX4_readDraft 161 = .ok (.iinc 4 1, 3) := by decide +kernel
theorem dX4_readDraft_164 : decode cX4_readDraft 164 = .ok (.goto (-154), 3) := by decide +kernel
theorem dX4_readDraft_167 : decode cX4_readDraft 167 = .ok (.aload_n 0, 1) := by decide +kernel
theorem dX4_readDraft_168 : decode cX4_readDraft 168 = .ok (.getfield 44, 3) := by decide +kernel
theorem dX4_readDraft_171 : decode cX4_readDraft 171 = .ok (.iload_n 2, 1) := by decide +kernel
theorem dX4_readDraft_172 : decode cX4_readDraft 172 = .ok (.invokevirtual 151, 3) := by decide +kernel
theorem dX4_readDraft_175 : decode cX4_readDraft 175 = .ok (.ifCond .eq 9, 3) := by decide +kernel
theorem dX4_readDraft_178 : decode cX4_readDraft 178 = .ok (.iconst (-1), 1) := by decide +kernel
theorem dX4_readDraft_179 : decode cX4_readDraft 179 = .ok (.iload_n 2, 1) := by decide +kernel
theorem dX4_readDraft_180 : decode cX4_readDraft 180 = .ok (.isub, 1) := by decide +kernel
theorem dX4_readDraft_181 : decode cX4_readDraft 181 = .ok (.goto 4, 3) := by decide +kernel
theorem dX4_readDraft_184 : decode cX4_readDraft 184 = .ok (.iload_n 3, 1) := by decide +kernel
theorem dX4_readDraft_185 : decode cX4_readDraft 185 = .ok (.ireturn, 1) := by decide +kernel
