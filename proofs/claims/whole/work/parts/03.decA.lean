theorem dX0_init_0 : decode cX0_init 0 = .ok (.aload_n 0, 1) := by decide +kernel
theorem dX0_init_1 : decode cX0_init 1 = .ok (.invokespecial 1, 3) := by decide +kernel
theorem dX0_init_4 : decode cX0_init 4 = .ok (.aload_n 0, 1) := by decide +kernel
theorem dX0_init_5 : decode cX0_init 5 = .ok (.iconst 0, 1) := by decide +kernel
theorem dX0_init_6 : decode cX0_init 6 = .ok (.iload_n 1, 1) := by decide +kernel
theorem dX0_init_7 : decode cX0_init 7 = .ok (.invokestatic 7, 3) := by decide +kernel
theorem dX0_init_10 : decode cX0_init 10 = .ok (.newarray .int, 2) := by decide +kernel
theorem dX0_init_12 : decode cX0_init 12 = .ok (.putfield 13, 3) := by decide +kernel
theorem dX0_init_15 : decode cX0_init 15 = .ok (.return_, 1) := by decide +kernel
theorem dX0_hasRoom_0 : decode cX0_hasRoom 0 = .ok (.iload_n 1, 1) := by decide +kernel
theorem dX0_hasRoom_1 : decode cX0_hasRoom 1 = .ok (.aload_n 0, 1) := by decide +kernel
theorem dX0_hasRoom_2 : decode cX0_hasRoom 2 = .ok (.getfield 13, 3) := by decide +kernel
theorem dX0_hasRoom_5 : decode cX0_hasRoom 5 = .ok (.arraylength, 1) := by decide +kernel
theorem dX0_hasRoom_6 : decode cX0_hasRoom 6 = .ok (.aload_n 0, 1) := by decide +kernel
theorem dX0_hasRoom_7 : decode cX0_hasRoom 7 = .ok (.getfield 19, 3) := by decide +kernel
theorem dX0_hasRoom_10 : decode cX0_hasRoom 10 = .ok (.isub, 1) := by decide +kernel
theorem dX0_hasRoom_11 : decode cX0_hasRoom 11 = .ok (.if_icmp .gt 7, 3) := by decide +kernel
theorem dX0_hasRoom_14 : decode cX0_hasRoom 14 = .ok (.iconst 1, 1) := by decide +kernel
theorem dX0_hasRoom_15 : decode cX0_hasRoom 15 = .ok (.goto 4, 3) := by decide +kernel
theorem dX0_hasRoom_18 : decode cX0_hasRoom 18 = .ok (.iconst 0, 1) := by decide +kernel
theorem dX0_hasRoom_19 : decode cX0_hasRoom 19 = .ok (.ireturn, 1) := by decide +kernel
theorem dX0_hasByte_0 : decode cX0_hasByte 0 = .ok (.iload_n 1, 1) := by decide +kernel
theorem dX0_hasByte_1 : decode cX0_hasByte 1 = .ok (.ifCond .lt 15, 3) := by decide +kernel
theorem dX0_hasByte_4 : decode cX0_hasByte 4 = .ok (.iload_n 1, 1) := by decide +kernel
theorem dX0_hasByte_5 : decode cX0_hasByte 5 = .ok (.aload_n 0, 1) := by decide +kernel
theorem dX0_hasByte_6 : decode cX0_hasByte 6 = .ok (.getfield 19, 3) := by decide +kernel
theorem dX0_hasByte_9 : decode cX0_hasByte 9 = .ok (.if_icmp .ge 7, 3) := by decide +kernel
theorem dX0_hasByte_12 : decode cX0_hasByte 12 = .ok (.iconst 1, 1) := by decide +kernel
theorem dX0_hasByte_13 : decode cX0_hasByte 13 = .ok (.goto 4, 3) := by decide +kernel
theorem dX0_hasByte_16 : decode cX0_hasByte 16 = .ok (.iconst 0, 1) := by decide +kernel
theorem dX0_hasByte_17 : decode cX0_hasByte 17 = .ok (.ireturn, 1) := by decide +kernel
theorem dX0_byteOf_0 : decode cX0_byteOf 0 = .ok (.aload_n 0, 1) := by decide +kernel
theorem dX0_byteOf_1 : decode cX0_byteOf 1 = .ok (.iload_n 1, 1) := by decide +kernel
theorem dX0_byteOf_2 : decode cX0_byteOf 2 = .ok (.invokevirtual 23, 3) := by decide +kernel
theorem dX0_byteOf_5 : decode cX0_byteOf 5 = .ok (.ifCond .eq 12, 3) := by decide +kernel
theorem dX0_byteOf_8 : decode cX0_byteOf 8 = .ok (.aload_n 0, 1) := by decide +kernel
theorem dX0_byteOf_9 : decode cX0_byteOf 9 = .ok (.getfield 13, 3) := by decide +kernel
theorem dX0_byteOf_12 : decode cX0_byteOf 12 = .ok (.iload_n 1, 1) := by decide +kernel
theorem dX0_byteOf_13 : decode cX0_byteOf 13 = .ok (.iaload, 1) := by decide +kernel
theorem dX0_byteOf_14 : decode cX0_byteOf 14 = .ok (.goto 4, 3) := by decide +kernel
theorem dX0_byteOf_17 : decode cX0_byteOf 17 = .ok (.iconst 0, 1) := by decide +kernel
theorem dX0_byteOf_18 : decode cX0_byteOf 18 = .ok (.ireturn, 1) := by decide +kernel
theorem dX0_append_0 : decode cX0_append 0 = .ok (.aload_n 0, 1) := by decide +kernel
theorem dX0_append_1 : decode cX0_append 1 = .ok (.getfield 19, 3) := by decide +kernel
theorem dX0_append_4 : decode cX0_append 4 = .ok (.aload_n 0, 1) := by decide +kernel
theorem dX0_append_5 : decode cX0_append 5 = .ok (.getfield 13, 3) := by decide +kernel
theorem dX0_append_8 : decode cX0_append 8 = .ok (.arraylength, 1) := by decide +kernel
theorem dX0_append_9 : decode cX0_append 9 = .ok (.if_icmp .ge 23, 3) := by decide +kernel
theorem dX0_append_12 : decode cX0_append 12 = .ok (.aload_n 0, 1) := by decide +kernel
theorem dX0_append_13 : decode cX0_append 13 = .ok (.getfield 13, 3) := by decide +kernel
theorem dX0_append_16 : decode cX0_append 16 = .ok (.aload_n 0, 1) := by decide +kernel
theorem dX0_append_17 : decode cX0_append 17 = .ok (.getfield 19, 3) := by decide +kernel
theorem dX0_append_20 : decode cX0_append 20 = .ok (.iload_n 1, 1) := by decide +kernel
theorem dX0_append_21 : decode cX0_append 21 = .ok (.iastore, 1) := by decide +kernel
theorem dX0_append_22 : decode cX0_append 22 = .ok (.aload_n 0, 1) := by decide +kernel
theorem dX0_append_23 : decode cX0_append 23 = .ok (.dup, 1) := by decide +kernel
theorem dX0_append_24 : decode cX0_append 24 = .ok (.getfield 19, 3) := by decide +kernel
theorem dX0_append_27 : decode cX0_append 27 = .ok (.iconst 1, 1) := by decide +kernel
theorem dX0_append_28 : decode cX0_append 28 = .ok (.iadd, 1) := by decide +kernel
theorem dX0_append_29 : decode cX0_append 29 = .ok (.putfield 19, 3) := by decide +kernel
theorem dX0_append_32 : decode cX0_append 32 = .ok (.return_, 1) := by decide +kernel
theorem dX0_drop_0 : decode cX0_drop 0 = .ok (.aload_n 0, 1) := by decide +kernel
theorem dX0_drop_1 : decode cX0_drop 1 = .ok (.iconst 0, 1) := by decide +kernel
theorem dX0_drop_2 : decode cX0_drop 2 = .ok (.putfield 19, 3) := by decide +kernel
theorem dX0_drop_5 : decode cX0_drop 5 = .ok (.return_, 1) := by decide +kernel
theorem dX1_init_0 : decode cX1_init 0 = .ok (.aload_n 0, 1) := by decide +kernel
theorem dX1_init_1 : decode cX1_init 1 = .ok (.invokespecial 3, 3) := by decide +kernel
theorem dX1_init_4 : decode cX1_init 4 = .ok (.aload_n 0, 1) := by decide +kernel
theorem dX1_init_5 : decode cX1_init 5 = .ok (.bipush 64, 2) := by decide +kernel
theorem dX1_init_7 : decode cX1_init 7 = .ok (.newarray .int, 2) := by decide +kernel
theorem dX1_init_9 : decode cX1_init 9 = .ok (.putfield 9, 3) := by decide +kernel
theorem dX1_init_12 : decode cX1_init 12 = .ok (.aload_n 0, 1) := by decide +kernel
theorem dX1_init_13 : decode cX1_init 13 = .ok (.bipush 64, 2) := by decide +kernel
theorem dX1_init_15 : decode cX1_init 15 = .ok (.newarray .int, 2) := by decide +kernel
theorem dX1_init_17 : decode cX1_init 17 = .ok (.putfield 15, 3) := by decide +kernel
theorem dX1_init_20 : decode cX1_init 20 = .ok (.aload_n 0, 1) := by decide +kernel
theorem dX1_init_21 : decode cX1_init 21 = .ok (.bipush 64, 2) := by decide +kernel
theorem dX1_init_23 : decode cX1_init 23 = .ok (.newarray .boolean, 2) := by decide +kernel
theorem dX1_init_25 : decode cX1_init 25 = .ok (.putfield 18, 3) := by decide +kernel
theorem dX1_init_28 : decode cX1_init 28 = .ok (.return_, 1) := by decide +kernel
theorem dX1_append_0 : decode cX1_append 0 = .ok (.aload_n 0, 1) := by decide +kernel
theorem dX1_append_1 : decode cX1_append 1 = .ok (.getfield 22, 3) := by decide +kernel
theorem dX1_append_4 : decode cX1_append 4 = .ok (.aload_n 0, 1) := by decide +kernel
theorem dX1_append_5 : decode cX1_append 5 = .ok (.getfield 9, 3) := by decide +kernel
theorem dX1_append_8 : decode cX1_append 8 = .ok (.arraylength, 1) := by decide +kernel
theorem dX1_append_9 : decode cX1_append 9 = .ok (.if_icmp .ge 23, 3) := by decide +kernel
theorem dX1_append_12 : decode cX1_append 12 = .ok (.aload_n 0, 1) := by decide +kernel
theorem dX1_append_13 : decode cX1_append 13 = .ok (.getfield 9, 3) := by decide +kernel
theorem dX1_append_16 : decode cX1_append 16 = .ok (.aload_n 0, 1) := by decide +kernel
theorem dX1_append_17 : decode cX1_append 17 = .ok (.getfield 22, 3) := by decide +kernel
theorem dX1_append_20 : decode cX1_append 20 = .ok (.iload_n 1, 1) := by decide +kernel
theorem dX1_append_21 : decode cX1_append 21 = .ok (.iastore, 1) := by decide +kernel
theorem dX1_append_22 : decode cX1_append 22 = .ok (.aload_n 0, 1) := by decide +kernel
theorem dX1_append_23 : decode cX1_append 23 = .ok (.dup, 1) := by decide +kernel
theorem dX1_append_24 : decode cX1_append 24 = .ok (.getfield 22, 3) := by decide +kernel
theorem dX1_append_27 : decode cX1_append 27 = .ok (.iconst 1, 1) := by decide +kernel
theorem dX1_append_28 : decode cX1_append 28 = .ok (.iadd, 1) := by decide +kernel
theorem dX1_append_29 : decode cX1_append 29 = .ok (.putfield 22, 3) := by decide +kernel
theorem dX1_append_32 : decode cX1_append 32 = .ok (.aload_n 0, 1) := by decide +kernel
theorem dX1_append_33 : decode cX1_append 33 = .ok (.invokevirtual 26, 3) := by decide +kernel
theorem dX1_append_36 : decode cX1_append 36 = .ok (.aload_n 0, 1) := by decide +kernel
theorem dX1_append_37 : decode cX1_append 37 = .ok (.getfield 22, 3) := by decide +kernel
theorem dX1_append_40 : decode cX1_append 40 = .ok (.iconst 1, 1) := by decide +kernel
theorem dX1_append_41 : decode cX1_append 41 = .ok (.isub, 1) := by decide +kernel
theorem dX1_append_42 : decode cX1_append 42 = .ok (.ireturn, 1) := by decide +kernel
theorem dX1_drop_0 : decode cX1_drop 0 = .ok (.aload_n 0, 1) := by decide +kernel
theorem dX1_drop_1 : decode cX1_drop 1 = .ok (.iconst 0, 1) := by decide +kernel
theorem dX1_drop_2 : decode cX1_drop 2 = .ok (.putfield 22, 3) := by decide +kernel
theorem dX1_drop_5 : decode cX1_drop 5 = .ok (.aload_n 0, 1) := by decide +kernel
theorem dX1_drop_6 : decode cX1_drop 6 = .ok (.invokevirtual 26, 3) := by decide +kernel
theorem dX1_drop_9 : decode cX1_drop 9 = .ok (.return_, 1) := by decide +kernel
theorem dX1_numberAt_0 : decode cX1_numberAt 0 = .ok (.iload_n 1, 1) := by decide +kernel
theorem dX1_numberAt_1 : decode cX1_numberAt 1 = .ok (.ifCond .lt 11, 3) := by decide +kernel
theorem dX1_numberAt_4 : decode cX1_numberAt 4 = .ok (.iload_n 1, 1) := by decide +kernel
theorem dX1_numberAt_5 : decode cX1_numberAt 5 = .ok (.aload_n 0, 1) := by decide +kernel
theorem dX1_numberAt_6 : decode cX1_numberAt 6 = .ok (.getfield 22, 3) := by decide +kernel
theorem dX1_numberAt_9 : decode cX1_numberAt 9 = .ok (.if_icmp .lt 5, 3) := by decide +kernel
theorem dX1_numberAt_12 : decode cX1_numberAt 12 = .ok (.iconst (-1), 1) := by decide +kernel
theorem dX1_numberAt_13 : decode cX1_numberAt 13 = .ok (.ireturn, 1) := by decide +kernel
theorem dX1_numberAt_14 : decode cX1_numberAt 14 = .ok (.aload_n 0, 1) := by decide +kernel
theorem dX1_numberAt_15 : decode cX1_numberAt 15 = .ok (.getfield 29, 3) := by decide +kernel
theorem dX1_numberAt_18 : decode cX1_numberAt 18 = .ok (.istore_n 2, 1) := by decide +kernel
theorem dX1_numberAt_19 : decode cX1_numberAt 19 = .ok (.iload_n 2, 1) := by decide +kernel
theorem dX1_numberAt_20 : decode cX1_numberAt 20 = .ok (.iload_n 1, 1) := by decide +kernel
theorem dX1_numberAt_21 : decode cX1_numberAt 21 = .ok (.if_icmp .gt 36, 3) := by decide +kernel
theorem dX1_numberAt_24 : decode cX1_numberAt 24 = .ok (.aload_n 0, 1) := by decide +kernel
theorem dX1_numberAt_25 : decode cX1_numberAt 25 = .ok (.iload_n 2, 1) := by decide +kernel
theorem dX1_numberAt_26 : decode cX1_numberAt 26 = .ok (.invokevirtual 32, 3) := by decide +kernel
theorem dX1_numberAt_29 : decode cX1_numberAt 29 = .ok (.istore_n 3, 1) := by decide +kernel
theorem dX1_numberAt_30 : decode cX1_numberAt 30 = .ok (.aload_n 0, 1) := by decide +kernel
theorem dX1_numberAt_31 : decode cX1_numberAt 31 = .ok (.getfield 15, 3) := by decide +kernel
theorem dX1_numberAt_34 : decode cX1_numberAt 34 = .ok (.iload_n 2, 1) := by decide +kernel
theorem dX1_numberAt_35 : decode cX1_numberAt 35 = .ok (.iload_n 3, 1) := by decide +kernel
theorem dX1_numberAt_36 : decode cX1_numberAt 36 = .ok (.iastore, 1) := by decide +kernel
theorem dX1_numberAt_37 : decode cX1_numberAt 37 = .ok (.aload_n 0, 1) := by decide +kernel
theorem dX1_numberAt_38 : decode cX1_numberAt 38 = .ok (.getfield 18, 3) := by decide +kernel
theorem dX1_numberAt_41 : decode cX1_numberAt 41 = .ok (.iload_n 3, 1) := by decide +kernel
theorem dX1_numberAt_42 : decode cX1_numberAt 42 = .ok (.iconst 1, 1) := by decide +kernel
theorem dX1_numberAt_43 : decode cX1_numberAt 43 = .ok (.bastore, 1) := by decide +kernel
theorem dX1_numberAt_44 : decode cX1_numberAt 44 = .ok (.aload_n 0, 1) := by decide +kernel
theorem dX1_numberAt_45 : decode cX1_numberAt 45 = .ok (.iload_n 2, 1) := by decide +kernel
theorem dX1_numberAt_46 : decode cX1_numberAt 46 = .ok (.iconst 1, 1) := by decide +kernel
theorem dX1_numberAt_47 : decode cX1_numberAt 47 = .ok (.iadd, 1) := by decide +kernel
theorem dX1_numberAt_48 : decode cX1_numberAt 48 = .ok (.putfield 29, 3) := by decide +kernel
theorem dX1_numberAt_51 : decode cX1_numberAt 51 = .ok (.iinc 2 1, 3) := by decide +kernel
theorem dX1_numberAt_54 : decode cX1_numberAt 54 = .ok (.goto (-35), 3) := by decide +kernel
theorem dX1_numberAt_57 : decode cX1_numberAt 57 = .ok (.aload_n 0, 1) := by decide +kernel
theorem dX1_numberAt_58 : decode cX1_numberAt 58 = .ok (.getfield 15, 3) := by decide +kernel
theorem dX1_numberAt_61 : decode cX1_numberAt 61 = .ok (.iload_n 1, 1) := by decide +kernel
theorem dX1_numberAt_62 : decode cX1_numberAt 62 = .ok (.iaload, 1) := by decide +kernel
theorem dX1_numberAt_63 : decode cX1_numberAt 63 = .ok (.ireturn, 1) := by decide +kernel
theorem dX1_forgetOrder_0 : decode cX1_forgetOrder 0 = .ok (.aload_n 0, 1) := by decide +kernel
theorem dX1_forgetOrder_1 : decode cX1_forgetOrder 1 = .ok (.iconst 0, 1) := by decide +kernel
theorem dX1_forgetOrder_2 : decode cX1_forgetOrder 2 = .ok (.putfield 29, 3) := by decide +kernel
theorem dX1_forgetOrder_5 : decode cX1_forgetOrder 5 = .ok (.iconst 0, 1) := by decide +kernel
theorem dX1_forgetOrder_6 : decode cX1_forgetOrder 6 = .ok (.istore_n 1, 1) := by decide +kernel
theorem dX1_forgetOrder_7 : decode cX1_forgetOrder 7 = .ok (.iload_n 1, 1) := by decide +kernel
theorem dX1_forgetOrder_8 : decode cX1_forgetOrder 8 = .ok (.aload_n 0, 1) := by decide +kernel
theorem dX1_forgetOrder_9 : decode cX1_forgetOrder 9 = .ok (.getfield 18, 3) := by decide +kernel
theorem dX1_forgetOrder_12 : decode cX1_forgetOrder 12 = .ok (.arraylength, 1) := by decide +kernel
theorem dX1_forgetOrder_13 : decode cX1_forgetOrder 13 = .ok (.if_icmp .ge 16, 3) := by decide +kernel
theorem dX1_forgetOrder_16 : decode cX1_forgetOrder 16 = .ok (.aload_n 0, 1) := by decide +kernel
theorem dX1_forgetOrder_17 : decode cX1_forgetOrder 17 = .ok (.getfield 18, 3) := by decide +kernel
theorem dX1_forgetOrder_20 : decode cX1_forgetOrder 20 = .ok (.iload_n 1, 1) := by decide +kernel
theorem dX1_forgetOrder_21 : decode cX1_forgetOrder 21 = .ok (.iconst 0, 1) := by decide +kernel
theorem dX1_forgetOrder_22 : decode cX1_forgetOrder 22 = .ok (.bastore, 1) := by decide +kernel
theorem dX1_forgetOrder_23 : decode cX1_forgetOrder 23 = .ok (.iinc 1 1, 3) := by decide +kernel
theorem dX1_forgetOrder_26 : decode cX1_forgetOrder 26 = .ok (.goto (-19), 3) := by decide +kernel
theorem dX1_forgetOrder_29 : decode cX1_forgetOrder 29 = .ok (.return_, 1) := by decide +kernel
theorem dX1_nextNumber_0 : decode cX1_nextNumber 0 = .ok (.iconst 0, 1) := by decide +kernel
theorem dX1_nextNumber_1 : decode cX1_nextNumber 1 = .ok (.istore_n 2, 1) := by decide +kernel
theorem dX1_nextNumber_2 : decode cX1_nextNumber 2 = .ok (.ldc 36, 2) := by decide +kernel
theorem dX1_nextNumber_4 : decode cX1_nextNumber 4 = .ok (.istore_n 3, 1) := by decide +kernel
theorem dX1_nextNumber_5 : decode cX1_nextNumber 5 = .ok (.iconst 0, 1) := by decide +kernel
theorem dX1_nextNumber_6 : decode cX1_nextNumber 6 = .ok (.istore 4, 2) := by decide +kernel
theorem dX1_nextNumber_8 : decode cX1_nextNumber 8 = .ok (.iload 4, 2) := by decide +kernel
theorem dX1_nextNumber_10 : decode cX1_nextNumber 10 = .ok (.aload_n 0, 1) := by decide +kernel
theorem dX1_nextNumber_11 : decode cX1_nextNumber 11 = .ok (.getfield 22, 3) := by decide +kernel
theorem dX1_nextNumber_14 : decode cX1_nextNumber 14 = .ok (.if_icmp .ge 45, 3) := by decide +kernel
theorem dX1_nextNumber_17 : decode cX1_nextNumber 17 = .ok (.aload_n 0, 1) := by decide +kernel
theorem dX1_nextNumber_18 : decode cX1_nextNumber 18 = .ok (.getfield 18, 3) := by decide +kernel
theorem dX1_nextNumber_21 : decode cX1_nextNumber 21 = .ok (.iload 4, 2) := by decide +kernel
theorem dX1_nextNumber_23 : decode cX1_nextNumber 23 = .ok (.baload, 1) := by decide +kernel
theorem dX1_nextNumber_24 : decode cX1_nextNumber 24 = .ok (.ifCond .eq 8, 3) := by decide +kernel
theorem dX1_nextNumber_27 : decode cX1_nextNumber 27 = .ok (.ldc 36, 2) := by decide +kernel
theorem dX1_nextNumber_29 : decode cX1_nextNumber 29 = .ok (.goto 10, 3) := by decide +kernel
theorem dX1_nextNumber_32 : decode cX1_nextNumber 32 = .ok (.aload_n 0, 1) := by decide +kernel
theorem dX1_nextNumber_33 : decode cX1_nextNumber 33 = .ok (.iload 4, 2) := by decide +kernel
theorem dX1_nextNumber_35 : decode cX1_nextNumber 35 = .ok (.iload_n 1, 1) := by decide +kernel
theorem dX1_nextNumber_36 : decode cX1_nextNumber 36 = .ok (.invokevirtual 37, 3) := by decide +kernel
theorem dX1_nextNumber_39 : decode cX1_nextNumber 39 = .ok (.istore 5, 2) := by decide +kernel
theorem dX1_nextNumber_41 : decode cX1_nextNumber 41 = .ok (.iload 5, 2) := by decide +kernel
theorem dX1_nextNumber_43 : decode cX1_nextNumber 43 = .ok (.iload_n 3, 1) := by decide +kernel
theorem dX1_nextNumber_44 : decode cX1_nextNumber 44 = .ok (.if_icmp .ge 9, 3) := by decide +kernel
theorem dX1_nextNumber_47 : decode cX1_nextNumber 47 = .ok (.iload 5, 2) := by decide +kernel
theorem dX1_nextNumber_49 : decode cX1_nextNumber 49 = .ok (.istore_n 3, 1) := by decide +kernel
theorem dX1_nextNumber_50 : decode cX1_nextNumber 50 = .ok (.iload 4, 2) := by decide +kernel
theorem dX1_nextNumber_52 : decode cX1_nextNumber 52 = .ok (.istore_n 2, 1) := by decide +kernel
theorem dX1_nextNumber_53 : decode cX1_nextNumber 53 = .ok (.iinc 4 1, 3) := by decide +kernel
theorem dX1_nextNumber_56 : decode cX1_nextNumber 56 = .ok (.goto (-48), 3) := by decide +kernel
theorem dX1_nextNumber_59 : decode cX1_nextNumber 59 = .ok (.iload_n 2, 1) := by decide +kernel
theorem dX1_nextNumber_60 : decode cX1_nextNumber 60 = .ok (.ireturn, 1) := by decide +kernel
theorem dX1_farness_0 : decode cX1_farness 0 = .ok (.iload_n 2, 1) := by decide +kernel
theorem dX1_farness_1 : decode cX1_farness 1 = .ok (.ifCond .ne 13, 3) := by decide +kernel
theorem dX1_farness_4 : decode cX1_farness 4 = .ok (.aload_n 0, 1) := by decide +kernel
theorem dX1_farness_5 : decode cX1_farness 5 = .ok (.getfield 9, 3) := by decide +kernel
theorem dX1_farness_8 : decode cX1_farness 8 = .ok (.iload_n 1, 1) := by decide +kernel
theorem dX1_farness_9 : decode cX1_farness 9 = .ok (.iaload, 1) := by decide +kernel
theorem dX1_farness_10 : decode cX1_farness 10 = .ok (.invokestatic 41, 3) := by decide +kernel
theorem dX1_farness_13 : decode cX1_farness 13 = .ok (.ireturn, 1) := by decide +kernel
theorem dX1_farness_14 : decode cX1_farness 14 = .ok (.aload_n 0, 1) := by decide +kernel
theorem dX1_farness_15 : decode cX1_farness 15 = .ok (.getfield 9, 3) := by decide +kernel
theorem dX1_farness_18 : decode cX1_farness 18 = .ok (.iload_n 1, 1) := by decide +kernel
theorem dX1_farness_19 : decode cX1_farness 19 = .ok (.iaload, 1) := by decide +kernel
theorem dX1_farness_20 : decode cX1_farness 20 = .ok (.aload_n 0, 1) := by decide +kernel
theorem dX1_farness_21 : decode cX1_farness 21 = .ok (.getfield 9, 3) := by decide +kernel
theorem dX1_farness_24 : decode cX1_farness 24 = .ok (.aload_n 0, 1) := by decide +kernel
theorem dX1_farness_25 : decode cX1_farness 25 = .ok (.getfield 15, 3) := by decide +kernel
theorem dX1_farness_28 : decode cX1_farness 28 = .ok (.iload_n 2, 1) := by decide +kernel
theorem dX1_farness_29 : decode cX1_farness 29 = .ok (.iconst 1, 1) := by decide +kernel
theorem dX1_farness_30 : decode cX1_farness 30 = .ok (.isub, 1) := by decide +kernel
theorem dX1_farness_31 : decode cX1_farness 31 = .ok (.iaload, 1) := by decide +kernel
theorem dX1_farness_32 : decode cX1_farness 32 = .ok (.iaload, 1) := by decide +kernel
theorem dX1_farness_33 : decode cX1_farness 33 = .ok (.invokestatic 44, 3) := by decide +kernel
theorem dX1_farness_36 : decode cX1_farness 36 = .ok (.ireturn, 1) := by decide +kernel
theorem dX1_sumOfParts_0 : decode cX1_sumOfParts 0 = .ok (.iload_n 0, 1) := by decide +kernel
theorem dX1_sumOfParts_1 : decode cX1_sumOfParts 1 = .ok (.bipush 16, 2) := by decide +kernel
theorem dX1_sumOfParts_3 : decode cX1_sumOfParts 3 = .ok (.ishr, 1) := by decide +kernel
theorem dX1_sumOfParts_4 : decode cX1_sumOfParts 4 = .ok (.iload_n 0, 1) := by decide +kernel
theorem dX1_sumOfParts_5 : decode cX1_sumOfParts 5 = .ok (.bipush 8, 2) := by decide +kernel
theorem dX1_sumOfParts_7 : decode cX1_sumOfParts 7 = .ok (.ishr, 1) := by decide +kernel
theorem dX1_sumOfParts_8 : decode cX1_sumOfParts 8 = .ok (.sipush 255, 3) := by decide +kernel
theorem dX1_sumOfParts_11 : decode cX1_sumOfParts 11 = .ok (.iand, 1) := by decide +kernel
theorem dX1_sumOfParts_12 : decode cX1_sumOfParts 12 = .ok (.iadd, 1) := by decide +kernel
theorem dX1_sumOfParts_13 : decode cX1_sumOfParts 13 = .ok (.iload_n 0, 1) := by decide +kernel
theorem dX1_sumOfParts_14 : decode cX1_sumOfParts 14 = .ok (.sipush 255, 3) := by decide +kernel
theorem dX1_sumOfParts_17 : decode cX1_sumOfParts 17 = .ok (.iand, 1) := by decide +kernel
theorem dX1_sumOfParts_18 : decode cX1_sumOfParts 18 = .ok (.iadd, 1) := by decide +kernel
theorem dX1_sumOfParts_19 : decode cX1_sumOfParts 19 = .ok (.ireturn, 1) := by decide +kernel
theorem dX1_distance_0 : decode cX1_distance 0 = .ok (.iload_n 0, 1) := by decide +kernel
theorem dX1_distance_1 : decode cX1_distance 1 = .ok (.bipush 16, 2) := by decide +kernel
theorem dX1_distance_3 : decode cX1_distance 3 = .ok (.ishr, 1) := by decide +kernel
theorem dX1_distance_4 : decode cX1_distance 4 = .ok (.iload_n 1, 1) := by decide +kernel
theorem dX1_distance_5 : decode cX1_distance 5 = .ok (.bipush 16, 2) := by decide +kernel
theorem dX1_distance_7 : decode cX1_distance 7 = .ok (.ishr, 1) := by decide +kernel
theorem dX1_distance_8 : decode cX1_distance 8 = .ok (.isub, 1) := by decide +kernel
theorem dX1_distance_9 : decode cX1_distance 9 = .ok (.istore_n 2, 1) := by decide +kernel
theorem dX1_distance_10 : decode cX1_distance 10 = .ok (.iload_n 0, 1) := by decide +kernel
theorem dX1_distance_11 : decode cX1_distance 11 = .ok (.bipush 8, 2) := by decide +kernel
theorem dX1_distance_13 : decode cX1_distance 13 = .ok (.ishr, 1) := by decide +kernel
theorem dX1_distance_14 : decode cX1_distance 14 = .ok (.sipush 255, 3) := by decide +kernel
theorem dX1_distance_17 : decode cX1_distance 17 = .ok (.iand, 1) := by decide +kernel
theorem dX1_distance_18 : decode cX1_distance 18 = .ok (.iload_n 1, 1) := by decide +kernel
theorem dX1_distance_19 : decode cX1_distance 19 = .ok (.bipush 8, 2) := by decide +kernel
theorem dX1_distance_21 : decode cX1_distance 21 = .ok (.ishr, 1) := by decide +kernel
theorem dX1_distance_22 : decode cX1_distance 22 = .ok (.sipush 255, 3) := by decide +kernel
theorem dX1_distance_25 : decode cX1_distance 25 = .ok (.iand, 1) := by decide +kernel
theorem dX1_distance_26 : decode cX1_distance 26 = .ok (.isub, 1) := by decide +kernel
theorem dX1_distance_27 : decode cX1_distance 27 = .ok (.istore_n 3, 1) := by decide +kernel
theorem dX1_distance_28 : decode cX1_distance 28 = .ok (.iload_n 0, 1) := by decide +kernel
theorem dX1_distance_29 : decode cX1_distance 29 = .ok (.sipush 255, 3) := by decide +kernel
theorem dX1_distance_32 : decode cX1_distance 32 = .ok (.iand, 1) := by decide +kernel
theorem dX1_distance_33 : decode cX1_distance 33 = .ok (.iload_n 1, 1) := by decide +kernel
theorem dX1_distance_34 : decode cX1_distance 34 = .ok (.sipush 255, 3) := by decide +kernel
theorem dX1_distance_37 : decode cX1_distance 37 = .ok (.iand, 1) := by decide +kernel
theorem dX1_distance_38 : decode cX1_distance 38 = .ok (.isub, 1) := by decide +kernel
theorem dX1_distance_39 : decode cX1_distance 39 = .ok (.istore 4, 2) := by decide +kernel
theorem dX1_distance_41 : decode cX1_distance 41 = .ok (.iload_n 2, 1) := by decide +kernel
theorem dX1_distance_42 : decode cX1_distance 42 = .ok (.iload_n 2, 1) := by decide +kernel
theorem dX1_distance_43 : decode cX1_distance 43 = .ok (.imul, 1) := by decide +kernel
theorem dX1_distance_44 : decode cX1_distance 44 = .ok (.iload_n 3, 1) := by decide +kernel
theorem dX1_distance_45 : decode cX1_distance 45 = .ok (.iload_n 3, 1) := by decide +kernel
theorem dX1_distance_46 : decode cX1_distance 46 = .ok (.imul, 1) := by decide +kernel
theorem dX1_distance_47 : decode cX1_distance 47 = .ok (.iadd, 1) := by decide +kernel
theorem dX1_distance_48 : decode cX1_distance 48 = .ok (.iload 4, 2) := by decide +kernel
theorem dX1_distance_50 : decode cX1_distance 50 = .ok (.iload 4, 2) := by decide +kernel
theorem dX1_distance_52 : decode cX1_distance 52 = .ok (.imul, 1) := by decide +kernel
theorem dX1_distance_53 : decode cX1_distance 53 = .ok (.iadd, 1) := by decide +kernel
theorem dX1_distance_54 : decode cX1_distance 54 = .ok (.ireturn, 1) := by decide +kernel
theorem dX3_init_0 : decode cX3_init 0 = .ok (.aload_n 0, 1) := by decide +kernel
theorem dX3_init_1 : decode cX3_init 1 = .ok (.invokespecial 3, 3) := by decide +kernel
theorem dX3_init_4 : decode cX3_init 4 = .ok (.aload_n 0, 1) := by decide +kernel
theorem dX3_init_5 : decode cX3_init 5 = .ok (.sipush 256, 3) := by decide +kernel
theorem dX3_init_8 : decode cX3_init 8 = .ok (.newarray .int, 2) := by decide +kernel
theorem dX3_init_10 : decode cX3_init 10 = .ok (.putfield 9, 3) := by decide +kernel
theorem dX3_init_13 : decode cX3_init 13 = .ok (.aload_n 0, 1) := by decide +kernel
theorem dX3_init_14 : decode cX3_init 14 = .ok (.iload_n 2, 1) := by decide +kernel
theorem dX3_init_15 : decode cX3_init 15 = .ok (.putfield 15, 3) := by decide +kernel
theorem dX3_init_18 : decode cX3_init 18 = .ok (.aload_n 0, 1) := by decide +kernel
theorem dX3_init_19 : decode cX3_init 19 = .ok (.iconst 0, 1) := by decide +kernel
theorem dX3_init_20 : decode cX3_init 20 = .ok (.iload_n 1, 1) := by decide +kernel
theorem dX3_init_21 : decode cX3_init 21 = .ok (.invokestatic 19, 3) := by decide +kernel
theorem dX3_init_24 : decode cX3_init 24 = .ok (.newarray .int, 2) := by decide +kernel
theorem dX3_init_26 : decode cX3_init 26 = .ok (.putfield 25, 3) := by decide +kernel
theorem dX3_init_29 : decode cX3_init 29 = .ok (.aload_n 0, 1) := by decide +kernel
theorem dX3_init_30 : decode cX3_init 30 = .ok (.aload_n 0, 1) := by decide +kernel
theorem dX3_init_31 : decode cX3_init 31 = .ok (.getfield 25, 3) := by decide +kernel
theorem dX3_init_34 : decode cX3_init 34 = .ok (.arraylength, 1) := by decide +kernel
theorem dX3_init_35 : decode cX3_init 35 = .ok (.newarray .int, 2) := by decide +kernel
theorem dX3_init_37 : decode cX3_init 37 = .ok (.putfield 28, 3) := by decide +kernel
theorem dX3_init_40 : decode cX3_init 40 = .ok (.aload_n 0, 1) := by decide +kernel
theorem dX3_init_41 : decode cX3_init 41 = .ok (.aload_n 0, 1) := by decide +kernel
theorem dX3_init_42 : decode cX3_init 42 = .ok (.getfield 25, 3) := by decide +kernel
theorem dX3_init_45 : decode cX3_init 45 = .ok (.arraylength, 1) := by decide +kernel
theorem dX3_init_46 : decode cX3_init 46 = .ok (.newarray .int, 2) := by decide +kernel
theorem dX3_init_48 : decode cX3_init 48 = .ok (.putfield 31, 3) := by decide +kernel
theorem dX3_init_51 : decode cX3_init 51 = .ok (.return_, 1) := by decide +kernel
theorem dX3_takeLine_0 : decode cX3_takeLine 0 = .ok (.aload_n 0, 1) := by decide +kernel
theorem dX3_takeLine_1 : decode cX3_takeLine 1 = .ok (.aload_n 0, 1) := by decide +kernel
theorem dX3_takeLine_2 : decode cX3_takeLine 2 = .ok (.getfield 25, 3) := by decide +kernel
theorem dX3_takeLine_5 : decode cX3_takeLine 5 = .ok (.arraylength, 1) := by decide +kernel
theorem dX3_takeLine_6 : decode cX3_takeLine 6 = .ok (.aload_n 1, 1) := by decide +kernel
theorem dX3_takeLine_7 : decode cX3_takeLine 7 = .ok (.iload_n 2, 1) := by decide +kernel
theorem dX3_takeLine_8 : decode cX3_takeLine 8 = .ok (.invokevirtual 34, 3) := by decide +kernel
theorem dX3_takeLine_11 : decode cX3_takeLine 11 = .ok (.invokestatic 40, 3) := by decide +kernel
theorem dX3_takeLine_14 : decode cX3_takeLine 14 = .ok (.putfield 43, 3) := by decide +kernel
theorem dX3_takeLine_17 : decode cX3_takeLine 17 = .ok (.aload_n 1, 1) := by decide +kernel
theorem dX3_takeLine_18 : decode cX3_takeLine 18 = .ok (.iload_n 2, 1) := by decide +kernel
theorem dX3_takeLine_19 : decode cX3_takeLine 19 = .ok (.iload_n 3, 1) := by decide +kernel
theorem dX3_takeLine_20 : decode cX3_takeLine 20 = .ok (.aload_n 0, 1) := by decide +kernel
theorem dX3_takeLine_21 : decode cX3_takeLine 21 = .ok (.getfield 28, 3) := by decide +kernel
theorem dX3_takeLine_24 : decode cX3_takeLine 24 = .ok (.invokevirtual 46, 3) := by decide +kernel
theorem dX3_takeLine_27 : decode cX3_takeLine 27 = .ok (.aload_n 1, 1) := by decide +kernel
theorem dX3_takeLine_28 : decode cX3_takeLine 28 = .ok (.iload_n 2, 1) := by decide +kernel
theorem dX3_takeLine_29 : decode cX3_takeLine 29 = .ok (.iload_n 3, 1) := by decide +kernel
theorem dX3_takeLine_30 : decode cX3_takeLine 30 = .ok (.iconst 1, 1) := by decide +kernel
theorem dX3_takeLine_31 : decode cX3_takeLine 31 = .ok (.isub, 1) := by decide +kernel
theorem dX3_takeLine_32 : decode cX3_takeLine 32 = .ok (.aload_n 0, 1) := by decide +kernel
theorem dX3_takeLine_33 : decode cX3_takeLine 33 = .ok (.getfield 31, 3) := by decide +kernel
theorem dX3_takeLine_36 : decode cX3_takeLine 36 = .ok (.invokevirtual 46, 3) := by decide +kernel
theorem dX3_takeLine_39 : decode cX3_takeLine 39 = .ok (.return_, 1) := by decide +kernel
theorem dX3_startPass_0 : decode cX3_startPass 0 = .ok (.aload_n 0, 1) := by decide +kernel
theorem dX3_startPass_1 : decode cX3_startPass 1 = .ok (.aload_n 0, 1) := by decide +kernel
theorem dX3_startPass_2 : decode cX3_startPass 2 = .ok (.getfield 25, 3) := by decide +kernel
theorem dX3_startPass_5 : decode cX3_startPass 5 = .ok (.arraylength, 1) := by decide +kernel
theorem dX3_startPass_6 : decode cX3_startPass 6 = .ok (.iload_n 1, 1) := by decide +kernel
theorem dX3_startPass_7 : decode cX3_startPass 7 = .ok (.invokestatic 40, 3) := by decide +kernel
theorem dX3_startPass_10 : decode cX3_startPass 10 = .ok (.putfield 43, 3) := by decide +kernel
theorem dX3_startPass_13 : decode cX3_startPass 13 = .ok (.aload_n 0, 1) := by decide +kernel
theorem dX3_startPass_14 : decode cX3_startPass 14 = .ok (.getfield 28, 3) := by decide +kernel
theorem dX3_startPass_17 : decode cX3_startPass 17 = .ok (.iconst 0, 1) := by decide +kernel
theorem dX3_startPass_18 : decode cX3_startPass 18 = .ok (.invokestatic 50, 3) := by decide +kernel
theorem dX3_startPass_21 : decode cX3_startPass 21 = .ok (.return_, 1) := by decide +kernel
theorem dX3_restoreLine_0 : decode cX3_restoreLine 0 = .ok (.aload_n 0, 1) := by decide +kernel
theorem dX3_restoreLine_1 : decode cX3_restoreLine 1 = .ok (.getfield 28, 3) := by decide +kernel
theorem dX3_restoreLine_4 : decode cX3_restoreLine 4 = .ok (.astore_n 3, 1) := by decide +kernel
theorem dX3_restoreLine_5 : decode cX3_restoreLine 5 = .ok (.aload_n 0, 1) := by decide +kernel
theorem dX3_restoreLine_6 : decode cX3_restoreLine 6 = .ok (.aload_n 0, 1) := by decide +kernel
theorem dX3_restoreLine_7 : decode cX3_restoreLine 7 = .ok (.getfield 31, 3) := by decide +kernel
theorem dX3_restoreLine_10 : decode cX3_restoreLine 10 = .ok (.putfield 28, 3) := by decide +kernel
theorem dX3_restoreLine_13 : decode cX3_restoreLine 13 = .ok (.aload_n 0, 1) := by decide +kernel
theorem dX3_restoreLine_14 : decode cX3_restoreLine 14 = .ok (.aload_n 3, 1) := by decide +kernel
theorem dX3_restoreLine_15 : decode cX3_restoreLine 15 = .ok (.putfield 31, 3) := by decide +kernel
theorem dX3_restoreLine_18 : decode cX3_restoreLine 18 = .ok (.aload_n 1, 1) := by decide +kernel
theorem dX3_restoreLine_19 : decode cX3_restoreLine 19 = .ok (.iload_n 2, 1) := by decide +kernel
theorem dX3_restoreLine_20 : decode cX3_restoreLine 20 = .ok (.invokevirtual 56, 3) := by decide +kernel
theorem dX3_restoreLine_23 : decode cX3_restoreLine 23 = .ok (.istore 4, 2) := by decide +kernel
theorem dX3_restoreLine_25 : decode cX3_restoreLine 25 = .ok (.iconst 0, 1) := by decide +kernel
theorem dX3_restoreLine_26 : decode cX3_restoreLine 26 = .ok (.istore 5, 2) := by decide +kernel
theorem dX3_restoreLine_28 : decode cX3_restoreLine 28 = .ok (.iload 5, 2) := by decide +kernel
theorem dX3_restoreLine_30 : decode cX3_restoreLine 30 = .ok (.aload_n 0, 1) := by decide +kernel
theorem dX3_restoreLine_31 : decode cX3_restoreLine 31 = .ok (.getfield 43, 3) := by decide +kernel
theorem dX3_restoreLine_34 : decode cX3_restoreLine 34 = .ok (.if_icmp .ge 39, 3) := by decide +kernel
theorem dX3_restoreLine_37 : decode cX3_restoreLine 37 = .ok (.aload_n 0, 1) := by decide +kernel
theorem dX3_restoreLine_38 : decode cX3_restoreLine 38 = .ok (.getfield 28, 3) := by decide +kernel
theorem dX3_restoreLine_41 : decode cX3_restoreLine 41 = .ok (.iload 5, 2) := by decide +kernel
theorem dX3_restoreLine_43 : decode cX3_restoreLine 43 = .ok (.aload_n 1, 1) := by decide +kernel
theorem dX3_restoreLine_44 : decode cX3_restoreLine 44 = .ok (.iload_n 2, 1) := by decide +kernel
theorem dX3_restoreLine_45 : decode cX3_restoreLine 45 = .ok (.iconst 1, 1) := by decide +kernel
theorem dX3_restoreLine_46 : decode cX3_restoreLine 46 = .ok (.iadd, 1) := by decide +kernel
theorem dX3_restoreLine_47 : decode cX3_restoreLine 47 = .ok (.iload 5, 2) := by decide +kernel
theorem dX3_restoreLine_49 : decode cX3_restoreLine 49 = .ok (.iadd, 1) := by decide +kernel
theorem dX3_restoreLine_50 : decode cX3_restoreLine 50 = .ok (.invokevirtual 56, 3) := by decide +kernel
theorem dX3_restoreLine_53 : decode cX3_restoreLine 53 = .ok (.aload_n 0, 1) := by decide +kernel
theorem dX3_restoreLine_54 : decode cX3_restoreLine 54 = .ok (.iload 4, 2) := by decide +kernel
theorem dX3_restoreLine_56 : decode cX3_restoreLine 56 = .ok (.iload 5, 2) := by decide +kernel
theorem dX3_restoreLine_58 : decode cX3_restoreLine 58 = .ok (.invokevirtual 61, 3) := by decide +kernel
theorem dX3_restoreLine_61 : decode cX3_restoreLine 61 = .ok (.iadd, 1) := by decide +kernel
theorem dX3_restoreLine_62 : decode cX3_restoreLine 62 = .ok (.sipush 255, 3) := by decide +kernel
theorem dX3_restoreLine_65 : decode cX3_restoreLine 65 = .ok (.iand, 1) := by decide +kernel
theorem dX3_restoreLine_66 : decode cX3_restoreLine 66 = .ok (.iastore, 1) := by decide +kernel
theorem dX3_restoreLine_67 : decode cX3_restoreLine 67 = .ok (.iinc 5 1, 3) := by decide +kernel
theorem dX3_restoreLine_70 : decode cX3_restoreLine 70 = .ok (.goto (-42), 3) := by decide +kernel
theorem dX3_restoreLine_73 : decode cX3_restoreLine 73 = .ok (.return_, 1) := by decide +kernel
theorem dX3_filterLine_0 : decode cX3_filterLine 0 = .ok (.iconst 0, 1) := by decide +kernel
theorem dX3_filterLine_1 : decode cX3_filterLine 1 = .ok (.istore_n 2, 1) := by decide +kernel
theorem dX3_filterLine_2 : decode cX3_filterLine 2 = .ok (.iload_n 2, 1) := by decide +kernel
theorem dX3_filterLine_3 : decode cX3_filterLine 3 = .ok (.aload_n 0, 1) := by decide +kernel
theorem dX3_filterLine_4 : decode cX3_filterLine 4 = .ok (.getfield 43, 3) := by decide +kernel
theorem dX3_filterLine_7 : decode cX3_filterLine 7 = .ok (.if_icmp .ge 32, 3) := by decide +kernel
theorem dX3_filterLine_10 : decode cX3_filterLine 10 = .ok (.aload_n 0, 1) := by decide +kernel
theorem dX3_filterLine_11 : decode cX3_filterLine 11 = .ok (.getfield 25, 3) := by decide +kernel
theorem dX3_filterLine_14 : decode cX3_filterLine 14 = .ok (.iload_n 2, 1) := by decide +kernel
theorem dX3_filterLine_15 : decode cX3_filterLine 15 = .ok (.aload_n 0, 1) := by decide +kernel
theorem dX3_filterLine_16 : decode cX3_filterLine 16 = .ok (.getfield 28, 3) := by decide +kernel
theorem dX3_filterLine_19 : decode cX3_filterLine 19 = .ok (.iload_n 2, 1) := by decide +kernel
theorem dX3_filterLine_20 : decode cX3_filterLine 20 = .ok (.iaload, 1) := by decide +kernel
theorem dX3_filterLine_21 : decode cX3_filterLine 21 = .ok (.aload_n 0, 1) := by decide +kernel
theorem dX3_filterLine_22 : decode cX3_filterLine 22 = .ok (.iload_n 1, 1) := by decide +kernel
theorem dX3_filterLine_23 : decode cX3_filterLine 23 = .ok (.iload_n 2, 1) := by decide +kernel
theorem dX3_filterLine_24 : decode cX3_filterLine 24 = .ok (.invokevirtual 61, 3) := by decide +kernel
theorem dX3_filterLine_27 : decode cX3_filterLine 27 = .ok (.isub, 1) := by decide +kernel
theorem dX3_filterLine_28 : decode cX3_filterLine 28 = .ok (.sipush 255, 3) := by decide +kernel
theorem dX3_filterLine_31 : decode cX3_filterLine 31 = .ok (.iand, 1) := by decide +kernel
theorem dX3_filterLine_32 : decode cX3_filterLine 32 = .ok (.iastore, 1) := by decide +kernel
theorem dX3_filterLine_33 : decode cX3_filterLine 33 = .ok (.iinc 2 1, 3) := by decide +kernel
theorem dX3_filterLine_36 : decode cX3_filterLine 36 = .ok (.goto (-34), 3) := by decide +kernel
theorem dX3_filterLine_39 : decode cX3_filterLine 39 = .ok (.return_, 1) := by decide +kernel
theorem dX3_bestKind_0 : decode cX3_bestKind 0 = .ok (.iconst 0, 1) := by decide +kernel
theorem dX3_bestKind_1 : decode cX3_bestKind 1 = .ok (.istore_n 2, 1) := by decide +kernel
theorem dX3_bestKind_2 : decode cX3_bestKind 2 = .ok (.aload_n 0, 1) := by decide +kernel
theorem dX3_bestKind_3 : decode cX3_bestKind 3 = .ok (.iconst 0, 1) := by decide +kernel
theorem dX3_bestKind_4 : decode cX3_bestKind 4 = .ok (.iload_n 1, 1) := by decide +kernel
theorem dX3_bestKind_5 : decode cX3_bestKind 5 = .ok (.invokevirtual 64, 3) := by decide +kernel
theorem dX3_bestKind_8 : decode cX3_bestKind 8 = .ok (.istore_n 3, 1) := by decide +kernel
theorem dX3_bestKind_9 : decode cX3_bestKind 9 = .ok (.iconst 1, 1) := by decide +kernel
theorem dX3_bestKind_10 : decode cX3_bestKind 10 = .ok (.istore 4, 2) := by decide +kernel
theorem dX3_bestKind_12 : decode cX3_bestKind 12 = .ok (.iload 4, 2) := by decide +kernel
theorem dX3_bestKind_14 : decode cX3_bestKind 14 = .ok (.iconst 4, 1) := by decide +kernel
theorem dX3_bestKind_15 : decode cX3_bestKind 15 = .ok (.if_icmp .gt 30, 3) := by decide +kernel
theorem dX3_bestKind_18 : decode cX3_bestKind 18 = .ok (.aload_n 0, 1) := by decide +kernel
theorem dX3_bestKind_19 : decode cX3_bestKind 19 = .ok (.iload 4, 2) := by decide +kernel
theorem dX3_bestKind_21 : decode cX3_bestKind 21 = .ok (.iload_n 1, 1) := by decide +kernel
theorem dX3_bestKind_22 : decode cX3_bestKind 22 = .ok (.invokevirtual 64, 3) := by decide +kernel
theorem dX3_bestKind_25 : decode cX3_bestKind 25 = .ok (.istore 5, 2) := by decide +kernel
theorem dX3_bestKind_27 : decode cX3_bestKind 27 = .ok (.iload 5, 2) := by decide +kernel
theorem dX3_bestKind_29 : decode cX3_bestKind 29 = .ok (.iload_n 3, 1) := by decide +kernel
theorem dX3_bestKind_30 : decode cX3_bestKind 30 = .ok (.if_icmp .ge 9, 3) := by decide +kernel
theorem dX3_bestKind_33 : decode cX3_bestKind 33 = .ok (.iload 5, 2) := by decide +kernel
theorem dX3_bestKind_35 : decode cX3_bestKind 35 = .ok (.istore_n 3, 1) := by decide +kernel
theorem dX3_bestKind_36 : decode cX3_bestKind 36 = .ok (.iload 4, 2) := by decide +kernel
theorem dX3_bestKind_38 : decode cX3_bestKind 38 = .ok (.istore_n 2, 1) := by decide +kernel
theorem dX3_bestKind_39 : decode cX3_bestKind 39 = .ok (.iinc 4 1, 3) := by decide +kernel
theorem dX3_bestKind_42 : decode cX3_bestKind 42 = .ok (.goto (-30), 3) := by decide +kernel
theorem dX3_bestKind_45 : decode cX3_bestKind 45 = .ok (.iload_n 2, 1) := by decide +kernel
theorem dX3_bestKind_46 : decode cX3_bestKind 46 = .ok (.ireturn, 1) := by decide +kernel
theorem dX3_worthOf_0 : decode cX3_worthOf 0 = .ok (.aload_n 0, 1) := by decide +kernel
theorem dX3_worthOf_1 : decode cX3_worthOf 1 = .ok (.iload_n 1, 1) := by decide +kernel
theorem dX3_worthOf_2 : decode cX3_worthOf 2 = .ok (.invokevirtual 67, 3) := by decide +kernel
theorem dX3_worthOf_5 : decode cX3_worthOf 5 = .ok (.iload_n 2, 1) := by decide +kernel
theorem dX3_worthOf_6 : decode cX3_worthOf 6 = .ok (.iconst 5, 1) := by decide +kernel
theorem dX3_worthOf_7 : decode cX3_worthOf 7 = .ok (.if_icmp .ne 8, 3) := by decide +kernel
theorem dX3_worthOf_10 : decode cX3_worthOf 10 = .ok (.aload_n 0, 1) := by decide +kernel
theorem dX3_worthOf_11 : decode cX3_worthOf 11 = .ok (.invokevirtual 71, 3) := by decide +kernel
theorem dX3_worthOf_14 : decode cX3_worthOf 14 = .ok (.ireturn, 1) := by decide +kernel
theorem dX3_worthOf_15 : decode cX3_worthOf 15 = .ok (.iload_n 2, 1) := by decide +kernel
theorem dX3_worthOf_16 : decode cX3_worthOf 16 = .ok (.bipush 6, 2) := by decide +kernel
theorem dX3_worthOf_18 : decode cX3_worthOf 18 = .ok (.if_icmp .ne 10, 3) := by decide +kernel
theorem dX3_worthOf_21 : decode cX3_worthOf 21 = .ok (.aload_n 0, 1) := by decide +kernel
theorem dX3_worthOf_22 : decode cX3_worthOf 22 = .ok (.invokevirtual 75, 3) := by decide +kernel
theorem dX3_worthOf_25 : decode cX3_worthOf 25 = .ok (.goto 7, 3) := by decide +kernel
theorem dX3_worthOf_28 : decode cX3_worthOf 28 = .ok (.aload_n 0, 1) := by decide +kernel
theorem dX3_worthOf_29 : decode cX3_worthOf 29 = .ok (.invokevirtual 78, 3) := by decide +kernel
theorem dX3_worthOf_32 : decode cX3_worthOf 32 = .ok (.ireturn, 1) := by decide +kernel
theorem dX3_sumOfRests_0 : decode cX3_sumOfRests 0 = .ok (.iconst 0, 1) := by decide +kernel
theorem dX3_sumOfRests_1 : decode cX3_sumOfRests 1 = .ok (.istore_n 1, 1) := by decide +kernel
theorem dX3_sumOfRests_2 : decode cX3_sumOfRests 2 = .ok (.iconst 0, 1) := by decide +kernel
theorem dX3_sumOfRests_3 : decode cX3_sumOfRests 3 = .ok (.istore_n 2, 1) := by decide +kernel
theorem dX3_sumOfRests_4 : decode cX3_sumOfRests 4 = .ok (.iload_n 2, 1) := by decide +kernel
theorem dX3_sumOfRests_5 : decode cX3_sumOfRests 5 = .ok (.aload_n 0, 1) := by decide +kernel
theorem dX3_sumOfRests_6 : decode cX3_sumOfRests 6 = .ok (.getfield 43, 3) := by decide +kernel
theorem dX3_sumOfRests_9 : decode cX3_sumOfRests 9 = .ok (.if_icmp .ge 35, 3) := by decide +kernel
theorem dX3_sumOfRests_12 : decode cX3_sumOfRests 12 = .ok (.aload_n 0, 1) := by decide +kernel
theorem dX3_sumOfRests_13 : decode cX3_sumOfRests 13 = .ok (.getfield 25, 3) := by decide +kernel
theorem dX3_sumOfRests_16 : decode cX3_sumOfRests 16 = .ok (.iload_n 2, 1) := by decide +kernel
theorem dX3_sumOfRests_17 : decode cX3_sumOfRests 17 = .ok (.iaload, 1) := by decide +kernel
theorem dX3_sumOfRests_18 : decode cX3_sumOfRests 18 = .ok (.istore_n 3, 1) := by decide +kernel
theorem dX3_sumOfRests_19 : decode cX3_sumOfRests 19 = .ok (.iload_n 1, 1) := by decide +kernel
theorem dX3_sumOfRests_20 : decode cX3_sumOfRests 20 = .ok (.iload_n 3, 1) := by decide +kernel
theorem dX3_sumOfRests_21 : decode cX3_sumOfRests 21 = .ok (.sipush 128, 3) := by decide +kernel
theorem dX3_sumOfRests_24 : decode cX3_sumOfRests 24 = .ok (.if_icmp .ge 7, 3) := by decide +kernel
theorem dX3_sumOfRests_27 : decode cX3_sumOfRests 27 = .ok (.iload_n 3, 1) := by decide +kernel
theorem dX3_sumOfRests_28 : decode cX3_sumOfRests 28 = .ok (.goto 8, 3) := by decide +kernel
theorem dX3_sumOfRests_31 : decode cX3_sumOfRests 31 = .ok (.sipush 256, 3) := by decide +kernel
theorem dX3_sumOfRests_34 : decode cX3_sumOfRests 34 = .ok (.iload_n 3, 1) := by decide +kernel
theorem dX3_sumOfRests_35 : decode cX3_sumOfRests 35 = .ok (.isub, 1) := by decide +kernel
theorem dX3_sumOfRests_36 : decode cX3_sumOfRests 36 = .ok (.iadd, 1) := by decide +kernel
theorem dX3_sumOfRests_37 : decode cX3_sumOfRests 37 = .ok (.istore_n 1, 1) := by decide +kernel
theorem dX3_sumOfRests_38 : decode cX3_sumOfRests 38 = .ok (.iinc 2 1, 3) := by decide +kernel
theorem dX3_sumOfRests_41 : decode cX3_sumOfRests 41 = .ok (.goto (-37), 3) := by decide +kernel
theorem dX3_sumOfRests_44 : decode cX3_sumOfRests 44 = .ok (.iload_n 1, 1) := by decide +kernel
theorem dX3_sumOfRests_45 : decode cX3_sumOfRests 45 = .ok (.ireturn, 1) := by decide +kernel
theorem dX3_changesOfRests_0 : decode cX3_changesOfRests 0 = .ok (.iconst 0, 1) := by decide +kernel
theorem dX3_changesOfRests_1 : decode cX3_changesOfRests 1 = .ok (.istore_n 1, 1) := by decide +kernel
theorem dX3_changesOfRests_2 : decode cX3_changesOfRests 2 = .ok (.iconst 0, 1) := by decide +kernel
theorem dX3_changesOfRests_3 : decode cX3_changesOfRests 3 = .ok (.istore_n 2, 1) := by decide +kernel
theorem dX3_changesOfRests_4 : decode cX3_changesOfRests 4 = .ok (.iconst 0, 1) := by decide +kernel
theorem dX3_changesOfRests_5 : decode cX3_changesOfRests 5 = .ok (.istore_n 3, 1) := by decide +kernel
theorem dX3_changesOfRests_6 : decode cX3_changesOfRests 6 = .ok (.iload_n 3, 1) := by decide +kernel
theorem dX3_changesOfRests_7 : decode cX3_changesOfRests 7 = .ok (.aload_n 0, 1) := by decide +kernel
theorem dX3_changesOfRests_8 : decode cX3_changesOfRests 8 = .ok (.getfield 43, 3) := by decide +kernel
theorem dX3_changesOfRests_11 : decode cX3_changesOfRests 11 = .ok (.if_icmp .ge 29, 3) := by decide +kernel
theorem dX3_changesOfRests_14 : decode cX3_changesOfRests 14 = .ok (.aload_n 0, 1) := by decide +kernel
theorem dX3_changesOfRests_15 : decode cX3_changesOfRests 15 = .ok (.getfield 25, 3) := by decide +kernel
theorem dX3_changesOfRests_18 : decode cX3_changesOfRests 18 = .ok (.iload_n 3, 1) := by decide +kernel
theorem dX3_changesOfRests_19 : decode cX3_changesOfRests 19 = .ok (.iaload, 1) := by decide +kernel
theorem dX3_changesOfRests_20 : decode cX3_changesOfRests 20 = .ok (.iload_n 2, 1) := by decide +kernel
theorem dX3_changesOfRests_21 : decode cX3_changesOfRests 21 = .ok (.if_icmp .eq 6, 3) := by decide +kernel
theorem dX3_changesOfRests_24 : decode cX3_changesOfRests 24 = .ok (.iinc 1 1, 3) := by decide +kernel
theorem dX3_changesOfRests_27 : decode cX3_changesOfRests 27 = .ok (.aload_n 0, 1) := by decide +kernel
theorem dX3_changesOfRests_28 : decode cX3_changesOfRests 28 = .ok (.getfield 25, 3) := by decide +kernel
theorem dX3_changesOfRests_31 : decode cX3_changesOfRests 31 = .ok (.iload_n 3, 1) := by decide +kernel
theorem dX3_changesOfRests_32 : decode cX3_changesOfRests 32 = .ok (.iaload, 1) := by decide +kernel
theorem dX3_changesOfRests_33 : decode cX3_changesOfRests 33 = .ok (.istore_n 2, 1) := by decide +kernel
theorem dX3_changesOfRests_34 : decode cX3_changesOfRests 34 = .ok (.iinc 3 1, 3) := by decide +kernel
theorem dX3_changesOfRests_37 : decode cX3_changesOfRests 37 = .ok (.goto (-31), 3) := by decide +kernel
theorem dX3_changesOfRests_40 : decode cX3_changesOfRests 40 = .ok (.iload_n 1, 1) := by decide +kernel
theorem dX3_changesOfRests_41 : decode cX3_changesOfRests 41 = .ok (.ireturn, 1) := by decide +kernel
theorem dX3_differentRests_0 : decode cX3_differentRests 0 = .ok (.aload_n 0, 1) := by decide +kernel
theorem dX3_differentRests_1 : decode cX3_differentRests 1 = .ok (.dup, 1) := by decide +kernel
theorem dX3_differentRests_2 : decode cX3_differentRests 2 = .ok (.getfield 81, 3) := by decide +kernel
theorem dX3_differentRests_5 : decode cX3_differentRests 5 = .ok (.iconst 1, 1) := by decide +kernel
theorem dX3_differentRests_6 : decode cX3_differentRests 6 = .ok (.iadd, 1) := by decide +kernel
theorem dX3_differentRests_7 : decode cX3_differentRests 7 = .ok (.putfield 81, 3) := by decide +kernel
theorem dX3_differentRests_10 : decode cX3_differentRests 10 = .ok (.iconst 0, 1) := by decide +kernel
theorem dX3_differentRests_11 : decode cX3_differentRests 11 = .ok (.istore_n 1, 1) := by decide +kernel
theorem dX3_differentRests_12 : decode cX3_differentRests 12 = .ok (.iconst 0, 1) := by decide +kernel
theorem dX3_differentRests_13 : decode cX3_differentRests 13 = .ok (.istore_n 2, 1) := by decide +kernel
theorem dX3_differentRests_14 : decode cX3_differentRests 14 = .ok (.iload_n 2, 1) := by decide +kernel
theorem dX3_differentRests_15 : decode cX3_differentRests 15 = .ok (.aload_n 0, 1) := by decide +kernel
theorem dX3_differentRests_16 : decode cX3_differentRests 16 = .ok (.getfield 43, 3) := by decide +kernel
theorem dX3_differentRests_19 : decode cX3_differentRests 19 = .ok (.if_icmp .ge 46, 3) := by decide +kernel
theorem dX3_differentRests_22 : decode cX3_differentRests 22 = .ok (.aload_n 0, 1) := by decide +kernel
theorem dX3_differentRests_23 : decode cX3_differentRests 23 = .ok (.getfield 25, 3) := by decide +kernel
theorem dX3_differentRests_26 : decode cX3_differentRests 26 = .ok (.iload_n 2, 1) := by decide +kernel
theorem dX3_differentRests_27 : decode cX3_differentRests 27 = .ok (.iaload, 1) := by decide +kernel
theorem dX3_differentRests_28 : decode cX3_differentRests 28 = .ok (.sipush 255, 3) := by decide +kernel
theorem dX3_differentRests_31 : decode cX3_differentRests 31 = .ok (.iand, 1) := by decide +kernel
theorem dX3_differentRests_32 : decode cX3_differentRests 32 = .ok (.istore_n 3, 1) := by decide +kernel
theorem dX3_differentRests_33 : decode cX3_differentRests 33 = .ok (.aload_n 0, 1) := by decide +kernel
theorem dX3_differentRests_34 : decode cX3_differentRests 34 = .ok (.getfield 9, 3) := by decide +kernel
theorem dX3_differentRests_37 : decode cX3_differentRests 37 = .ok (.iload_n 3, 1) := by decide +kernel
theorem dX3_differentRests_38 : decode cX3_differentRests 38 = .ok (.iaload, 1) := by decide +kernel
theorem dX3_differentRests_39 : decode cX3_differentRests 39 = .ok (.aload_n 0, 1) := by decide +kernel
theorem dX3_differentRests_40 : decode cX3_differentRests 40 = .ok (.getfield 81, 3) := by decide +kernel
theorem dX3_differentRests_43 : decode cX3_differentRests 43 = .ok (.if_icmp .eq 6, 3) := by decide +kernel
theorem dX3_differentRests_46 : decode cX3_differentRests 46 = .ok (.iinc 1 1, 3) := by decide +kernel
theorem dX3_differentRests_49 : decode cX3_differentRests 49 = .ok (.aload_n 0, 1) := by decide +kernel
theorem dX3_differentRests_50 : decode cX3_differentRests 50 = .ok (.getfield 9, 3) := by decide +kernel
theorem dX3_differentRests_53 : decode cX3_differentRests 53 = .ok (.iload_n 3, 1) := by decide +kernel
theorem dX3_differentRests_54 : decode cX3_differentRests 54 = .ok (.aload_n 0, 1) := by decide +kernel
theorem dX3_differentRests_55 : decode cX3_differentRests 55 = .ok (.getfield 81, 3) := by decide +kernel
theorem dX3_differentRests_58 : decode cX3_differentRests 58 = .ok (.iastore, 1) := by decide +kernel
theorem dX3_differentRests_59 : decode cX3_differentRests 59 = .ok (.iinc 2 1, 3) := by decide +kernel
theorem dX3_differentRests_62 : decode cX3_differentRests 62 = .ok (.goto (-48), 3) := by decide +kernel
theorem dX3_differentRests_65 : decode cX3_differentRests 65 = .ok (.iload_n 1, 1) := by decide +kernel
theorem dX3_differentRests_66 : decode cX3_differentRests 66 = .ok (.ireturn, 1) := by decide +kernel
theorem dX3_guess_0 : decode cX3_guess 0 = .ok (.aload_n 0, 1) := by decide +kernel
theorem dX3_guess_1 : decode cX3_guess 1 = .ok (.getfield 28, 3) := by decide +kernel
theorem dX3_guess_4 : decode cX3_guess 4 = .ok (.iload_n 2, 1) := by decide +kernel
theorem dX3_guess_5 : decode cX3_guess 5 = .ok (.aload_n 0, 1) := by decide +kernel
theorem dX3_guess_6 : decode cX3_guess 6 = .ok (.getfield 15, 3) := by decide +kernel
theorem dX3_guess_9 : decode cX3_guess 9 = .ok (.isub, 1) := by decide +kernel
theorem dX3_guess_10 : decode cX3_guess 10 = .ok (.invokestatic 84, 3) := by decide +kernel
theorem dX3_guess_13 : decode cX3_guess 13 = .ok (.istore_n 3, 1) := by decide +kernel
theorem dX3_guess_14 : decode cX3_guess 14 = .ok (.aload_n 0, 1) := by decide +kernel
theorem dX3_guess_15 : decode cX3_guess 15 = .ok (.getfield 31, 3) := by decide +kernel
theorem dX3_guess_18 : decode cX3_guess 18 = .ok (.iload_n 2, 1) := by decide +kernel
theorem dX3_guess_19 : decode cX3_guess 19 = .ok (.invokestatic 84, 3) := by decide +kernel
theorem dX3_guess_22 : decode cX3_guess 22 = .ok (.istore 4, 2) := by decide +kernel
theorem dX3_guess_24 : decode cX3_guess 24 = .ok (.iload_n 1, 1) := by decide +kernel
theorem dX3_guess_25 : decode cX3_guess 25 = .ok (.tableswitch 63 1 4 #[31, 33, 36, 43], 31) := by decide +kernel
theorem dX3_guess_56 : decode cX3_guess 56 = .ok (.iload_n 3, 1) := by decide +kernel
theorem dX3_guess_57 : decode cX3_guess 57 = .ok (.ireturn, 1) := by decide +kernel
theorem dX3_guess_58 : decode cX3_guess 58 = .ok (.iload 4, 2) := by decide +kernel
theorem dX3_guess_60 : decode cX3_guess 60 = .ok (.ireturn, 1) := by decide +kernel
theorem dX3_guess_61 : decode cX3_guess 61 = .ok (.iload_n 3, 1) := by decide +kernel
theorem dX3_guess_62 : decode cX3_guess 62 = .ok (.iload 4, 2) := by decide +kernel
theorem dX3_guess_64 : decode cX3_guess 64 = .ok (.iadd, 1) := by decide +kernel
theorem dX3_guess_65 : decode cX3_guess 65 = .ok (.iconst 1, 1) := by decide +kernel
theorem dX3_guess_66 : decode cX3_guess 66 = .ok (.ishr, 1) := by decide +kernel
theorem dX3_guess_67 : decode cX3_guess 67 = .ok (.ireturn, 1) := by decide +kernel
theorem dX3_guess_68 : decode cX3_guess 68 = .ok (.iload_n 3, 1) := by decide +kernel
theorem dX3_guess_69 : decode cX3_guess 69 = .ok (.iload 4, 2) := by decide +kernel
theorem dX3_guess_71 : decode cX3_guess 71 = .ok (.aload_n 0, 1) := by decide +kernel
theorem dX3_guess_72 : decode cX3_guess 72 = .ok (.getfield 31, 3) := by decide +kernel
theorem dX3_guess_75 : decode cX3_guess 75 = .ok (.iload_n 2, 1) := by decide +kernel
theorem dX3_guess_76 : decode cX3_guess 76 = .ok (.aload_n 0, 1) := by decide +kernel
theorem dX3_guess_77 : decode cX3_guess 77 = .ok (.getfield 15, 3) := by decide +kernel
theorem dX3_guess_80 : decode cX3_guess 80 = .ok (.isub, 1) := by decide +kernel
theorem dX3_guess_81 : decode cX3_guess 81 = .ok (.invokestatic 84, 3) := by decide +kernel
theorem dX3_guess_84 : decode cX3_guess 84 = .ok (.invokestatic 88, 3) := by decide +kernel
theorem dX3_guess_87 : decode cX3_guess 87 = .ok (.ireturn, 1) := by decide +kernel
theorem dX3_guess_88 : decode cX3_guess 88 = .ok (.iconst 0, 1) := by decide +kernel
theorem dX3_guess_89 : decode cX3_guess 89 = .ok (.ireturn, 1) := by decide +kernel
theorem dX3_nearest_0 : decode cX3_nearest 0 = .ok (.iload_n 0, 1) := by decide +kernel
theorem dX3_nearest_1 : decode cX3_nearest 1 = .ok (.iload_n 1, 1) := by decide +kernel
theorem dX3_nearest_2 : decode cX3_nearest 2 = .ok (.iadd, 1) := by decide +kernel
theorem dX3_nearest_3 : decode cX3_nearest 3 = .ok (.iload_n 2, 1) := by decide +kernel
theorem dX3_nearest_4 : decode cX3_nearest 4 = .ok (.isub, 1) := by decide +kernel
theorem dX3_nearest_5 : decode cX3_nearest 5 = .ok (.istore_n 3, 1) := by decide +kernel
theorem dX3_nearest_6 : decode cX3_nearest 6 = .ok (.iload_n 3, 1) := by decide +kernel
theorem dX3_nearest_7 : decode cX3_nearest 7 = .ok (.iload_n 0, 1) := by decide +kernel
theorem dX3_nearest_8 : decode cX3_nearest 8 = .ok (.isub, 1) := by decide +kernel
theorem dX3_nearest_9 : decode cX3_nearest 9 = .ok (.invokestatic 92, 3) := by decide +kernel
theorem dX3_nearest_12 : decode cX3_nearest 12 = .ok (.istore 4, 2) := by decide +kernel
theorem dX3_nearest_14 : decode cX3_nearest 14 = .ok (.iload_n 3, 1) := by decide +kernel
theorem dX3_nearest_15 : decode cX3_nearest 15 = .ok (.iload_n 1, 1) := by decide +kernel
theorem dX3_nearest_16 : decode cX3_nearest 16 = .ok (.isub, 1) := by decide +kernel
theorem dX3_nearest_17 : decode cX3_nearest 17 = .ok (.invokestatic 92, 3) := by decide +kernel
theorem dX3_nearest_20 : decode cX3_nearest 20 = .ok (.istore 5, 2) := by decide +kernel
theorem dX3_nearest_22 : decode cX3_nearest 22 = .ok (.iload_n 3, 1) := by decide +kernel
theorem dX3_nearest_23 : decode cX3_nearest 23 = .ok (.iload_n 2, 1) := by decide +kernel
theorem dX3_nearest_24 : decode cX3_nearest 24 = .ok (.isub, 1) := by decide +kernel
theorem dX3_nearest_25 : decode cX3_nearest 25 = .ok (.invokestatic 92, 3) := by decide +kernel
theorem dX3_nearest_28 : decode cX3_nearest 28 = .ok (.istore 6, 2) := by decide +kernel
theorem dX3_nearest_30 : decode cX3_nearest 30 = .ok (.iload 4, 2) := by decide +kernel
theorem dX3_nearest_32 : decode cX3_nearest 32 = .ok (.iload 5, 2) := by decide +kernel
theorem dX3_nearest_34 : decode cX3_nearest 34 = .ok (.if_icmp .gt 12, 3) := by decide +kernel
theorem dX3_nearest_37 : decode cX3_nearest 37 = .ok (.iload 4, 2) := by decide +kernel
theorem dX3_nearest_39 : decode cX3_nearest 39 = .ok (.iload 6, 2) := by decide +kernel
theorem dX3_nearest_41 : decode cX3_nearest 41 = .ok (.if_icmp .gt 5, 3) := by decide +kernel
theorem dX3_nearest_44 : decode cX3_nearest 44 = .ok (.iload_n 0, 1) := by decide +kernel
theorem dX3_nearest_45 : decode cX3_nearest 45 = .ok (.ireturn, 1) := by decide +kernel
theorem dX3_nearest_46 : decode cX3_nearest 46 = .ok (.iload 5, 2) := by decide +kernel
theorem dX3_nearest_48 : decode cX3_nearest 48 = .ok (.iload 6, 2) := by decide +kernel
theorem dX3_nearest_50 : decode cX3_nearest 50 = .ok (.if_icmp .gt 7, 3) := by decide +kernel
theorem dX3_nearest_53 : decode cX3_nearest 53 = .ok (.iload_n 1, 1) := by decide +kernel
theorem dX3_nearest_54 : decode cX3_nearest 54 = .ok (.goto 4, 3) := by decide +kernel
theorem dX3_nearest_57 : decode cX3_nearest 57 = .ok (.iload_n 2, 1) := by decide +kernel
theorem dX3_nearest_58 : decode cX3_nearest 58 = .ok (.ireturn, 1) := by decide +kernel
theorem dX3_byteOr0_0 : decode cX3_byteOr0 0 = .ok (.iload_n 1, 1) := by decide +kernel
theorem dX3_byteOr0_1 : decode cX3_byteOr0 1 = .ok (.ifCond .lt 15, 3) := by decide +kernel
theorem dX3_byteOr0_4 : decode cX3_byteOr0 4 = .ok (.iload_n 1, 1) := by decide +kernel
theorem dX3_byteOr0_5 : decode cX3_byteOr0 5 = .ok (.aload_n 0, 1) := by decide +kernel
theorem dX3_byteOr0_6 : decode cX3_byteOr0 6 = .ok (.arraylength, 1) := by decide +kernel
theorem dX3_byteOr0_7 : decode cX3_byteOr0 7 = .ok (.if_icmp .ge 9, 3) := by decide +kernel
theorem dX3_byteOr0_10 : decode cX3_byteOr0 10 = .ok (.aload_n 0, 1) := by decide +kernel
theorem dX3_byteOr0_11 : decode cX3_byteOr0 11 = .ok (.iload_n 1, 1) := by decide +kernel
theorem dX3_byteOr0_12 : decode cX3_byteOr0 12 = .ok (.iaload, 1) := by decide +kernel
theorem dX3_byteOr0_13 : decode cX3_byteOr0 13 = .ok (.goto 4, 3) := by decide +kernel
theorem dX3_byteOr0_16 : decode cX3_byteOr0 16 = .ok (.iconst 0, 1) := by decide +kernel
theorem dX3_byteOr0_17 : decode cX3_byteOr0 17 = .ok (.ireturn, 1) := by decide +kernel
theorem dJA_fill_0 : decode cJA_fill 0 = .ok (.iconst 0, 1) := by decide +kernel
theorem dJA_fill_1 : decode cJA_fill 1 = .ok (.istore_n 2, 1) := by decide +kernel
theorem dJA_fill_2 : decode cJA_fill 2 = .ok (.aload_n 0, 1) := by decide +kernel
theorem dJA_fill_3 : decode cJA_fill 3 = .ok (.arraylength, 1) := by decide +kernel
theorem dJA_fill_4 : decode cJA_fill 4 = .ok (.istore_n 3, 1) := by decide +kernel
theorem dJA_fill_5 : decode cJA_fill 5 = .ok (.iload_n 2, 1) := by decide +kernel
theorem dJA_fill_6 : decode cJA_fill 6 = .ok (.iload_n 3, 1) := by decide +kernel
theorem dJA_fill_7 : decode cJA_fill 7 = .ok (.if_icmp .ge 13, 3) := by decide +kernel
theorem dJA_fill_10 : decode cJA_fill 10 = .ok (.aload_n 0, 1) := by decide +kernel
theorem dJA_fill_11 : decode cJA_fill 11 = .ok (.iload_n 2, 1) := by decide +kernel
theorem dJA_fill_12 : decode cJA_fill 12 = .ok (.iload_n 1, 1) := by decide +kernel
theorem dJA_fill_13 : decode cJA_fill 13 = .ok (.iastore, 1) := by decide +kernel
theorem dJA_fill_14 : decode cJA_fill 14 = .ok (.iinc 2 1, 3) := by decide +kernel
theorem dJA_fill_17 : decode cJA_fill 17 = .ok (.goto (-12), 3) := by decide +kernel
theorem dJA_fill_20 : decode cJA_fill 20 = .ok (.return_, 1) := by decide +kernel
