theorem dX9_byteAt_6 : decode cX9_byteAt 6 = .ok (.getfield 15, 3) := by decide +kernel
theorem dX9_byteAt_9 : decode cX9_byteAt 9 = .ok (.if_icmp .ge 25, 3) := by decide +kernel
theorem dX9_byteAt_12 : decode cX9_byteAt 12 = .ok (.iload_n 1, 1) := by decide +kernel
theorem dX9_byteAt_13 : decode cX9_byteAt 13 = .ok (.aload_n 0, 1) := by decide +kernel
theorem dX9_byteAt_14 : decode cX9_byteAt 14 = .ok (.getfield 9, 3) := by decide +kernel
theorem dX9_byteAt_17 : decode cX9_byteAt 17 = .ok (.arraylength, 1) := by decide +kernel
theorem dX9_byteAt_18 : decode cX9_byteAt 18 = .ok (.if_icmp .ge 16, 3) := by decide +kernel
theorem dX9_byteAt_21 : decode cX9_byteAt 21 = .ok (.aload_n 0, 1) := by decide +kernel
theorem dX9_byteAt_22 : decode cX9_byteAt 22 = .ok (.getfield 9, 3) := by decide +kernel
theorem dX9_byteAt_25 : decode cX9_byteAt 25 = .ok (.iload_n 1, 1) := by decide +kernel
theorem dX9_byteAt_26 : decode cX9_byteAt 26 = .ok (.baload, 1) := by decide +kernel
theorem dX9_byteAt_27 : decode cX9_byteAt 27 = .ok (.sipush 255, 3) := by decide +kernel
theorem dX9_byteAt_30 : decode cX9_byteAt 30 = .ok (.iand, 1) := by decide +kernel
theorem dX9_byteAt_31 : decode cX9_byteAt 31 = .ok (.goto 4, 3) := by decide +kernel
theorem dX9_byteAt_34 : decode cX9_byteAt 34 = .ok (.iconst (-1), 1) := by decide +kernel
theorem dX9_byteAt_35 : decode cX9_byteAt 35 = .ok (.ireturn, 1) := by decide +kernel
theorem dX9_append_0 : decode cX9_append 0 = .ok (.bipush 24, 2) := by decide +kernel
theorem dX9_append_2 : decode cX9_append 2 = .ok (.istore_n 2, 1) := by decide +kernel
theorem dX9_append_3 : decode cX9_append 3 = .ok (.iload_n 2, 1) := by decide +kernel
theorem dX9_append_4 : decode cX9_append 4 = .ok (.ifCond .lt 51, 3) := by decide +kernel
theorem dX9_append_7 : decode cX9_append 7 = .ok (.aload_n 0, 1) := by decide +kernel
theorem dX9_append_8 : decode cX9_append 8 = .ok (.getfield 15, 3) := by decide +kernel
theorem dX9_append_11 : decode cX9_append 11 = .ok (.ifCond .lt 38, 3) := by decide +kernel
theorem dX9_append_14 : decode cX9_append 14 = .ok (.aload_n 0, 1) := by decide +kernel
theorem dX9_append_15 : decode cX9_append 15 = .ok (.getfield 15, 3) := by decide +kernel
theorem dX9_append_18 : decode cX9_append 18 = .ok (.aload_n 0, 1) := by decide +kernel
theorem dX9_append_19 : decode cX9_append 19 = .ok (.getfield 9, 3) := by decide +kernel
theorem dX9_append_22 : decode cX9_append 22 = .ok (.arraylength, 1) := by decide +kernel
theorem dX9_append_23 : decode cX9_append 23 = .ok (.if_icmp .ge 26, 3) := by decide +kernel
theorem dX9_append_26 : decode cX9_append 26 = .ok (.aload_n 0, 1) := by decide +kernel
theorem dX9_append_27 : decode cX9_append 27 = .ok (.getfield 9, 3) := by decide +kernel
theorem dX9_append_30 : decode cX9_append 30 = .ok (.aload_n 0, 1) := by decide +kernel
theorem dX9_append_31 : decode cX9_append 31 = .ok (.getfield 15, 3) := by decide +kernel
theorem dX9_append_34 : decode cX9_append 34 = .ok (.iload_n 1, 1) := by decide +kernel
theorem dX9_append_35 : decode cX9_append 35 = .ok (.iload_n 2, 1) := by decide +kernel
theorem dX9_append_36 : decode cX9_append 36 = .ok (.iushr, 1) := by decide +kernel
theorem dX9_append_37 : decode cX9_append 37 = .ok (.i2b, 1) := by decide +kernel
theorem dX9_append_38 : decode cX9_append 38 = .ok (.bastore, 1) := by decide +kernel
theorem dX9_append_39 : decode cX9_append 39 = .ok (.aload_n 0, 1) := by decide +kernel
theorem dX9_append_40 : decode cX9_append 40 = .ok (.dup, 1) := by decide +kernel
theorem dX9_append_41 : decode cX9_append 41 = .ok (.getfield 15, 3) := by decide +kernel
theorem dX9_append_44 : decode cX9_append 44 = .ok (.iconst 1, 1) := by decide +kernel
theorem dX9_append_45 : decode cX9_append 45 = .ok (.iadd, 1) := by decide +kernel
theorem dX9_append_46 : decode cX9_append 46 = .ok (.putfield 15, 3) := by decide +kernel
theorem dX9_append_49 : decode cX9_append 49 = .ok (.iinc 2 (-8), 3) := by decide +kernel
theorem dX9_append_52 : decode cX9_append 52 = .ok (.goto (-49), 3) := by decide +kernel
theorem dX9_append_55 : decode cX9_append 55 = .ok (.return_, 1) := by decide +kernel
theorem dX9_shorten_0 : decode cX9_shorten 0 = .ok (.aload_n 0, 1) := by decide +kernel
theorem dX9_shorten_1 : decode cX9_shorten 1 = .ok (.iload_n 1, 1) := by decide +kernel
theorem dX9_shorten_2 : decode cX9_shorten 2 = .ok (.putfield 15, 3) := by decide +kernel
theorem dX9_shorten_5 : decode cX9_shorten 5 = .ok (.return_, 1) := by decide +kernel
theorem dX10_init_0 : decode cX10_init 0 = .ok (.aload_n 0, 1) := by decide +kernel
theorem dX10_init_1 : decode cX10_init 1 = .ok (.invokespecial 3, 3) := by decide +kernel
theorem dX10_init_4 : decode cX10_init 4 = .ok (.aload_n 0, 1) := by decide +kernel
theorem dX10_init_5 : decode cX10_init 5 = .ok (.sipush 401, 3) := by decide +kernel
theorem dX10_init_8 : decode cX10_init 8 = .ok (.anewarray 9, 3) := by decide +kernel
theorem dX10_init_11 : decode cX10_init 11 = .ok (.putfield 11, 3) := by decide +kernel
theorem dX10_init_14 : decode cX10_init 14 = .ok (.aload_n 0, 1) := by decide +kernel
theorem dX10_init_15 : decode cX10_init 15 = .ok (.sipush 401, 3) := by decide +kernel
theorem dX10_init_18 : decode cX10_init 18 = .ok (.newarray .int, 2) := by decide +kernel
theorem dX10_init_20 : decode cX10_init 20 = .ok (.putfield 17, 3) := by decide +kernel
theorem dX10_init_23 : decode cX10_init 23 = .ok (.aload_n 0, 1) := by decide +kernel
theorem dX10_init_24 : decode cX10_init 24 = .ok (.sipush 401, 3) := by decide +kernel
theorem dX10_init_27 : decode cX10_init 27 = .ok (.newarray .int, 2) := by decide +kernel
theorem dX10_init_29 : decode cX10_init 29 = .ok (.putfield 21, 3) := by decide +kernel
theorem dX10_init_32 : decode cX10_init 32 = .ok (.return_, 1) := by decide +kernel
theorem dX10_count_0 : decode cX10_count 0 = .ok (.aload_n 0, 1) := by decide +kernel
theorem dX10_count_1 : decode cX10_count 1 = .ok (.getfield 24, 3) := by decide +kernel
theorem dX10_count_4 : decode cX10_count 4 = .ok (.ireturn, 1) := by decide +kernel
theorem dX10_kindOf_0 : decode cX10_kindOf 0 = .ok (.iload_n 1, 1) := by decide +kernel
theorem dX10_kindOf_1 : decode cX10_kindOf 1 = .ok (.ifCond .lt 20, 3) := by decide +kernel
theorem dX10_kindOf_4 : decode cX10_kindOf 4 = .ok (.iload_n 1, 1) := by decide +kernel
theorem dX10_kindOf_5 : decode cX10_kindOf 5 = .ok (.aload_n 0, 1) := by decide +kernel
theorem dX10_kindOf_6 : decode cX10_kindOf 6 = .ok (.getfield 24, 3) := by decide +kernel
theorem dX10_kindOf_9 : decode cX10_kindOf 9 = .ok (.if_icmp .ge 12, 3) := by decide +kernel
theorem dX10_kindOf_12 : decode cX10_kindOf 12 = .ok (.iload_n 1, 1) := by decide +kernel
theorem dX10_kindOf_13 : decode cX10_kindOf 13 = .ok (.aload_n 0, 1) := by decide +kernel
theorem dX10_kindOf_14 : decode cX10_kindOf 14 = .ok (.getfield 11, 3) := by decide +kernel
theorem dX10_kindOf_17 : decode cX10_kindOf 17 = .ok (.arraylength, 1) := by decide +kernel
theorem dX10_kindOf_18 : decode cX10_kindOf 18 = .ok (.if_icmp .lt 7, 3) := by decide +kernel
theorem dX10_kindOf_21 : decode cX10_kindOf 21 = .ok (.getstatic 28, 3) := by decide +kernel
theorem dX10_kindOf_24 : decode cX10_kindOf 24 = .ok (.areturn, 1) := by decide +kernel
theorem dX10_kindOf_25 : decode cX10_kindOf 25 = .ok (.aload_n 0, 1) := by decide +kernel
theorem dX10_kindOf_26 : decode cX10_kindOf 26 = .ok (.getfield 11, 3) := by decide +kernel
theorem dX10_kindOf_29 : decode cX10_kindOf 29 = .ok (.iload_n 1, 1) := by decide +kernel
theorem dX10_kindOf_30 : decode cX10_kindOf 30 = .ok (.aaload, 1) := by decide +kernel
theorem dX10_kindOf_31 : decode cX10_kindOf 31 = .ok (.astore_n 2, 1) := by decide +kernel
theorem dX10_kindOf_32 : decode cX10_kindOf 32 = .ok (.aload_n 2, 1) := by decide +kernel
theorem dX10_kindOf_33 : decode cX10_kindOf 33 = .ok (.ifnonnull 9, 3) := by decide +kernel
theorem dX10_kindOf_36 : decode cX10_kindOf 36 = .ok (.getstatic 28, 3) := by decide +kernel
theorem dX10_kindOf_39 : decode cX10_kindOf 39 = .ok (.goto 4, 3) := by decide +kernel
theorem dX10_kindOf_42 : decode cX10_kindOf 42 = .ok (.aload_n 2, 1) := by decide +kernel
theorem dX10_kindOf_43 : decode cX10_kindOf 43 = .ok (.areturn, 1) := by decide +kernel
theorem dX10_startOf_0 : decode cX10_startOf 0 = .ok (.iload_n 1, 1) := by decide +kernel
theorem dX10_startOf_1 : decode cX10_startOf 1 = .ok (.ifCond .lt 21, 3) := by decide +kernel
theorem dX10_startOf_4 : decode cX10_startOf 4 = .ok (.iload_n 1, 1) := by decide +kernel
theorem dX10_startOf_5 : decode cX10_startOf 5 = .ok (.aload_n 0, 1) := by decide +kernel
theorem dX10_startOf_6 : decode cX10_startOf 6 = .ok (.getfield 17, 3) := by decide +kernel
theorem dX10_startOf_9 : decode cX10_startOf 9 = .ok (.arraylength, 1) := by decide +kernel
theorem dX10_startOf_10 : decode cX10_startOf 10 = .ok (.if_icmp .ge 12, 3) := by decide +kernel
theorem dX10_startOf_13 : decode cX10_startOf 13 = .ok (.aload_n 0, 1) := by decide +kernel
theorem dX10_startOf_14 : decode cX10_startOf 14 = .ok (.getfield 17, 3) := by decide +kernel
theorem dX10_startOf_17 : decode cX10_startOf 17 = .ok (.iload_n 1, 1) := by decide +kernel
theorem dX10_startOf_18 : decode cX10_startOf 18 = .ok (.iaload, 1) := by decide +kernel
theorem dX10_startOf_19 : decode cX10_startOf 19 = .ok (.goto 4, 3) := by decide +kernel
theorem dX10_startOf_22 : decode cX10_startOf 22 = .ok (.iconst (-1), 1) := by decide +kernel
theorem dX10_startOf_23 : decode cX10_startOf 23 = .ok (.ireturn, 1) := by decide +kernel
theorem dX10_valueOf_0 : decode cX10_valueOf 0 = .ok (.iload_n 1, 1) := by decide +kernel
theorem dX10_valueOf_1 : decode cX10_valueOf 1 = .ok (.ifCond .lt 21, 3) := by decide +kernel
theorem dX10_valueOf_4 : decode cX10_valueOf 4 = .ok (.iload_n 1, 1) := by decide +kernel
theorem dX10_valueOf_5 : decode cX10_valueOf 5 = .ok (.aload_n 0, 1) := by decide +kernel
theorem dX10_valueOf_6 : decode cX10_valueOf 6 = .ok (.getfield 21, 3) := by decide +kernel
theorem dX10_valueOf_9 : decode cX10_valueOf 9 = .ok (.arraylength, 1) := by decide +kernel
theorem dX10_valueOf_10 : decode cX10_valueOf 10 = .ok (.if_icmp .ge 12, 3) := by decide +kernel
theorem dX10_valueOf_13 : decode cX10_valueOf 13 = .ok (.aload_n 0, 1) := by decide +kernel
theorem dX10_valueOf_14 : decode cX10_valueOf 14 = .ok (.getfield 21, 3) := by decide +kernel
theorem dX10_valueOf_17 : decode cX10_valueOf 17 = .ok (.iload_n 1, 1) := by decide +kernel
theorem dX10_valueOf_18 : decode cX10_valueOf 18 = .ok (.iaload, 1) := by decide +kernel
theorem dX10_valueOf_19 : decode cX10_valueOf 19 = .ok (.goto 4, 3) := by decide +kernel
theorem dX10_valueOf_22 : decode cX10_valueOf 22 = .ok (.iconst 0, 1) := by decide +kernel
theorem dX10_valueOf_23 : decode cX10_valueOf 23 = .ok (.ireturn, 1) := by decide +kernel
theorem dX10_read_0 : decode cX10_read 0 = .ok (.aload_n 0, 1) := by decide +kernel
theorem dX10_read_1 : decode cX10_read 1 = .ok (.iconst 0, 1) := by decide +kernel
theorem dX10_read_2 : decode cX10_read 2 = .ok (.putfield 24, 3) := by decide +kernel
theorem dX10_read_5 : decode cX10_read 5 = .ok (.iconst 0, 1) := by decide +kernel
theorem dX10_read_6 : decode cX10_read 6 = .ok (.istore_n 2, 1) := by decide +kernel
theorem dX10_read_7 : decode cX10_read 7 = .ok (.iconst 0, 1) := by decide +kernel
theorem dX10_read_8 : decode cX10_read 8 = .ok (.istore_n 3, 1) := by decide +kernel
theorem dX10_read_9 : decode cX10_read 9 = .ok (.iload_n 3, 1) := by decide +kernel
theorem dX10_read_10 : decode cX10_read 10 = .ok (.sipush 400, 3) := by decide +kernel
theorem dX10_read_13 : decode cX10_read 13 = .ok (.if_icmp .gt 97, 3) := by decide +kernel
theorem dX10_read_16 : decode cX10_read 16 = .ok (.aload_n 1, 1) := by decide +kernel
theorem dX10_read_17 : decode cX10_read 17 = .ok (.iload_n 2, 1) := by decide +kernel
theorem dX10_read_18 : decode cX10_read 18 = .ok (.invokestatic 32, 3) := by decide +kernel
theorem dX10_read_21 : decode cX10_read 21 = .ok (.istore_n 2, 1) := by decide +kernel
theorem dX10_read_22 : decode cX10_read 22 = .ok (.aload_n 1, 1) := by decide +kernel
theorem dX10_read_23 : decode cX10_read 23 = .ok (.iload_n 2, 1) := by decide +kernel
theorem dX10_read_24 : decode cX10_read 24 = .ok (.invokestatic 36, 3) := by decide +kernel
theorem dX10_read_27 : decode cX10_read 27 = .ok (.istore 4, 2) := by decide +kernel
theorem dX10_read_29 : decode cX10_read 29 = .ok (.aload_n 1, 1) := by decide +kernel
theorem dX10_read_30 : decode cX10_read 30 = .ok (.iload_n 2, 1) := by decide +kernel
theorem dX10_read_31 : decode cX10_read 31 = .ok (.iload 4, 2) := by decide +kernel
theorem dX10_read_33 : decode cX10_read 33 = .ok (.invokestatic 39, 3) := by decide +kernel
theorem dX10_read_36 : decode cX10_read 36 = .ok (.astore 5, 2) := by decide +kernel
theorem dX10_read_38 : decode cX10_read 38 = .ok (.iload_n 3, 1) := by decide +kernel
theorem dX10_read_39 : decode cX10_read 39 = .ok (.sipush 400, 3) := by decide +kernel
theorem dX10_read_42 : decode cX10_read 42 = .ok (.if_icmp .ne 16, 3) := by decide +kernel
theorem dX10_read_45 : decode cX10_read 45 = .ok (.aload 5, 2) := by decide +kernel
theorem dX10_read_47 : decode cX10_read 47 = .ok (.getstatic 28, 3) := by decide +kernel
theorem dX10_read_50 : decode cX10_read 50 = .ok (.if_acmp .eq 8, 3) := by decide +kernel
theorem dX10_read_53 : decode cX10_read 53 = .ok (.getstatic 43, 3) := by decide +kernel
theorem dX10_read_56 : decode cX10_read 56 = .ok (.astore 5, 2) := by decide +kernel
theorem dX10_read_58 : decode cX10_read 58 = .ok (.aload_n 0, 1) := by decide +kernel
theorem dX10_read_59 : decode cX10_read 59 = .ok (.aload 5, 2) := by decide +kernel
theorem dX10_read_61 : decode cX10_read 61 = .ok (.iload_n 2, 1) := by decide +kernel
theorem dX10_read_62 : decode cX10_read 62 = .ok (.aload 5, 2) := by decide +kernel
theorem dX10_read_64 : decode cX10_read 64 = .ok (.getstatic 46, 3) := by decide +kernel
theorem dX10_read_67 : decode cX10_read 67 = .ok (.if_acmp .ne 13, 3) := by decide +kernel
theorem dX10_read_70 : decode cX10_read 70 = .ok (.aload_n 1, 1) := by decide +kernel
theorem dX10_read_71 : decode cX10_read 71 = .ok (.iload_n 2, 1) := by decide +kernel
theorem dX10_read_72 : decode cX10_read 72 = .ok (.iload 4, 2) := by decide +kernel
theorem dX10_read_74 : decode cX10_read 74 = .ok (.invokestatic 49, 3) := by decide +kernel
theorem dX10_read_77 : decode cX10_read 77 = .ok (.goto 4, 3) := by decide +kernel
theorem dX10_read_80 : decode cX10_read 80 = .ok (.iconst 0, 1) := by decide +kernel
theorem dX10_read_81 : decode cX10_read 81 = .ok (.invokevirtual 53, 3) := by decide +kernel
theorem dX10_read_84 : decode cX10_read 84 = .ok (.aload 5, 2) := by decide +kernel
theorem dX10_read_86 : decode cX10_read 86 = .ok (.getstatic 28, 3) := by decide +kernel
theorem dX10_read_89 : decode cX10_read 89 = .ok (.if_acmp .eq 11, 3) := by decide +kernel
theorem dX10_read_92 : decode cX10_read 92 = .ok (.aload 5, 2) := by decide +kernel
theorem dX10_read_94 : decode cX10_read 94 = .ok (.getstatic 43, 3) := by decide +kernel
theorem dX10_read_97 : decode cX10_read 97 = .ok (.if_acmp .ne 4, 3) := by decide +kernel
theorem dX10_read_100 : decode cX10_read 100 = .ok (.return_, 1) := by decide +kernel
theorem dX10_read_101 : decode cX10_read 101 = .ok (.iload 4, 2) := by decide +kernel
theorem dX10_read_103 : decode cX10_read 103 = .ok (.istore_n 2, 1) := by decide +kernel
theorem dX10_read_104 : decode cX10_read 104 = .ok (.iinc 3 1, 3) := by decide +kernel
theorem dX10_read_107 : decode cX10_read 107 = .ok (.goto (-98), 3) := by decide +kernel
theorem dX10_read_110 : decode cX10_read 110 = .ok (.return_, 1) := by decide +kernel
theorem dX10_keep_0 : decode cX10_keep 0 = .ok (.aload_n 0, 1) := by decide +kernel
theorem dX10_keep_1 : decode cX10_keep 1 = .ok (.getfield 24, 3) := by decide +kernel
theorem dX10_keep_4 : decode cX10_keep 4 = .ok (.ifCond .lt 55, 3) := by decide +kernel
theorem dX10_keep_7 : decode cX10_keep 7 = .ok (.aload_n 0, 1) := by decide +kernel
theorem dX10_keep_8 : decode cX10_keep 8 = .ok (.getfield 24, 3) := by decide +kernel
theorem dX10_keep_11 : decode cX10_keep 11 = .ok (.aload_n 0, 1) := by decide +kernel
theorem dX10_keep_12 : decode cX10_keep 12 = .ok (.getfield 11, 3) := by decide +kernel
theorem dX10_keep_15 : decode cX10_keep 15 = .ok (.arraylength, 1) := by decide +kernel
theorem dX10_keep_16 : decode cX10_keep 16 = .ok (.if_icmp .ge 43, 3) := by decide +kernel
theorem dX10_keep_19 : decode cX10_keep 19 = .ok (.aload_n 0, 1) := by decide +kernel
theorem dX10_keep_20 : decode cX10_keep 20 = .ok (.getfield 11, 3) := by decide +kernel
theorem dX10_keep_23 : decode cX10_keep 23 = .ok (.aload_n 0, 1) := by decide +kernel
theorem dX10_keep_24 : decode cX10_keep 24 = .ok (.getfield 24, 3) := by decide +kernel
theorem dX10_keep_27 : decode cX10_keep 27 = .ok (.aload_n 1, 1) := by decide +kernel
theorem dX10_keep_28 : decode cX10_keep 28 = .ok (.aastore, 1) := by decide +kernel
theorem dX10_keep_29 : decode cX10_keep 29 = .ok (.aload_n 0, 1) := by decide +kernel
theorem dX10_keep_30 : decode cX10_keep 30 = .ok (.getfield 17, 3) := by decide +kernel
theorem dX10_keep_33 : decode cX10_keep 33 = .ok (.aload_n 0, 1) := by decide +kernel
theorem dX10_keep_34 : decode cX10_keep 34 = .ok (.getfield 24, 3) := by decide +kernel
theorem dX10_keep_37 : decode cX10_keep 37 = .ok (.iload_n 2, 1) := by decide +kernel
theorem dX10_keep_38 : decode cX10_keep 38 = .ok (.iastore, 1) := by decide +kernel
theorem dX10_keep_39 : decode cX10_keep 39 = .ok (.aload_n 0, 1) := by decide +kernel
theorem dX10_keep_40 : decode cX10_keep 40 = .ok (.getfield 21, 3) := by decide +kernel
theorem dX10_keep_43 : decode cX10_keep 43 = .ok (.aload_n 0, 1) := by decide +kernel
theorem dX10_keep_44 : decode cX10_keep 44 = .ok (.getfield 24, 3) := by decide +kernel
theorem dX10_keep_47 : decode cX10_keep 47 = .ok (.iload_n 3, 1) := by decide +kernel
theorem dX10_keep_48 : decode cX10_keep 48 = .ok (.iastore, 1) := by decide +kernel
theorem dX10_keep_49 : decode cX10_keep 49 = .ok (.aload_n 0, 1) := by decide +kernel
theorem dX10_keep_50 : decode cX10_keep 50 = .ok (.dup, 1) := by decide +kernel
theorem dX10_keep_51 : decode cX10_keep 51 = .ok (.getfield 24, 3) := by decide +kernel
theorem dX10_keep_54 : decode cX10_keep 54 = .ok (.iconst 1, 1) := by decide +kernel
theorem dX10_keep_55 : decode cX10_keep 55 = .ok (.iadd, 1) := by decide +kernel
theorem dX10_keep_56 : decode cX10_keep 56 = .ok (.putfield 24, 3) := by decide +kernel
theorem dX10_keep_59 : decode cX10_keep 59 = .ok (.return_, 1) := by decide +kernel
theorem dX10_behindBlanks_0 : decode cX10_behindBlanks 0 = .ok (.iload_n 1, 1) := by decide +kernel
theorem dX10_behindBlanks_1 : decode cX10_behindBlanks 1 = .ok (.istore_n 2, 1) := by decide +kernel
theorem dX10_behindBlanks_2 : decode cX10_behindBlanks 2 = .ok (.iload_n 2, 1) := by decide +kernel
theorem dX10_behindBlanks_3 : decode cX10_behindBlanks 3 = .ok (.aload_n 0, 1) := by decide +kernel
theorem dX10_behindBlanks_4 : decode cX10_behindBlanks 4 = .ok (.invokevirtual 57, 3) := by decide +kernel
theorem dX10_behindBlanks_7 : decode cX10_behindBlanks 7 = .ok (.if_icmp .ge 20, 3) := by decide +kernel
theorem dX10_behindBlanks_10 : decode cX10_behindBlanks 10 = .ok (.aload_n 0, 1) := by decide +kernel
theorem dX10_behindBlanks_11 : decode cX10_behindBlanks 11 = .ok (.iload_n 2, 1) := by decide +kernel
theorem dX10_behindBlanks_12 : decode cX10_behindBlanks 12 = .ok (.invokevirtual 63, 3) := by decide +kernel
theorem dX10_behindBlanks_15 : decode cX10_behindBlanks 15 = .ok (.invokestatic 67, 3) := by decide +kernel
theorem dX10_behindBlanks_18 : decode cX10_behindBlanks 18 = .ok (.ifCond .eq 9, 3) := by decide +kernel
theorem dX10_behindBlanks_21 : decode cX10_behindBlanks 21 = .ok (.iinc 2 1, 3) := by decide +kernel
theorem dX10_behindBlanks_24 : decode cX10_behindBlanks 24 = .ok (.goto (-22), 3) := by decide +kernel
theorem dX10_behindBlanks_27 : decode cX10_behindBlanks 27 = .ok (.iload_n 2, 1) := by decide +kernel
theorem dX10_behindBlanks_28 : decode cX10_behindBlanks 28 = .ok (.ireturn, 1) := by decide +kernel
theorem dX10_behindToken_0 : decode cX10_behindToken 0 = .ok (.aload_n 0, 1) := by decide +kernel
theorem dX10_behindToken_1 : decode cX10_behindToken 1 = .ok (.iload_n 1, 1) := by decide +kernel
theorem dX10_behindToken_2 : decode cX10_behindToken 2 = .ok (.invokevirtual 63, 3) := by decide +kernel
theorem dX10_behindToken_5 : decode cX10_behindToken 5 = .ok (.istore_n 2, 1) := by decide +kernel
theorem dX10_behindToken_6 : decode cX10_behindToken 6 = .ok (.iload_n 1, 1) := by decide +kernel
theorem dX10_behindToken_7 : decode cX10_behindToken 7 = .ok (.iconst 1, 1) := by decide +kernel
theorem dX10_behindToken_8 : decode cX10_behindToken 8 = .ok (.iadd, 1) := by decide +kernel
theorem dX10_behindToken_9 : decode cX10_behindToken 9 = .ok (.istore_n 3, 1) := by decide +kernel
theorem dX10_behindToken_10 : decode cX10_behindToken 10 = .ok (.iload_n 2, 1) := by decide +kernel
theorem dX10_behindToken_11 : decode cX10_behindToken 11 = .ok (.invokestatic 71, 3) := by decide +kernel
theorem dX10_behindToken_14 : decode cX10_behindToken 14 = .ok (.ifCond .eq 39, 3) := by decide +kernel
theorem dX10_behindToken_17 : decode cX10_behindToken 17 = .ok (.iload_n 3, 1) := by decide +kernel
theorem dX10_behindToken_18 : decode cX10_behindToken 18 = .ok (.aload_n 0, 1) := by decide +kernel
theorem dX10_behindToken_19 : decode cX10_behindToken 19 = .ok (.invokevirtual 57, 3) := by decide +kernel
theorem dX10_behindToken_22 : decode cX10_behindToken 22 = .ok (.if_icmp .ge 88, 3) := by decide +kernel
theorem dX10_behindToken_25 : decode cX10_behindToken 25 = .ok (.aload_n 0, 1) := by decide +kernel
theorem dX10_behindToken_26 : decode cX10_behindToken 26 = .ok (.iload_n 3, 1) := by decide +kernel
theorem dX10_behindToken_27 : decode cX10_behindToken 27 = .ok (.invokevirtual 63, 3) := by decide +kernel
theorem dX10_behindToken_30 : decode cX10_behindToken 30 = .ok (.invokestatic 71, 3) := by decide +kernel
theorem dX10_behindToken_33 : decode cX10_behindToken 33 = .ok (.ifCond .ne 14, 3) := by decide +kernel
theorem dX10_behindToken_36 : decode cX10_behindToken 36 = .ok (.aload_n 0, 1) := by decide +kernel
theorem dX10_behindToken_37 : decode cX10_behindToken 37 = .ok (.iload_n 3, 1) := by decide +kernel
theorem dX10_behindToken_38 : decode cX10_behindToken 38 = .ok (.invokevirtual 63, 3) := by decide +kernel
theorem dX10_behindToken_41 : decode cX10_behindToken 41 = .ok (.invokestatic 74, 3) := by decide +kernel
theorem dX10_behindToken_44 : decode cX10_behindToken 44 = .ok (.ifCond .eq 66, 3) := by decide +kernel
theorem dX10_behindToken_47 : decode cX10_behindToken 47 = .ok (.iinc 3 1, 3) := by decide +kernel
theorem dX10_behindToken_50 : decode cX10_behindToken 50 = .ok (.goto (-33), 3) := by decide +kernel
theorem dX10_behindToken_53 : decode cX10_behindToken 53 = .ok (.iload_n 2, 1) := by decide +kernel
theorem dX10_behindToken_54 : decode cX10_behindToken 54 = .ok (.invokestatic 74, 3) := by decide +kernel
theorem dX10_behindToken_57 : decode cX10_behindToken 57 = .ok (.ifCond .eq 28, 3) := by decide +kernel
theorem dX10_behindToken_60 : decode cX10_behindToken 60 = .ok (.iload_n 3, 1) := by decide +kernel
theorem dX10_behindToken_61 : decode cX10_behindToken 61 = .ok (.aload_n 0, 1) := by decide +kernel
theorem dX10_behindToken_62 : decode cX10_behindToken 62 = .ok (.invokevirtual 57, 3) := by decide +kernel
theorem dX10_behindToken_65 : decode cX10_behindToken 65 = .ok (.if_icmp .ge 45, 3) := by decide +kernel
theorem dX10_behindToken_68 : decode cX10_behindToken 68 = .ok (.aload_n 0, 1) := by decide +kernel
theorem dX10_behindToken_69 : decode cX10_behindToken 69 = .ok (.iload_n 3, 1) := by decide +kernel
theorem dX10_behindToken_70 : decode cX10_behindToken 70 = .ok (.invokevirtual 63, 3) := by decide +kernel
theorem dX10_behindToken_73 : decode cX10_behindToken 73 = .ok (.invokestatic 74, 3) := by decide +kernel
theorem dX10_behindToken_76 : decode cX10_behindToken 76 = .ok (.ifCond .eq 34, 3) := by decide +kernel
theorem dX10_behindToken_79 : decode cX10_behindToken 79 = .ok (.iinc 3 1, 3) := by decide +kernel
theorem dX10_behindToken_82 : decode cX10_behindToken 82 = .ok (.goto (-22), 3) := by decide +kernel
theorem dX10_behindToken_85 : decode cX10_behindToken 85 = .ok (.iload_n 2, 1) := by decide +kernel
theorem dX10_behindToken_86 : decode cX10_behindToken 86 = .ok (.bipush 60, 2) := by decide +kernel
theorem dX10_behindToken_88 : decode cX10_behindToken 88 = .ok (.if_icmp .eq 9, 3) := by decide +kernel
theorem dX10_behindToken_91 : decode cX10_behindToken 91 = .ok (.iload_n 2, 1) := by decide +kernel
theorem dX10_behindToken_92 : decode cX10_behindToken 92 = .ok (.bipush 62, 2) := by decide +kernel
theorem dX10_behindToken_94 : decode cX10_behindToken 94 = .ok (.if_icmp .ne 16, 3) := by decide +kernel
theorem dX10_behindToken_97 : decode cX10_behindToken 97 = .ok (.aload_n 0, 1) := by decide +kernel
theorem dX10_behindToken_98 : decode cX10_behindToken 98 = .ok (.iload_n 3, 1) := by decide +kernel
theorem dX10_behindToken_99 : decode cX10_behindToken 99 = .ok (.invokevirtual 63, 3) := by decide +kernel
theorem dX10_behindToken_102 : decode cX10_behindToken 102 = .ok (.bipush 61, 2) := by decide +kernel
theorem dX10_behindToken_104 : decode cX10_behindToken 104 = .ok (.if_icmp .ne 6, 3) := by decide +kernel
theorem dX10_behindToken_107 : decode cX10_behindToken 107 = .ok (.iinc 3 1, 3) := by decide +kernel
theorem dX10_behindToken_110 : decode cX10_behindToken 110 = .ok (.iload_n 3, 1) := by decide +kernel
theorem dX10_behindToken_111 : decode cX10_behindToken 111 = .ok (.ireturn, 1) := by decide +kernel
theorem dX10_kindBetween_0 : decode cX10_kindBetween 0 = .ok (.iload_n 1, 1) := by decide +kernel
theorem dX10_kindBetween_1 : decode cX10_kindBetween 1 = .ok (.aload_n 0, 1) := by decide +kernel
theorem dX10_kindBetween_2 : decode cX10_kindBetween 2 = .ok (.invokevirtual 57, 3) := by decide +kernel
theorem dX10_kindBetween_5 : decode cX10_kindBetween 5 = .ok (.if_icmp .lt 7, 3) := by decide +kernel
theorem dX10_kindBetween_8 : decode cX10_kindBetween 8 = .ok (.getstatic 28, 3) := by decide +kernel
theorem dX10_kindBetween_11 : decode cX10_kindBetween 11 = .ok (.areturn, 1) := by decide +kernel
theorem dX10_kindBetween_12 : decode cX10_kindBetween 12 = .ok (.aload_n 0, 1) := by decide +kernel
theorem dX10_kindBetween_13 : decode cX10_kindBetween 13 = .ok (.iload_n 1, 1) := by decide +kernel
theorem dX10_kindBetween_14 : decode cX10_kindBetween 14 = .ok (.invokevirtual 63, 3) := by decide +kernel
theorem dX10_kindBetween_17 : decode cX10_kindBetween 17 = .ok (.invokestatic 74, 3) := by decide +kernel
theorem dX10_kindBetween_20 : decode cX10_kindBetween 20 = .ok (.ifCond .eq 21, 3) := by decide +kernel
theorem dX10_kindBetween_23 : decode cX10_kindBetween 23 = .ok (.iload_n 2, 1) := by decide +kernel
theorem dX10_kindBetween_24 : decode cX10_kindBetween 24 = .ok (.iload_n 1, 1) := by decide +kernel
theorem dX10_kindBetween_25 : decode cX10_kindBetween 25 = .ok (.isub, 1) := by decide +kernel
theorem dX10_kindBetween_26 : decode cX10_kindBetween 26 = .ok (.bipush 6, 2) := by decide +kernel
theorem dX10_kindBetween_28 : decode cX10_kindBetween 28 = .ok (.if_icmp .gt 9, 3) := by decide +kernel
theorem dX10_kindBetween_31 : decode cX10_kindBetween 31 = .ok (.getstatic 46, 3) := by decide +kernel
theorem dX10_kindBetween_34 : decode cX10_kindBetween 34 = .ok (.goto 6, 3) := by decide +kernel
theorem dX10_kindBetween_37 : decode cX10_kindBetween 37 = .ok (.getstatic 43, 3) := by decide +kernel
theorem dX10_kindBetween_40 : decode cX10_kindBetween 40 = .ok (.areturn, 1) := by decide +kernel
theorem dX10_kindBetween_41 : decode cX10_kindBetween 41 = .ok (.getstatic 77, 3) := by decide +kernel
theorem dX10_kindBetween_44 : decode cX10_kindBetween 44 = .ok (.astore_n 3, 1) := by decide +kernel
theorem dX10_kindBetween_45 : decode cX10_kindBetween 45 = .ok (.aload_n 3, 1) := by decide +kernel
theorem dX10_kindBetween_46 : decode cX10_kindBetween 46 = .ok (.arraylength, 1) := by decide +kernel
theorem dX10_kindBetween_47 : decode cX10_kindBetween 47 = .ok (.istore 4, 2) := by decide +kernel
theorem dX10_kindBetween_49 : decode cX10_kindBetween 49 = .ok (.iconst 0, 1) := by decide +kernel
theorem dX10_kindBetween_50 : decode cX10_kindBetween 50 = .ok (.istore 5, 2) := by decide +kernel
theorem dX10_kindBetween_52 : decode cX10_kindBetween 52 = .ok (.iload 5, 2) := by decide +kernel
theorem dX10_kindBetween_54 : decode cX10_kindBetween 54 = .ok (.iload 4, 2) := by decide +kernel
theorem dX10_kindBetween_56 : decode cX10_kindBetween 56 = .ok (.if_icmp .ge 29, 3) := by decide +kernel
theorem dX10_kindBetween_59 : decode cX10_kindBetween 59 = .ok (.aload_n 3, 1) := by decide +kernel
theorem dX10_kindBetween_60 : decode cX10_kindBetween 60 = .ok (.iload 5, 2) := by decide +kernel
theorem dX10_kindBetween_62 : decode cX10_kindBetween 62 = .ok (.aaload, 1) := by decide +kernel
theorem dX10_kindBetween_63 : decode cX10_kindBetween 63 = .ok (.astore 6, 2) := by decide +kernel
theorem dX10_kindBetween_65 : decode cX10_kindBetween 65 = .ok (.aload 6, 2) := by decide +kernel
theorem dX10_kindBetween_67 : decode cX10_kindBetween 67 = .ok (.aload_n 0, 1) := by decide +kernel
theorem dX10_kindBetween_68 : decode cX10_kindBetween 68 = .ok (.iload_n 1, 1) := by decide +kernel
theorem dX10_kindBetween_69 : decode cX10_kindBetween 69 = .ok (.iload_n 2, 1) := by decide +kernel
theorem dX10_kindBetween_70 : decode cX10_kindBetween 70 = .ok (.invokevirtual 80, 3) := by decide +kernel
theorem dX10_kindBetween_73 : decode cX10_kindBetween 73 = .ok (.ifCond .eq 6, 3) := by decide +kernel
theorem dX10_kindBetween_76 : decode cX10_kindBetween 76 = .ok (.aload 6, 2) := by decide +kernel
theorem dX10_kindBetween_78 : decode cX10_kindBetween 78 = .ok (.areturn, 1) := by decide +kernel
theorem dX10_kindBetween_79 : decode cX10_kindBetween 79 = .ok (.iinc 5 1, 3) := by decide +kernel
theorem dX10_kindBetween_82 : decode cX10_kindBetween 82 = .ok (.goto (-30), 3) := by decide +kernel
theorem dX10_kindBetween_85 : decode cX10_kindBetween 85 = .ok (.getstatic 43, 3) := by decide +kernel
theorem dX10_kindBetween_88 : decode cX10_kindBetween 88 = .ok (.areturn, 1) := by decide +kernel
theorem dX10_numberBetween_0 : decode cX10_numberBetween 0 = .ok (.iconst 0, 1) := by decide +kernel
theorem dX10_numberBetween_1 : decode cX10_numberBetween 1 = .ok (.istore_n 3, 1) := by decide +kernel
theorem dX10_numberBetween_2 : decode cX10_numberBetween 2 = .ok (.iload_n 1, 1) := by decide +kernel
theorem dX10_numberBetween_3 : decode cX10_numberBetween 3 = .ok (.istore 4, 2) := by decide +kernel
theorem dX10_numberBetween_5 : decode cX10_numberBetween 5 = .ok (.iload 4, 2) := by decide +kernel
theorem dX10_numberBetween_7 : decode cX10_numberBetween 7 = .ok (.iload_n 2, 1) := by decide +kernel
theorem dX10_numberBetween_8 : decode cX10_numberBetween 8 = .ok (.if_icmp .ge 24, 3) := by decide +kernel
theorem dX10_numberBetween_11 : decode cX10_numberBetween 11 = .ok (.iload_n 3, 1) := by decide +kernel
theorem dX10_numberBetween_12 : decode cX10_numberBetween 12 = .ok (.bipush 10, 2) := by decide +kernel
theorem dX10_numberBetween_14 : decode cX10_numberBetween 14 = .ok (.imul, 1) := by decide +kernel
theorem dX10_numberBetween_15 : decode cX10_numberBetween 15 = .ok (.aload_n 0, 1) := by decide +kernel
theorem dX10_numberBetween_16 : decode cX10_numberBetween 16 = .ok (.iload 4, 2) := by decide +kernel
theorem dX10_numberBetween_18 : decode cX10_numberBetween 18 = .ok (.invokevirtual 63, 3) := by decide +kernel
theorem dX10_numberBetween_21 : decode cX10_numberBetween 21 = .ok (.bipush 48, 2) := by decide +kernel
theorem dX10_numberBetween_23 : decode cX10_numberBetween 23 = .ok (.isub, 1) := by decide +kernel
theorem dX10_numberBetween_24 : decode cX10_numberBetween 24 = .ok (.iadd, 1) := by decide +kernel
theorem dX10_numberBetween_25 : decode cX10_numberBetween 25 = .ok (.istore_n 3, 1) := by decide +kernel
theorem dX10_numberBetween_26 : decode cX10_numberBetween 26 = .ok (.iinc 4 1, 3) := by decide +kernel
theorem dX10_numberBetween_29 : decode cX10_numberBetween 29 = .ok (.goto (-24), 3) := by decide +kernel
theorem dX10_numberBetween_32 : decode cX10_numberBetween 32 = .ok (.iload_n 3, 1) := by decide +kernel
theorem dX10_numberBetween_33 : decode cX10_numberBetween 33 = .ok (.ireturn, 1) := by decide +kernel
theorem dX10_isBlank_0 : decode cX10_isBlank 0 = .ok (.iload_n 0, 1) := by decide +kernel
theorem dX10_isBlank_1 : decode cX10_isBlank 1 = .ok (.bipush 32, 2) := by decide +kernel
theorem dX10_isBlank_3 : decode cX10_isBlank 3 = .ok (.if_icmp .eq 9, 3) := by decide +kernel
theorem dX10_isBlank_6 : decode cX10_isBlank 6 = .ok (.iload_n 0, 1) := by decide +kernel
theorem dX10_isBlank_7 : decode cX10_isBlank 7 = .ok (.bipush 10, 2) := by decide +kernel
theorem dX10_isBlank_9 : decode cX10_isBlank 9 = .ok (.if_icmp .ne 7, 3) := by decide +kernel
theorem dX10_isBlank_12 : decode cX10_isBlank 12 = .ok (.iconst 1, 1) := by decide +kernel
theorem dX10_isBlank_13 : decode cX10_isBlank 13 = .ok (.goto 4, 3) := by decide +kernel
theorem dX10_isBlank_16 : decode cX10_isBlank 16 = .ok (.iconst 0, 1) := by decide +kernel
theorem dX10_isBlank_17 : decode cX10_isBlank 17 = .ok (.ireturn, 1) := by decide +kernel
theorem dX10_isLetter_0 : decode cX10_isLetter 0 = .ok (.iload_n 0, 1) := by decide +kernel
theorem dX10_isLetter_1 : decode cX10_isLetter 1 = .ok (.bipush 97, 2) := by decide +kernel
theorem dX10_isLetter_3 : decode cX10_isLetter 3 = .ok (.if_icmp .lt 13, 3) := by decide +kernel
theorem dX10_isLetter_6 : decode cX10_isLetter 6 = .ok (.iload_n 0, 1) := by decide +kernel
theorem dX10_isLetter_7 : decode cX10_isLetter 7 = .ok (.bipush 122, 2) := by decide +kernel
theorem dX10_isLetter_9 : decode cX10_isLetter 9 = .ok (.if_icmp .gt 7, 3) := by decide +kernel
theorem dX10_isLetter_12 : decode cX10_isLetter 12 = .ok (.iconst 1, 1) := by decide +kernel
theorem dX10_isLetter_13 : decode cX10_isLetter 13 = .ok (.goto 4, 3) := by decide +kernel
theorem dX10_isLetter_16 : decode cX10_isLetter 16 = .ok (.iconst 0, 1) := by decide +kernel
theorem dX10_isLetter_17 : decode cX10_isLetter 17 = .ok (.ireturn, 1) := by decide +kernel
theorem dX10_isDigit_0 : decode cX10_isDigit 0 = .ok (.iload_n 0, 1) := by decide +kernel
theorem dX10_isDigit_1 : decode cX10_isDigit 1 = .ok (.bipush 48, 2) := by decide +kernel
theorem dX10_isDigit_3 : decode cX10_isDigit 3 = .ok (.if_icmp .lt 13, 3) := by decide +kernel
theorem dX10_isDigit_6 : decode cX10_isDigit 6 = .ok (.iload_n 0, 1) := by decide +kernel
theorem dX10_isDigit_7 : decode cX10_isDigit 7 = .ok (.bipush 57, 2) := by decide +kernel
theorem dX10_isDigit_9 : decode cX10_isDigit 9 = .ok (.if_icmp .gt 7, 3) := by decide +kernel
theorem dX10_isDigit_12 : decode cX10_isDigit 12 = .ok (.iconst 1, 1) := by decide +kernel
theorem dX10_isDigit_13 : decode cX10_isDigit 13 = .ok (.goto 4, 3) := by decide +kernel
theorem dX10_isDigit_16 : decode cX10_isDigit 16 = .ok (.iconst 0, 1) := by decide +kernel
theorem dX10_isDigit_17 : decode cX10_isDigit 17 = .ok (.ireturn, 1) := by decide +kernel
theorem dX11_init_0 : decode cX11_init 0 = .ok (.aload_n 0, 1) := by decide +kernel
theorem dX11_init_1 : decode cX11_init 1 = .ok (.invokespecial 3, 3) := by decide +kernel
theorem dX11_init_4 : decode cX11_init 4 = .ok (.aload_n 0, 1) := by decide +kernel
theorem dX11_init_5 : decode cX11_init 5 = .ok (.iconst 4, 1) := by decide +kernel
theorem dX11_init_6 : decode cX11_init 6 = .ok (.bipush 81, 2) := by decide +kernel
theorem dX11_init_8 : decode cX11_init 8 = .ok (.multianewarray 9 2, 4) := by decide +kernel
theorem dX11_init_12 : decode cX11_init 12 = .ok (.putfield 11, 3) := by decide +kernel
theorem dX11_init_15 : decode cX11_init 15 = .ok (.aload_n 0, 1) := by decide +kernel
theorem dX11_init_16 : decode cX11_init 16 = .ok (.iconst 4, 1) := by decide +kernel
theorem dX11_init_17 : decode cX11_init 17 = .ok (.newarray .int, 2) := by decide +kernel
theorem dX11_init_19 : decode cX11_init 19 = .ok (.putfield 16, 3) := by decide +kernel
theorem dX11_init_22 : decode cX11_init 22 = .ok (.aload_n 0, 1) := by decide +kernel
theorem dX11_init_23 : decode cX11_init 23 = .ok (.iconst 2, 1) := by decide +kernel
theorem dX11_init_24 : decode cX11_init 24 = .ok (.newarray .int, 2) := by decide +kernel
theorem dX11_init_26 : decode cX11_init 26 = .ok (.putfield 20, 3) := by decide +kernel
theorem dX11_init_29 : decode cX11_init 29 = .ok (.aload_n 0, 1) := by decide +kernel
theorem dX11_init_30 : decode cX11_init 30 = .ok (.sipush 162, 3) := by decide +kernel
theorem dX11_init_33 : decode cX11_init 33 = .ok (.newarray .int, 2) := by decide +kernel
theorem dX11_init_35 : decode cX11_init 35 = .ok (.putfield 23, 3) := by decide +kernel
theorem dX11_init_38 : decode cX11_init 38 = .ok (.aload_n 0, 1) := by decide +kernel
theorem dX11_init_39 : decode cX11_init 39 = .ok (.aload_n 1, 1) := by decide +kernel
theorem dX11_init_40 : decode cX11_init 40 = .ok (.putfield 26, 3) := by decide +kernel
theorem dX11_init_43 : decode cX11_init 43 = .ok (.aload_n 0, 1) := by decide +kernel
theorem dX11_init_44 : decode cX11_init 44 = .ok (.getfield 16, 3) := by decide +kernel
theorem dX11_init_47 : decode cX11_init 47 = .ok (.iconst (-1), 1) := by decide +kernel
theorem dX11_init_48 : decode cX11_init 48 = .ok (.invokestatic 30, 3) := by decide +kernel
theorem dX11_init_51 : decode cX11_init 51 = .ok (.return_, 1) := by decide +kernel
theorem dX11_look_0 : decode cX11_look 0 = .ok (.iconst 0, 1) := by decide +kernel
theorem dX11_look_1 : decode cX11_look 1 = .ok (.istore_n 1, 1) := by decide +kernel
theorem dX11_look_2 : decode cX11_look 2 = .ok (.iload_n 1, 1) := by decide +kernel
theorem dX11_look_3 : decode cX11_look 3 = .ok (.iconst 2, 1) := by decide +kernel
theorem dX11_look_4 : decode cX11_look 4 = .ok (.if_icmp .ge 21, 3) := by decide +kernel
theorem dX11_look_7 : decode cX11_look 7 = .ok (.aload_n 0, 1) := by decide +kernel
theorem dX11_look_8 : decode cX11_look 8 = .ok (.iconst 0, 1) := by decide +kernel
theorem dX11_look_9 : decode cX11_look 9 = .ok (.iload_n 1, 1) := by decide +kernel
theorem dX11_look_10 : decode cX11_look 10 = .ok (.invokevirtual 36, 3) := by decide +kernel
theorem dX11_look_13 : decode cX11_look 13 = .ok (.aload_n 0, 1) := by decide +kernel
theorem dX11_look_14 : decode cX11_look 14 = .ok (.iconst 1, 1) := by decide +kernel
theorem dX11_look_15 : decode cX11_look 15 = .ok (.iload_n 1, 1) := by decide +kernel
theorem dX11_look_16 : decode cX11_look 16 = .ok (.invokevirtual 36, 3) := by decide +kernel
theorem dX11_look_19 : decode cX11_look 19 = .ok (.iinc 1 1, 3) := by decide +kernel
theorem dX11_look_22 : decode cX11_look 22 = .ok (.goto (-20), 3) := by decide +kernel
theorem dX11_look_25 : decode cX11_look 25 = .ok (.return_, 1) := by decide +kernel
theorem dX11_lookFromFirstShores_0 : decode cX11_lookFromFirstShores 0 = .ok (.aload_n 0, 1) := by decide +kernel
theorem dX11_lookFromFirstShores_1 : decode cX11_lookFromFirstShores 1 = .ok (.iconst 0, 1) := by decide +kernel
theorem dX11_lookFromFirstShores_2 : decode cX11_lookFromFirstShores 2 = .ok (.iconst 0, 1) := by decide +kernel
theorem dX11_lookFromFirstShores_3 : decode cX11_lookFromFirstShores 3 = .ok (.invokevirtual 36, 3) := by decide +kernel
theorem dX11_lookFromFirstShores_6 : decode cX11_lookFromFirstShores 6 = .ok (.aload_n 0, 1) := by decide +kernel
theorem dX11_lookFromFirstShores_7 : decode cX11_lookFromFirstShores 7 = .ok (.iconst 1, 1) := by decide +kernel
theorem dX11_lookFromFirstShores_8 : decode cX11_lookFromFirstShores 8 = .ok (.iconst 0, 1) := by decide +kernel
theorem dX11_lookFromFirstShores_9 : decode cX11_lookFromFirstShores 9 = .ok (.invokevirtual 36, 3) := by decide +kernel
theorem dX11_lookFromFirstShores_12 : decode cX11_lookFromFirstShores 12 = .ok (.return_, 1) := by decide +kernel
theorem dX11_needed_0 : decode cX11_needed 0 = .ok (.iload_n 1, 1) := by decide +kernel
theorem dX11_needed_1 : decode cX11_needed 1 = .ok (.ifCond .lt 21, 3) := by decide +kernel
theorem dX11_needed_4 : decode cX11_needed 4 = .ok (.iload_n 1, 1) := by decide +kernel
theorem dX11_needed_5 : decode cX11_needed 5 = .ok (.aload_n 0, 1) := by decide +kernel
theorem dX11_needed_6 : decode cX11_needed 6 = .ok (.getfield 20, 3) := by decide +kernel
theorem dX11_needed_9 : decode cX11_needed 9 = .ok (.arraylength, 1) := by decide +kernel
theorem dX11_needed_10 : decode cX11_needed 10 = .ok (.if_icmp .ge 12, 3) := by decide +kernel
theorem dX11_needed_13 : decode cX11_needed 13 = .ok (.aload_n 0, 1) := by decide +kernel
theorem dX11_needed_14 : decode cX11_needed 14 = .ok (.getfield 20, 3) := by decide +kernel
theorem dX11_needed_17 : decode cX11_needed 17 = .ok (.iload_n 1, 1) := by decide +kernel
theorem dX11_needed_18 : decode cX11_needed 18 = .ok (.iaload, 1) := by decide +kernel
theorem dX11_needed_19 : decode cX11_needed 19 = .ok (.goto 5, 3) := by decide +kernel
theorem dX11_needed_22 : decode cX11_needed 22 = .ok (.bipush 99, 2) := by decide +kernel
theorem dX11_needed_24 : decode cX11_needed 24 = .ok (.ireturn, 1) := by decide +kernel
theorem dX11_through_0 : decode cX11_through 0 = .ok (.aload_n 0, 1) := by decide +kernel
theorem dX11_through_1 : decode cX11_through 1 = .ok (.iload_n 1, 1) := by decide +kernel
theorem dX11_through_2 : decode cX11_through 2 = .ok (.iconst 0, 1) := by decide +kernel
theorem dX11_through_3 : decode cX11_through 3 = .ok (.iload_n 2, 1) := by decide +kernel
theorem dX11_through_4 : decode cX11_through 4 = .ok (.invokevirtual 40, 3) := by decide +kernel
theorem dX11_through_7 : decode cX11_through 7 = .ok (.istore_n 3, 1) := by decide +kernel
theorem dX11_through_8 : decode cX11_through 8 = .ok (.aload_n 0, 1) := by decide +kernel
theorem dX11_through_9 : decode cX11_through 9 = .ok (.iload_n 1, 1) := by decide +kernel
theorem dX11_through_10 : decode cX11_through 10 = .ok (.iconst 1, 1) := by decide +kernel
theorem dX11_through_11 : decode cX11_through 11 = .ok (.iload_n 2, 1) := by decide +kernel
theorem dX11_through_12 : decode cX11_through 12 = .ok (.invokevirtual 40, 3) := by decide +kernel
theorem dX11_through_15 : decode cX11_through 15 = .ok (.istore 4, 2) := by decide +kernel
theorem dX11_through_17 : decode cX11_through 17 = .ok (.iload_n 3, 1) := by decide +kernel
theorem dX11_through_18 : decode cX11_through 18 = .ok (.sipush 1000, 3) := by decide +kernel
theorem dX11_through_21 : decode cX11_through 21 = .ok (.if_icmp .eq 11, 3) := by decide +kernel
theorem dX11_through_24 : decode cX11_through 24 = .ok (.iload 4, 2) := by decide +kernel
theorem dX11_through_26 : decode cX11_through 26 = .ok (.sipush 1000, 3) := by decide +kernel
theorem dX11_through_29 : decode cX11_through 29 = .ok (.if_icmp .ne 5, 3) := by decide +kernel
theorem dX11_through_32 : decode cX11_through 32 = .ok (.iconst (-1), 1) := by decide +kernel
theorem dX11_through_33 : decode cX11_through 33 = .ok (.ireturn, 1) := by decide +kernel
theorem dX11_through_34 : decode cX11_through 34 = .ok (.iload_n 3, 1) := by decide +kernel
theorem dX11_through_35 : decode cX11_through 35 = .ok (.iload 4, 2) := by decide +kernel
theorem dX11_through_37 : decode cX11_through 37 = .ok (.iadd, 1) := by decide +kernel
theorem dX11_through_38 : decode cX11_through 38 = .ok (.aload_n 0, 1) := by decide +kernel
theorem dX11_through_39 : decode cX11_through 39 = .ok (.getfield 26, 3) := by decide +kernel
theorem dX11_through_42 : decode cX11_through 42 = .ok (.iload_n 2, 1) := by decide +kernel
theorem dX11_through_43 : decode cX11_through 43 = .ok (.invokevirtual 44, 3) := by decide +kernel
theorem dX11_through_46 : decode cX11_through 46 = .ok (.ifCond .ne 7, 3) := by decide +kernel
theorem dX11_through_49 : decode cX11_through 49 = .ok (.iconst 1, 1) := by decide +kernel
theorem dX11_through_50 : decode cX11_through 50 = .ok (.goto 4, 3) := by decide +kernel
theorem dX11_through_53 : decode cX11_through 53 = .ok (.iconst 0, 1) := by decide +kernel
theorem dX11_through_54 : decode cX11_through 54 = .ok (.isub, 1) := by decide +kernel
theorem dX11_through_55 : decode cX11_through 55 = .ok (.ireturn, 1) := by decide +kernel
theorem dX11_wins_0 : decode cX11_wins 0 = .ok (.aload_n 0, 1) := by decide +kernel
theorem dX11_wins_1 : decode cX11_wins 1 = .ok (.getfield 26, 3) := by decide +kernel
theorem dX11_wins_4 : decode cX11_wins 4 = .ok (.iload_n 2, 1) := by decide +kernel
theorem dX11_wins_5 : decode cX11_wins 5 = .ok (.invokevirtual 50, 3) := by decide +kernel
theorem dX11_wins_8 : decode cX11_wins 8 = .ok (.ifCond .eq 18, 3) := by decide +kernel
theorem dX11_wins_11 : decode cX11_wins 11 = .ok (.aload_n 0, 1) := by decide +kernel
theorem dX11_wins_12 : decode cX11_wins 12 = .ok (.getfield 26, 3) := by decide +kernel
theorem dX11_wins_15 : decode cX11_wins 15 = .ok (.iload_n 2, 1) := by decide +kernel
theorem dX11_wins_16 : decode cX11_wins 16 = .ok (.invokevirtual 44, 3) := by decide +kernel
theorem dX11_wins_19 : decode cX11_wins 19 = .ok (.ifCond .ne 7, 3) := by decide +kernel
theorem dX11_wins_22 : decode cX11_wins 22 = .ok (.iconst 1, 1) := by decide +kernel
theorem dX11_wins_23 : decode cX11_wins 23 = .ok (.goto 4, 3) := by decide +kernel
theorem dX11_wins_26 : decode cX11_wins 26 = .ok (.iconst 0, 1) := by decide +kernel
theorem dX11_wins_27 : decode cX11_wins 27 = .ok (.istore_n 3, 1) := by decide +kernel
theorem dX11_wins_28 : decode cX11_wins 28 = .ok (.iload_n 3, 1) := by decide +kernel
theorem dX11_wins_29 : decode cX11_wins 29 = .ok (.ifCond .eq 25, 3) := by decide +kernel
theorem dX11_wins_32 : decode cX11_wins 32 = .ok (.aload_n 0, 1) := by decide +kernel
theorem dX11_wins_33 : decode cX11_wins 33 = .ok (.iload_n 1, 1) := by decide +kernel
theorem dX11_wins_34 : decode cX11_wins 34 = .ok (.iload_n 2, 1) := by decide +kernel
theorem dX11_wins_35 : decode cX11_wins 35 = .ok (.invokevirtual 54, 3) := by decide +kernel
theorem dX11_wins_38 : decode cX11_wins 38 = .ok (.iconst 1, 1) := by decide +kernel
theorem dX11_wins_39 : decode cX11_wins 39 = .ok (.if_icmp .eq 11, 3) := by decide +kernel
theorem dX11_wins_42 : decode cX11_wins 42 = .ok (.aload_n 0, 1) := by decide +kernel
theorem dX11_wins_43 : decode cX11_wins 43 = .ok (.iload_n 1, 1) := by decide +kernel
theorem dX11_wins_44 : decode cX11_wins 44 = .ok (.invokevirtual 58, 3) := by decide +kernel
theorem dX11_wins_47 : decode cX11_wins 47 = .ok (.ifCond .ne 7, 3) := by decide +kernel
theorem dX11_wins_50 : decode cX11_wins 50 = .ok (.iconst 1, 1) := by decide +kernel
theorem dX11_wins_51 : decode cX11_wins 51 = .ok (.goto 4, 3) := by decide +kernel
theorem dX11_wins_54 : decode cX11_wins 54 = .ok (.iconst 0, 1) := by decide +kernel
theorem dX11_wins_55 : decode cX11_wins 55 = .ok (.ireturn, 1) := by decide +kernel
theorem dX11_winningCells_0 : decode cX11_winningCells 0 = .ok (.iconst 0, 1) := by decide +kernel
theorem dX11_winningCells_1 : decode cX11_winningCells 1 = .ok (.istore_n 2, 1) := by decide +kernel
theorem dX11_winningCells_2 : decode cX11_winningCells 2 = .ok (.iconst 0, 1) := by decide +kernel
theorem dX11_winningCells_3 : decode cX11_winningCells 3 = .ok (.istore_n 3, 1) := by decide +kernel
theorem dX11_winningCells_4 : decode cX11_winningCells 4 = .ok (.iload_n 3, 1) := by decide +kernel
theorem dX11_winningCells_5 : decode cX11_winningCells 5 = .ok (.aload_n 0, 1) := by decide +kernel
theorem dX11_winningCells_6 : decode cX11_winningCells 6 = .ok (.getfield 26, 3) := by decide +kernel
theorem dX11_winningCells_9 : decode cX11_winningCells 9 = .ok (.invokevirtual 61, 3) := by decide +kernel
theorem dX11_winningCells_12 : decode cX11_winningCells 12 = .ok (.if_icmp .ge 21, 3) := by decide +kernel
theorem dX11_winningCells_15 : decode cX11_winningCells 15 = .ok (.aload_n 0, 1) := by decide +kernel
theorem dX11_winningCells_16 : decode cX11_winningCells 16 = .ok (.iload_n 1, 1) := by decide +kernel
theorem dX11_winningCells_17 : decode cX11_winningCells 17 = .ok (.iload_n 3, 1) := by decide +kernel
theorem dX11_winningCells_18 : decode cX11_winningCells 18 = .ok (.invokevirtual 65, 3) := by decide +kernel
theorem dX11_winningCells_21 : decode cX11_winningCells 21 = .ok (.ifCond .eq 6, 3) := by decide +kernel
theorem dX11_winningCells_24 : decode cX11_winningCells 24 = .ok (.iinc 2 1, 3) := by decide +kernel
theorem dX11_winningCells_27 : decode cX11_winningCells 27 = .ok (.iinc 3 1, 3) := by decide +kernel
theorem dX11_winningCells_30 : decode cX11_winningCells 30 = .ok (.goto (-26), 3) := by decide +kernel
theorem dX11_winningCells_33 : decode cX11_winningCells 33 = .ok (.iload_n 2, 1) := by decide +kernel
theorem dX11_winningCells_34 : decode cX11_winningCells 34 = .ok (.ireturn, 1) := by decide +kernel
theorem dX11_firstWinning_0 : decode cX11_firstWinning 0 = .ok (.iconst 0, 1) := by decide +kernel
theorem dX11_firstWinning_1 : decode cX11_firstWinning 1 = .ok (.istore_n 2, 1) := by decide +kernel
theorem dX11_firstWinning_2 : decode cX11_firstWinning 2 = .ok (.iload_n 2, 1) := by decide +kernel
theorem dX11_firstWinning_3 : decode cX11_firstWinning 3 = .ok (.aload_n 0, 1) := by decide +kernel
theorem dX11_firstWinning_4 : decode cX11_firstWinning 4 = .ok (.getfield 26, 3) := by decide +kernel
theorem dX11_firstWinning_7 : decode cX11_firstWinning 7 = .ok (.invokevirtual 61, 3) := by decide +kernel
theorem dX11_firstWinning_10 : decode cX11_firstWinning 10 = .ok (.if_icmp .ge 20, 3) := by decide +kernel
theorem dX11_firstWinning_13 : decode cX11_firstWinning 13 = .ok (.aload_n 0, 1) := by decide +kernel
theorem dX11_firstWinning_14 : decode cX11_firstWinning 14 = .ok (.iload_n 1, 1) := by decide +kernel
theorem dX11_firstWinning_15 : decode cX11_firstWinning 15 = .ok (.iload_n 2, 1) := by decide +kernel
theorem dX11_firstWinning_16 : decode cX11_firstWinning 16 = .ok (.invokevirtual 65, 3) := by decide +kernel
theorem dX11_firstWinning_19 : decode cX11_firstWinning 19 = .ok (.ifCond .eq 5, 3) := by decide +kernel
theorem dX11_firstWinning_22 : decode cX11_firstWinning 22 = .ok (.iload_n 2, 1) := by decide +kernel
theorem dX11_firstWinning_23 : decode cX11_firstWinning 23 = .ok (.ireturn, 1) := by decide +kernel
theorem dX11_firstWinning_24 : decode cX11_firstWinning 24 = .ok (.iinc 2 1, 3) := by decide +kernel
theorem dX11_firstWinning_27 : decode cX11_firstWinning 27 = .ok (.goto (-25), 3) := by decide +kernel
theorem dX11_firstWinning_30 : decode cX11_firstWinning 30 = .ok (.iconst (-1), 1) := by decide +kernel
theorem dX11_firstWinning_31 : decode cX11_firstWinning 31 = .ok (.ireturn, 1) := by decide +kernel
theorem dX11_nearest_0 : decode cX11_nearest 0 = .ok (.iconst (-1), 1) := by decide +kernel
theorem dX11_nearest_1 : decode cX11_nearest 1 = .ok (.istore_n 2, 1) := by decide +kernel
theorem dX11_nearest_2 : decode cX11_nearest 2 = .ok (.sipush 1000, 3) := by decide +kernel
theorem dX11_nearest_5 : decode cX11_nearest 5 = .ok (.istore_n 3, 1) := by decide +kernel
theorem dX11_nearest_6 : decode cX11_nearest 6 = .ok (.iconst 0, 1) := by decide +kernel
theorem dX11_nearest_7 : decode cX11_nearest 7 = .ok (.istore 4, 2) := by decide +kernel
theorem dX11_nearest_9 : decode cX11_nearest 9 = .ok (.iload 4, 2) := by decide +kernel
theorem dX11_nearest_11 : decode cX11_nearest 11 = .ok (.aload_n 0, 1) := by decide +kernel
theorem dX11_nearest_12 : decode cX11_nearest 12 = .ok (.getfield 26, 3) := by decide +kernel
theorem dX11_nearest_15 : decode cX11_nearest 15 = .ok (.invokevirtual 61, 3) := by decide +kernel
theorem dX11_nearest_18 : decode cX11_nearest 18 = .ok (.if_icmp .ge 52, 3) := by decide +kernel
theorem dX11_nearest_21 : decode cX11_nearest 21 = .ok (.aload_n 0, 1) := by decide +kernel
theorem dX11_nearest_22 : decode cX11_nearest 22 = .ok (.getfield 26, 3) := by decide +kernel
theorem dX11_nearest_25 : decode cX11_nearest 25 = .ok (.iload 4, 2) := by decide +kernel
theorem dX11_nearest_27 : decode cX11_nearest 27 = .ok (.invokevirtual 44, 3) := by decide +kernel
theorem dX11_nearest_30 : decode cX11_nearest 30 = .ok (.ifCond .ne 13, 3) := by decide +kernel
theorem dX11_nearest_33 : decode cX11_nearest 33 = .ok (.aload_n 0, 1) := by decide +kernel
theorem dX11_nearest_34 : decode cX11_nearest 34 = .ok (.iload_n 1, 1) := by decide +kernel
theorem dX11_nearest_35 : decode cX11_nearest 35 = .ok (.iload 4, 2) := by decide +kernel
theorem dX11_nearest_37 : decode cX11_nearest 37 = .ok (.invokevirtual 54, 3) := by decide +kernel
theorem dX11_nearest_40 : decode cX11_nearest 40 = .ok (.goto 4, 3) := by decide +kernel
theorem dX11_nearest_43 : decode cX11_nearest 43 = .ok (.iconst (-1), 1) := by decide +kernel
theorem dX11_nearest_44 : decode cX11_nearest 44 = .ok (.istore 5, 2) := by decide +kernel
theorem dX11_nearest_46 : decode cX11_nearest 46 = .ok (.iload 5, 2) := by decide +kernel
theorem dX11_nearest_48 : decode cX11_nearest 48 = .ok (.iconst (-1), 1) := by decide +kernel
theorem dX11_nearest_49 : decode cX11_nearest 49 = .ok (.if_icmp .eq 15, 3) := by decide +kernel
theorem dX11_nearest_52 : decode cX11_nearest 52 = .ok (.iload 5, 2) := by decide +kernel
theorem dX11_nearest_54 : decode cX11_nearest 54 = .ok (.iload_n 3, 1) := by decide +kernel
theorem dX11_nearest_55 : decode cX11_nearest 55 = .ok (.if_icmp .ge 9, 3) := by decide +kernel
theorem dX11_nearest_58 : decode cX11_nearest 58 = .ok (.iload 4, 2) := by decide +kernel
theorem dX11_nearest_60 : decode cX11_nearest 60 = .ok (.istore_n 2, 1) := by decide +kernel
theorem dX11_nearest_61 : decode cX11_nearest 61 = .ok (.iload 5, 2) := by decide +kernel
theorem dX11_nearest_63 : decode cX11_nearest 63 = .ok (.istore_n 3, 1) := by decide +kernel
theorem dX11_nearest_64 : decode cX11_nearest 64 = .ok (.iinc 4 1, 3) := by decide +kernel
theorem dX11_nearest_67 : decode cX11_nearest 67 = .ok (.goto (-58), 3) := by decide +kernel
theorem dX11_nearest_70 : decode cX11_nearest 70 = .ok (.iload_n 2, 1) := by decide +kernel
theorem dX11_nearest_71 : decode cX11_nearest 71 = .ok (.ireturn, 1) := by decide +kernel
theorem dX11_distance_0 : decode cX11_distance 0 = .ok (.iload_n 1, 1) := by decide +kernel
theorem dX11_distance_1 : decode cX11_distance 1 = .ok (.iconst 2, 1) := by decide +kernel
theorem dX11_distance_2 : decode cX11_distance 2 = .ok (.imul, 1) := by decide +kernel
theorem dX11_distance_3 : decode cX11_distance 3 = .ok (.iload_n 2, 1) := by decide +kernel
theorem dX11_distance_4 : decode cX11_distance 4 = .ok (.iadd, 1) := by decide +kernel
theorem dX11_distance_5 : decode cX11_distance 5 = .ok (.istore 4, 2) := by decide +kernel
theorem dX11_distance_7 : decode cX11_distance 7 = .ok (.iload 4, 2) := by decide +kernel
theorem dX11_distance_9 : decode cX11_distance 9 = .ok (.ifCond .lt 27, 3) := by decide +kernel
theorem dX11_distance_12 : decode cX11_distance 12 = .ok (.iload 4, 2) := by decide +kernel
theorem dX11_distance_14 : decode cX11_distance 14 = .ok (.aload_n 0, 1) := by decide +kernel
theorem dX11_distance_15 : decode cX11_distance 15 = .ok (.getfield 11, 3) := by decide +kernel
theorem dX11_distance_18 : decode cX11_distance 18 = .ok (.arraylength, 1) := by decide +kernel
theorem dX11_distance_19 : decode cX11_distance 19 = .ok (.if_icmp .ge 17, 3) := by decide +kernel
theorem dX11_distance_22 : decode cX11_distance 22 = .ok (.iload_n 3, 1) := by decide +kernel
theorem dX11_distance_23 : decode cX11_distance 23 = .ok (.ifCond .lt 13, 3) := by decide +kernel
theorem dX11_distance_26 : decode cX11_distance 26 = .ok (.iload_n 3, 1) := by decide +kernel
theorem dX11_distance_27 : decode cX11_distance 27 = .ok (.bipush 81, 2) := by decide +kernel
theorem dX11_distance_29 : decode cX11_distance 29 = .ok (.if_icmp .ge 7, 3) := by decide +kernel
theorem dX11_distance_32 : decode cX11_distance 32 = .ok (.iconst 1, 1) := by decide +kernel
theorem dX11_distance_33 : decode cX11_distance 33 = .ok (.goto 4, 3) := by decide +kernel
theorem dX11_distance_36 : decode cX11_distance 36 = .ok (.iconst 0, 1) := by decide +kernel
theorem dX11_distance_37 : decode cX11_distance 37 = .ok (.istore 5, 2) := by decide +kernel
theorem dX11_distance_39 : decode cX11_distance 39 = .ok (.iload 5, 2) := by decide +kernel
theorem dX11_distance_41 : decode cX11_distance 41 = .ok (.ifCond .eq 15, 3) := by decide +kernel
theorem dX11_distance_44 : decode cX11_distance 44 = .ok (.aload_n 0, 1) := by decide +kernel
theorem dX11_distance_45 : decode cX11_distance 45 = .ok (.getfield 11, 3) := by decide +kernel
theorem dX11_distance_48 : decode cX11_distance 48 = .ok (.iload 4, 2) := by decide +kernel
theorem dX11_distance_50 : decode cX11_distance 50 = .ok (.aaload, 1) := by decide +kernel
theorem dX11_distance_51 : decode cX11_distance 51 = .ok (.iload_n 3, 1) := by decide +kernel
theorem dX11_distance_52 : decode cX11_distance 52 = .ok (.iaload, 1) := by decide +kernel
theorem dX11_distance_53 : decode cX11_distance 53 = .ok (.goto 6, 3) := by decide +kernel
theorem dX11_distance_56 : decode cX11_distance 56 = .ok (.sipush 1000, 3) := by decide +kernel
theorem dX11_distance_59 : decode cX11_distance 59 = .ok (.ireturn, 1) := by decide +kernel
theorem dX11_measure_0 : decode cX11_measure 0 = .ok (.iload_n 1, 1) := by decide +kernel
theorem dX11_measure_1 : decode cX11_measure 1 = .ok (.iconst 2, 1) := by decide +kernel
theorem dX11_measure_2 : decode cX11_measure 2 = .ok (.imul, 1) := by decide +kernel
theorem dX11_measure_3 : decode cX11_measure 3 = .ok (.iload_n 2, 1) := by decide +kernel
theorem dX11_measure_4 : decode cX11_measure 4 = .ok (.iadd, 1) := by decide +kernel
theorem dX11_measure_5 : decode cX11_measure 5 = .ok (.istore_n 3, 1) := by decide +kernel
theorem dX11_measure_6 : decode cX11_measure 6 = .ok (.iload_n 3, 1) := by decide +kernel
theorem dX11_measure_7 : decode cX11_measure 7 = .ok (.ifCond .lt 28, 3) := by decide +kernel
theorem dX11_measure_10 : decode cX11_measure 10 = .ok (.iload_n 3, 1) := by decide +kernel
theorem dX11_measure_11 : decode cX11_measure 11 = .ok (.aload_n 0, 1) := by decide +kernel
theorem dX11_measure_12 : decode cX11_measure 12 = .ok (.getfield 11, 3) := by decide +kernel
theorem dX11_measure_15 : decode cX11_measure 15 = .ok (.arraylength, 1) := by decide +kernel
theorem dX11_measure_16 : decode cX11_measure 16 = .ok (.if_icmp .ge 19, 3) := by decide +kernel
theorem dX11_measure_19 : decode cX11_measure 19 = .ok (.aload_n 0, 1) := by decide +kernel
theorem dX11_measure_20 : decode cX11_measure 20 = .ok (.getfield 16, 3) := by decide +kernel
theorem dX11_measure_23 : decode cX11_measure 23 = .ok (.iload_n 3, 1) := by decide +kernel
theorem dX11_measure_24 : decode cX11_measure 24 = .ok (.iaload, 1) := by decide +kernel
theorem dX11_measure_25 : decode cX11_measure 25 = .ok (.aload_n 0, 1) := by decide +kernel
theorem dX11_measure_26 : decode cX11_measure 26 = .ok (.getfield 26, 3) := by decide +kernel
theorem dX11_measure_29 : decode cX11_measure 29 = .ok (.invokevirtual 69, 3) := by decide +kernel
theorem dX11_measure_32 : decode cX11_measure 32 = .ok (.if_icmp .ne 4, 3) := by decide +kernel
theorem dX11_measure_35 : decode cX11_measure 35 = .ok (.return_, 1) := by decide +kernel
theorem dX11_measure_36 : decode cX11_measure 36 = .ok (.aload_n 0, 1) := by decide +kernel
theorem dX11_measure_37 : decode cX11_measure 37 = .ok (.getfield 16, 3) := by decide +kernel
theorem dX11_measure_40 : decode cX11_measure 40 = .ok (.iload_n 3, 1) := by decide +kernel
theorem dX11_measure_41 : decode cX11_measure 41 = .ok (.aload_n 0, 1) := by decide +kernel
theorem dX11_measure_42 : decode cX11_measure 42 = .ok (.getfield 26, 3) := by decide +kernel
theorem dX11_measure_45 : decode cX11_measure 45 = .ok (.invokevirtual 69, 3) := by decide +kernel
theorem dX11_measure_48 : decode cX11_measure 48 = .ok (.iastore, 1) := by decide +kernel
theorem dX11_measure_49 : decode cX11_measure 49 = .ok (.aload_n 0, 1) := by decide +kernel
theorem dX11_measure_50 : decode cX11_measure 50 = .ok (.getfield 11, 3) := by decide +kernel
theorem dX11_measure_53 : decode cX11_measure 53 = .ok (.iload_n 3, 1) := by decide +kernel
theorem dX11_measure_54 : decode cX11_measure 54 = .ok (.aaload, 1) := by decide +kernel
theorem dX11_measure_55 : decode cX11_measure 55 = .ok (.astore 4, 2) := by decide +kernel
theorem dX11_measure_57 : decode cX11_measure 57 = .ok (.aload 4, 2) := by decide +kernel
theorem dX11_measure_59 : decode cX11_measure 59 = .ok (.sipush 1000, 3) := by decide +kernel
theorem dX11_measure_62 : decode cX11_measure 62 = .ok (.invokestatic 30, 3) := by decide +kernel
theorem dX11_measure_65 : decode cX11_measure 65 = .ok (.aload_n 0, 1) := by decide +kernel
theorem dX11_measure_66 : decode cX11_measure 66 = .ok (.bipush 81, 2) := by decide +kernel
theorem dX11_measure_68 : decode cX11_measure 68 = .ok (.putfield 72, 3) := by decide +kernel
theorem dX11_measure_71 : decode cX11_measure 71 = .ok (.aload_n 0, 1) := by decide +kernel
theorem dX11_measure_72 : decode cX11_measure 72 = .ok (.bipush 81, 2) := by decide +kernel
theorem dX11_measure_74 : decode cX11_measure 74 = .ok (.putfield 76, 3) := by decide +kernel
theorem dX11_measure_77 : decode cX11_measure 77 = .ok (.iconst 0, 1) := by decide +kernel
theorem dX11_measure_78 : decode cX11_measure 78 = .ok (.istore 5, 2) := by decide +kernel
theorem dX11_measure_80 : decode cX11_measure 80 = .ok (.iload 5, 2) := by decide +kernel
theorem dX11_measure_82 : decode cX11_measure 82 = .ok (.aload_n 0, 1) := by decide +kernel
theorem dX11_measure_83 : decode cX11_measure 83 = .ok (.getfield 26, 3) := by decide +kernel
theorem dX11_measure_86 : decode cX11_measure 86 = .ok (.invokevirtual 61, 3) := by decide +kernel
theorem dX11_measure_89 : decode cX11_measure 89 = .ok (.if_icmp .ge 33, 3) := by decide +kernel
theorem dX11_measure_92 : decode cX11_measure 92 = .ok (.aload_n 0, 1) := by decide +kernel
theorem dX11_measure_93 : decode cX11_measure 93 = .ok (.getfield 26, 3) := by decide +kernel
theorem dX11_measure_96 : decode cX11_measure 96 = .ok (.iload_n 1, 1) := by decide +kernel
theorem dX11_measure_97 : decode cX11_measure 97 = .ok (.iload_n 2, 1) := by decide +kernel
theorem dX11_measure_98 : decode cX11_measure 98 = .ok (.iload 5, 2) := by decide +kernel
theorem dX11_measure_100 : decode cX11_measure 100 = .ok (.invokevirtual 79, 3) := by decide +kernel
theorem dX11_measure_103 : decode cX11_measure 103 = .ok (.ifCond .eq 13, 3) := by decide +kernel
theorem dX11_measure_106 : decode cX11_measure 106 = .ok (.aload_n 0, 1) := by decide +kernel
theorem dX11_measure_107 : decode cX11_measure 107 = .ok (.iload_n 1, 1) := by decide +kernel
theorem dX11_measure_108 : decode cX11_measure 108 = .ok (.aload 4, 2) := by decide +kernel
theorem dX11_measure_110 : decode cX11_measure 110 = .ok (.iload 5, 2) := by decide +kernel
theorem dX11_measure_112 : decode cX11_measure 112 = .ok (.iconst 0, 1) := by decide +kernel
theorem dX11_measure_113 : decode cX11_measure 113 = .ok (.invokevirtual 83, 3) := by decide +kernel
theorem dX11_measure_116 : decode cX11_measure 116 = .ok (.iinc 5 1, 3) := by decide +kernel
theorem dX11_measure_119 : decode cX11_measure 119 = .ok (.goto (-39), 3) := by decide +kernel
theorem dX11_measure_122 : decode cX11_measure 122 = .ok (.iconst 0, 1) := by decide +kernel
theorem dX11_measure_123 : decode cX11_measure 123 = .ok (.istore 5, 2) := by decide +kernel
theorem dX11_measure_125 : decode cX11_measure 125 = .ok (.iload 5, 2) := by decide +kernel
theorem dX11_measure_127 : decode cX11_measure 127 = .ok (.bipush 81, 2) := by decide +kernel
theorem dX11_measure_129 : decode cX11_measure 129 = .ok (.if_icmp .ge 116, 3) := by decide +kernel
theorem dX11_measure_132 : decode cX11_measure 132 = .ok (.aload_n 0, 1) := by decide +kernel
theorem dX11_measure_133 : decode cX11_measure 133 = .ok (.getfield 72, 3) := by decide +kernel
theorem dX11_measure_136 : decode cX11_measure 136 = .ok (.aload_n 0, 1) := by decide +kernel
theorem dX11_measure_137 : decode cX11_measure 137 = .ok (.getfield 76, 3) := by decide +kernel
theorem dX11_measure_140 : decode cX11_measure 140 = .ok (.if_icmp .ge 105, 3) := by decide +kernel
theorem dX11_measure_143 : decode cX11_measure 143 = .ok (.aload_n 0, 1) := by decide +kernel
theorem dX11_measure_144 : decode cX11_measure 144 = .ok (.getfield 72, 3) := by decide +kernel
theorem dX11_measure_147 : decode cX11_measure 147 = .ok (.ifCond .lt 27, 3) := by decide +kernel
theorem dX11_measure_150 : decode cX11_measure 150 = .ok (.aload_n 0, 1) := by decide +kernel
theorem dX11_measure_151 : decode cX11_measure 151 = .ok (.getfield 72, 3) := by decide +kernel
theorem dX11_measure_154 : decode cX11_measure 154 = .ok (.aload_n 0, 1) := by decide +kernel
theorem dX11_measure_155 : decode cX11_measure 155 = .ok (.getfield 23, 3) := by decide +kernel
theorem dX11_measure_158 : decode cX11_measure 158 = .ok (.arraylength, 1) := by decide +kernel
theorem dX11_measure_159 : decode cX11_measure 159 = .ok (.if_icmp .ge 15, 3) := by decide +kernel
theorem dX11_measure_162 : decode cX11_measure 162 = .ok (.aload_n 0, 1) := by decide +kernel
theorem dX11_measure_163 : decode cX11_measure 163 = .ok (.getfield 23, 3) := by decide +kernel
theorem dX11_measure_166 : decode cX11_measure 166 = .ok (.aload_n 0, 1) := by decide +kernel
theorem dX11_measure_167 : decode cX11_measure 167 = .ok (.getfield 72, 3) := by decide +kernel
theorem dX11_measure_170 : decode cX11_measure 170 = .ok (.iaload, 1) := by decide +kernel
theorem dX11_measure_171 : decode cX11_measure 171 = .ok (.goto 4, 3) := by decide +kernel
theorem dX11_measure_174 : decode cX11_measure 174 = .ok (.iconst (-1), 1) := by decide +kernel
theorem dX11_measure_175 : decode cX11_measure 175 = .ok (.istore 6, 2) := by decide +kernel
theorem dX11_measure_177 : decode cX11_measure 177 = .ok (.aload_n 0, 1) := by decide +kernel
theorem dX11_measure_178 : decode cX11_measure 178 = .ok (.dup, 1) := by decide +kernel
theorem dX11_measure_179 : decode cX11_measure 179 = .ok (.getfield 72, 3) := by decide +kernel
theorem dX11_measure_182 : decode cX11_measure 182 = .ok (.iconst 1, 1) := by decide +kernel
theorem dX11_measure_183 : decode cX11_measure 183 = .ok (.iadd, 1) := by decide +kernel
theorem dX11_measure_184 : decode cX11_measure 184 = .ok (.putfield 72, 3) := by decide +kernel
theorem dX11_measure_187 : decode cX11_measure 187 = .ok (.iconst 0, 1) := by decide +kernel
theorem dX11_measure_188 : decode cX11_measure 188 = .ok (.istore 7, 2) := by decide +kernel
theorem dX11_measure_190 : decode cX11_measure 190 = .ok (.iload 7, 2) := by decide +kernel
theorem dX11_measure_192 : decode cX11_measure 192 = .ok (.bipush 6, 2) := by decide +kernel
theorem dX11_measure_194 : decode cX11_measure 194 = .ok (.if_icmp .ge 45, 3) := by decide +kernel
theorem dX11_measure_197 : decode cX11_measure 197 = .ok (.iload 6, 2) := by decide +kernel
theorem dX11_measure_199 : decode cX11_measure 199 = .ok (.ifCond .lt 40, 3) := by decide +kernel
theorem dX11_measure_202 : decode cX11_measure 202 = .ok (.iload 6, 2) := by decide +kernel
theorem dX11_measure_204 : decode cX11_measure 204 = .ok (.aload 4, 2) := by decide +kernel
theorem dX11_measure_206 : decode cX11_measure 206 = .ok (.arraylength, 1) := by decide +kernel
theorem dX11_measure_207 : decode cX11_measure 207 = .ok (.if_icmp .ge 32, 3) := by decide +kernel
theorem dX11_measure_210 : decode cX11_measure 210 = .ok (.aload_n 0, 1) := by decide +kernel
theorem dX11_measure_211 : decode cX11_measure 211 = .ok (.iload_n 1, 1) := by decide +kernel
theorem dX11_measure_212 : decode cX11_measure 212 = .ok (.aload 4, 2) := by decide +kernel
theorem dX11_measure_214 : decode cX11_measure 214 = .ok (.aload_n 0, 1) := by decide +kernel
theorem dX11_measure_215 : decode cX11_measure 215 = .ok (.getfield 26, 3) := by decide +kernel
theorem dX11_measure_218 : decode cX11_measure 218 = .ok (.iload 6, 2) := by decide +kernel
theorem dX11_measure_220 : decode cX11_measure 220 = .ok (.iload 7, 2) := by decide +kernel
theorem dX11_measure_222 : decode cX11_measure 222 = .ok (.invokevirtual 87, 3) := by decide +kernel
theorem dX11_measure_225 : decode cX11_measure 225 = .ok (.aload 4, 2) := by decide +kernel
theorem dX11_measure_227 : decode cX11_measure 227 = .ok (.iload 6, 2) := by decide +kernel
theorem dX11_measure_229 : decode cX11_measure 229 = .ok (.iaload, 1) := by decide +kernel
theorem dX11_measure_230 : decode cX11_measure 230 = .ok (.invokevirtual 83, 3) := by decide +kernel
theorem dX11_measure_233 : decode cX11_measure 233 = .ok (.iinc 7 1, 3) := by decide +kernel
theorem dX11_measure_236 : decode cX11_measure 236 = .ok (.goto (-46), 3) := by decide +kernel
theorem dX11_measure_239 : decode cX11_measure 239 = .ok (.iinc 5 1, 3) := by decide +kernel
theorem dX11_measure_242 : decode cX11_measure 242 = .ok (.goto (-117), 3) := by decide +kernel
theorem dX11_measure_245 : decode cX11_measure 245 = .ok (.iload_n 2, 1) := by decide +kernel
theorem dX11_measure_246 : decode cX11_measure 246 = .ok (.ifCond .ne 27, 3) := by decide +kernel
theorem dX11_measure_249 : decode cX11_measure 249 = .ok (.iload_n 1, 1) := by decide +kernel
theorem dX11_measure_250 : decode cX11_measure 250 = .ok (.ifCond .lt 23, 3) := by decide +kernel
theorem dX11_measure_253 : decode cX11_measure 253 = .ok (.iload_n 1, 1) := by decide +kernel
theorem dX11_measure_254 : decode cX11_measure 254 = .ok (.aload_n 0, 1) := by decide +kernel
theorem dX11_measure_255 : decode cX11_measure 255 = .ok (.getfield 20, 3) := by decide +kernel
theorem dX11_measure_258 : decode cX11_measure 258 = .ok (.arraylength, 1) := by decide +kernel
theorem dX11_measure_259 : decode cX11_measure 259 = .ok (.if_icmp .ge 14, 3) := by decide +kernel
theorem dX11_measure_262 : decode cX11_measure 262 = .ok (.aload_n 0, 1) := by decide +kernel
theorem dX11_measure_263 : decode cX11_measure 263 = .ok (.getfield 20, 3) := by decide +kernel
theorem dX11_measure_266 : decode cX11_measure 266 = .ok (.iload_n 1, 1) := by decide +kernel
theorem dX11_measure_267 : decode cX11_measure 267 = .ok (.aload_n 0, 1) := by decide +kernel
theorem dX11_measure_268 : decode cX11_measure 268 = .ok (.iload_n 1, 1) := by decide +kernel
theorem dX11_measure_269 : decode cX11_measure 269 = .ok (.invokevirtual 90, 3) := by decide +kernel
theorem dX11_measure_272 : decode cX11_measure 272 = .ok (.iastore, 1) := by decide +kernel
theorem dX11_measure_273 : decode cX11_measure 273 = .ok (.return_, 1) := by decide +kernel
theorem dX11_fewestAtOtherShore_0 : decode cX11_fewestAtOtherShore 0 = .ok (.sipush 1000, 3) := by decide +kernel
theorem dX11_fewestAtOtherShore_3 : decode cX11_fewestAtOtherShore 3 = .ok (.istore_n 2, 1) := by decide +kernel
theorem dX11_fewestAtOtherShore_4 : decode cX11_fewestAtOtherShore 4 = .ok (.iconst 0, 1) := by decide +kernel
theorem dX11_fewestAtOtherShore_5 : decode cX11_fewestAtOtherShore 5 = .ok (.istore_n 3, 1) := by decide +kernel
theorem dX11_fewestAtOtherShore_6 : decode cX11_fewestAtOtherShore 6 = .ok (.iload_n 3, 1) := by decide +kernel
theorem dX11_fewestAtOtherShore_7 : decode cX11_fewestAtOtherShore 7 = .ok (.aload_n 0, 1) := by decide +kernel
theorem dX11_fewestAtOtherShore_8 : decode cX11_fewestAtOtherShore 8 = .ok (.getfield 26, 3) := by decide +kernel
theorem dX11_fewestAtOtherShore_11 : decode cX11_fewestAtOtherShore 11 = .ok (.invokevirtual 61, 3) := by decide +kernel
theorem dX11_fewestAtOtherShore_14 : decode cX11_fewestAtOtherShore 14 = .ok (.if_icmp .ge 34, 3) := by decide +kernel
theorem dX11_fewestAtOtherShore_17 : decode cX11_fewestAtOtherShore 17 = .ok (.aload_n 0, 1) := by decide +kernel
theorem dX11_fewestAtOtherShore_18 : decode cX11_fewestAtOtherShore 18 = .ok (.getfield 26, 3) := by decide +kernel
theorem dX11_fewestAtOtherShore_21 : decode cX11_fewestAtOtherShore 21 = .ok (.iload_n 1, 1) := by decide +kernel
theorem dX11_fewestAtOtherShore_22 : decode cX11_fewestAtOtherShore 22 = .ok (.iconst 1, 1) := by decide +kernel
theorem dX11_fewestAtOtherShore_23 : decode cX11_fewestAtOtherShore 23 = .ok (.iload_n 3, 1) := by decide +kernel
theorem dX11_fewestAtOtherShore_24 : decode cX11_fewestAtOtherShore 24 = .ok (.invokevirtual 79, 3) := by decide +kernel
theorem dX11_fewestAtOtherShore_27 : decode cX11_fewestAtOtherShore 27 = .ok (.ifCond .eq 15, 3) := by decide +kernel
theorem dX11_fewestAtOtherShore_30 : decode cX11_fewestAtOtherShore 30 = .ok (.iload_n 2, 1) := by decide +kernel
theorem dX11_fewestAtOtherShore_31 : decode cX11_fewestAtOtherShore 31 = .ok (.aload_n 0, 1) := by decide +kernel
theorem dX11_fewestAtOtherShore_32 : decode cX11_fewestAtOtherShore 32 = .ok (.iload_n 1, 1) := by decide +kernel
theorem dX11_fewestAtOtherShore_33 : decode cX11_fewestAtOtherShore 33 = .ok (.iconst 0, 1) := by decide +kernel
theorem dX11_fewestAtOtherShore_34 : decode cX11_fewestAtOtherShore 34 = .ok (.iload_n 3, 1) := by decide +kernel
theorem dX11_fewestAtOtherShore_35 : decode cX11_fewestAtOtherShore 35 = .ok (.invokevirtual 40, 3) := by decide +kernel
theorem dX11_fewestAtOtherShore_38 : decode cX11_fewestAtOtherShore 38 = .ok (.invokestatic 93, 3) := by decide +kernel
theorem dX11_fewestAtOtherShore_41 : decode cX11_fewestAtOtherShore 41 = .ok (.istore_n 2, 1) := by decide +kernel
theorem dX11_fewestAtOtherShore_42 : decode cX11_fewestAtOtherShore 42 = .ok (.iinc 3 1, 3) := by decide +kernel
theorem dX11_fewestAtOtherShore_45 : decode cX11_fewestAtOtherShore 45 = .ok (.goto (-39), 3) := by decide +kernel
theorem dX11_fewestAtOtherShore_48 : decode cX11_fewestAtOtherShore 48 = .ok (.iload_n 2, 1) := by decide +kernel
theorem dX11_fewestAtOtherShore_49 : decode cX11_fewestAtOtherShore 49 = .ok (.sipush 1000, 3) := by decide +kernel
theorem dX11_fewestAtOtherShore_52 : decode cX11_fewestAtOtherShore 52 = .ok (.if_icmp .ne 8, 3) := by decide +kernel
theorem dX11_fewestAtOtherShore_55 : decode cX11_fewestAtOtherShore 55 = .ok (.bipush 99, 2) := by decide +kernel
theorem dX11_fewestAtOtherShore_57 : decode cX11_fewestAtOtherShore 57 = .ok (.goto 4, 3) := by decide +kernel
theorem dX11_fewestAtOtherShore_60 : decode cX11_fewestAtOtherShore 60 = .ok (.iload_n 2, 1) := by decide +kernel
theorem dX11_fewestAtOtherShore_61 : decode cX11_fewestAtOtherShore 61 = .ok (.ireturn, 1) := by decide +kernel
theorem dX11_reach_0 : decode cX11_reach 0 = .ok (.iload_n 3, 1) := by decide +kernel
theorem dX11_reach_1 : decode cX11_reach 1 = .ok (.ifCond .lt 18, 3) := by decide +kernel
theorem dX11_reach_4 : decode cX11_reach 4 = .ok (.iload_n 3, 1) := by decide +kernel
theorem dX11_reach_5 : decode cX11_reach 5 = .ok (.aload_n 2, 1) := by decide +kernel
theorem dX11_reach_6 : decode cX11_reach 6 = .ok (.arraylength, 1) := by decide +kernel
theorem dX11_reach_7 : decode cX11_reach 7 = .ok (.if_icmp .ge 12, 3) := by decide +kernel
theorem dX11_reach_10 : decode cX11_reach 10 = .ok (.aload_n 2, 1) := by decide +kernel
theorem dX11_reach_11 : decode cX11_reach 11 = .ok (.iload_n 3, 1) := by decide +kernel
theorem dX11_reach_12 : decode cX11_reach 12 = .ok (.iaload, 1) := by decide +kernel
theorem dX11_reach_13 : decode cX11_reach 13 = .ok (.sipush 1000, 3) := by decide +kernel
theorem dX11_reach_16 : decode cX11_reach 16 = .ok (.if_icmp .eq 4, 3) := by decide +kernel
theorem dX11_reach_19 : decode cX11_reach 19 = .ok (.return_, 1) := by decide +kernel
theorem dX11_reach_20 : decode cX11_reach 20 = .ok (.aload_n 0, 1) := by decide +kernel
theorem dX11_reach_21 : decode cX11_reach 21 = .ok (.getfield 26, 3) := by decide +kernel
theorem dX11_reach_24 : decode cX11_reach 24 = .ok (.iload_n 3, 1) := by decide +kernel
theorem dX11_reach_25 : decode cX11_reach 25 = .ok (.invokevirtual 44, 3) := by decide +kernel
theorem dX11_reach_28 : decode cX11_reach 28 = .ok (.istore 5, 2) := by decide +kernel
theorem dX11_reach_30 : decode cX11_reach 30 = .ok (.iload 5, 2) := by decide +kernel
theorem dX11_reach_32 : decode cX11_reach 32 = .ok (.ifCond .ne 52, 3) := by decide +kernel
theorem dX11_reach_35 : decode cX11_reach 35 = .ok (.aload_n 0, 1) := by decide +kernel
theorem dX11_reach_36 : decode cX11_reach 36 = .ok (.getfield 76, 3) := by decide +kernel
theorem dX11_reach_39 : decode cX11_reach 39 = .ok (.ifCond .lt 45, 3) := by decide +kernel
theorem dX11_reach_42 : decode cX11_reach 42 = .ok (.aload_n 0, 1) := by decide +kernel
theorem dX11_reach_43 : decode cX11_reach 43 = .ok (.getfield 76, 3) := by decide +kernel
theorem dX11_reach_46 : decode cX11_reach 46 = .ok (.aload_n 0, 1) := by decide +kernel
theorem dX11_reach_47 : decode cX11_reach 47 = .ok (.getfield 23, 3) := by decide +kernel
theorem dX11_reach_50 : decode cX11_reach 50 = .ok (.arraylength, 1) := by decide +kernel
theorem dX11_reach_51 : decode cX11_reach 51 = .ok (.if_icmp .ge 33, 3) := by decide +kernel
theorem dX11_reach_54 : decode cX11_reach 54 = .ok (.aload_n 2, 1) := by decide +kernel
theorem dX11_reach_55 : decode cX11_reach 55 = .ok (.iload_n 3, 1) := by decide +kernel
theorem dX11_reach_56 : decode cX11_reach 56 = .ok (.iload 4, 2) := by decide +kernel
theorem dX11_reach_58 : decode cX11_reach 58 = .ok (.iconst 1, 1) := by decide +kernel
theorem dX11_reach_59 : decode cX11_reach 59 = .ok (.iadd, 1) := by decide +kernel
theorem dX11_reach_60 : decode cX11_reach 60 = .ok (.iastore, 1) := by decide +kernel
theorem dX11_reach_61 : decode cX11_reach 61 = .ok (.aload_n 0, 1) := by decide +kernel
theorem dX11_reach_62 : decode cX11_reach 62 = .ok (.getfield 23, 3) := by decide +kernel
theorem dX11_reach_65 : decode cX11_reach 65 = .ok (.aload_n 0, 1) := by decide +kernel
theorem dX11_reach_66 : decode cX11_reach 66 = .ok (.getfield 76, 3) := by decide +kernel
theorem dX11_reach_69 : decode cX11_reach 69 = .ok (.iload_n 3, 1) := by decide +kernel
theorem dX11_reach_70 : decode cX11_reach 70 = .ok (.iastore, 1) := by decide +kernel
theorem dX11_reach_71 : decode cX11_reach 71 = .ok (.aload_n 0, 1) := by decide +kernel
theorem dX11_reach_72 : decode cX11_reach 72 = .ok (.dup, 1) := by decide +kernel
theorem dX11_reach_73 : decode cX11_reach 73 = .ok (.getfield 76, 3) := by decide +kernel
theorem dX11_reach_76 : decode cX11_reach 76 = .ok (.iconst 1, 1) := by decide +kernel
theorem dX11_reach_77 : decode cX11_reach 77 = .ok (.iadd, 1) := by decide +kernel
theorem dX11_reach_78 : decode cX11_reach 78 = .ok (.putfield 76, 3) := by decide +kernel
theorem dX11_reach_81 : decode cX11_reach 81 = .ok (.goto 55, 3) := by decide +kernel
theorem dX11_reach_84 : decode cX11_reach 84 = .ok (.iload 5, 2) := by decide +kernel
theorem dX11_reach_86 : decode cX11_reach 86 = .ok (.iload_n 1, 1) := by decide +kernel
theorem dX11_reach_87 : decode cX11_reach 87 = .ok (.iconst 1, 1) := by decide +kernel
theorem dX11_reach_88 : decode cX11_reach 88 = .ok (.iadd, 1) := by decide +kernel
theorem dX11_reach_89 : decode cX11_reach 89 = .ok (.if_icmp .ne 47, 3) := by decide +kernel
theorem dX11_reach_92 : decode cX11_reach 92 = .ok (.aload_n 0, 1) := by decide +kernel
theorem dX11_reach_93 : decode cX11_reach 93 = .ok (.getfield 72, 3) := by decide +kernel
theorem dX11_reach_96 : decode cX11_reach 96 = .ok (.ifCond .le 40, 3) := by decide +kernel
theorem dX11_reach_99 : decode cX11_reach 99 = .ok (.aload_n 0, 1) := by decide +kernel
theorem dX11_reach_100 : decode cX11_reach 100 = .ok (.getfield 72, 3) := by decide +kernel
theorem dX11_reach_103 : decode cX11_reach 103 = .ok (.aload_n 0, 1) := by decide +kernel
theorem dX11_reach_104 : decode cX11_reach 104 = .ok (.getfield 23, 3) := by decide +kernel
theorem dX11_reach_107 : decode cX11_reach 107 = .ok (.arraylength, 1) := by decide +kernel
theorem dX11_reach_108 : decode cX11_reach 108 = .ok (.if_icmp .gt 28, 3) := by decide +kernel
theorem dX11_reach_111 : decode cX11_reach 111 = .ok (.aload_n 2, 1) := by decide +kernel
theorem dX11_reach_112 : decode cX11_reach 112 = .ok (.iload_n 3, 1) := by decide +kernel
theorem dX11_reach_113 : decode cX11_reach 113 = .ok (.iload 4, 2) := by decide +kernel
theorem dX11_reach_115 : decode cX11_reach 115 = .ok (.iastore, 1) := by decide +kernel
theorem dX11_reach_116 : decode cX11_reach 116 = .ok (.aload_n 0, 1) := by decide +kernel
theorem dX11_reach_117 : decode cX11_reach 117 = .ok (.dup, 1) := by decide +kernel
theorem dX11_reach_118 : decode cX11_reach 118 = .ok (.getfield 72, 3) := by decide +kernel
theorem dX11_reach_121 : decode cX11_reach 121 = .ok (.iconst 1, 1) := by decide +kernel
theorem dX11_reach_122 : decode cX11_reach 122 = .ok (.isub, 1) := by decide +kernel
theorem dX11_reach_123 : decode cX11_reach 123 = .ok (.putfield 72, 3) := by decide +kernel
theorem dX11_reach_126 : decode cX11_reach 126 = .ok (.aload_n 0, 1) := by decide +kernel
theorem dX11_reach_127 : decode cX11_reach 127 = .ok (.getfield 23, 3) := by decide +kernel
theorem dX11_reach_130 : decode cX11_reach 130 = .ok (.aload_n 0, 1) := by decide +kernel
theorem dX11_reach_131 : decode cX11_reach 131 = .ok (.getfield 72, 3) := by decide +kernel
theorem dX11_reach_134 : decode cX11_reach 134 = .ok (.iload_n 3, 1) := by decide +kernel
theorem dX11_reach_135 : decode cX11_reach 135 = .ok (.iastore, 1) := by decide +kernel
theorem dX11_reach_136 : decode cX11_reach 136 = .ok (.return_, 1) := by decide +kernel
theorem dX12_init_0 : decode cX12_init 0 = .ok (.aload_n 0, 1) := by decide +kernel
theorem dX12_init_1 : decode cX12_init 1 = .ok (.invokespecial 3, 3) := by decide +kernel
theorem dX12_init_4 : decode cX12_init 4 = .ok (.aload_n 0, 1) := by decide +kernel
theorem dX12_init_5 : decode cX12_init 5 = .ok (.new 9, 3) := by decide +kernel
theorem dX12_init_8 : decode cX12_init 8 = .ok (.dup, 1) := by decide +kernel
theorem dX12_init_9 : decode cX12_init 9 = .ok (.invokespecial 11, 3) := by decide +kernel
theorem dX12_init_12 : decode cX12_init 12 = .ok (.putfield 12, 3) := by decide +kernel
theorem dX12_init_15 : decode cX12_init 15 = .ok (.aload_n 0, 1) := by decide +kernel
theorem dX12_init_16 : decode cX12_init 16 = .ok (.new 16, 3) := by decide +kernel
theorem dX12_init_19 : decode cX12_init 19 = .ok (.dup, 1) := by decide +kernel
theorem dX12_init_20 : decode cX12_init 20 = .ok (.invokespecial 18, 3) := by decide +kernel
theorem dX12_init_23 : decode cX12_init 23 = .ok (.putfield 19, 3) := by decide +kernel
theorem dX12_init_26 : decode cX12_init 26 = .ok (.aload_n 0, 1) := by decide +kernel
theorem dX12_init_27 : decode cX12_init 27 = .ok (.new 23, 3) := by decide +kernel
theorem dX12_init_30 : decode cX12_init 30 = .ok (.dup, 1) := by decide +kernel
theorem dX12_init_31 : decode cX12_init 31 = .ok (.invokespecial 25, 3) := by decide +kernel
theorem dX12_init_34 : decode cX12_init 34 = .ok (.putfield 26, 3) := by decide +kernel
theorem dX12_init_37 : decode cX12_init 37 = .ok (.aload_n 0, 1) := by decide +kernel
theorem dX12_init_38 : decode cX12_init 38 = .ok (.new 30, 3) := by decide +kernel
theorem dX12_init_41 : decode cX12_init 41 = .ok (.dup, 1) := by decide +kernel
theorem dX12_init_42 : decode cX12_init 42 = .ok (.aload_n 0, 1) := by decide +kernel
theorem dX12_init_43 : decode cX12_init 43 = .ok (.getfield 19, 3) := by decide +kernel
theorem dX12_init_46 : decode cX12_init 46 = .ok (.aload_n 0, 1) := by decide +kernel
theorem dX12_init_47 : decode cX12_init 47 = .ok (.getfield 26, 3) := by decide +kernel
theorem dX12_init_50 : decode cX12_init 50 = .ok (.invokespecial 32, 3) := by decide +kernel
theorem dX12_init_53 : decode cX12_init 53 = .ok (.putfield 35, 3) := by decide +kernel
theorem dX12_init_56 : decode cX12_init 56 = .ok (.aload_n 0, 1) := by decide +kernel
theorem dX12_init_57 : decode cX12_init 57 = .ok (.new 39, 3) := by decide +kernel
theorem dX12_init_60 : decode cX12_init 60 = .ok (.dup, 1) := by decide +kernel
theorem dX12_init_61 : decode cX12_init 61 = .ok (.aload_n 0, 1) := by decide +kernel
theorem dX12_init_62 : decode cX12_init 62 = .ok (.getfield 19, 3) := by decide +kernel
theorem dX12_init_65 : decode cX12_init 65 = .ok (.invokespecial 41, 3) := by decide +kernel
theorem dX12_init_68 : decode cX12_init 68 = .ok (.putfield 44, 3) := by decide +kernel
theorem dX12_init_71 : decode cX12_init 71 = .ok (.aload_n 0, 1) := by decide +kernel
theorem dX12_init_72 : decode cX12_init 72 = .ok (.new 48, 3) := by decide +kernel
theorem dX12_init_75 : decode cX12_init 75 = .ok (.dup, 1) := by decide +kernel
theorem dX12_init_76 : decode cX12_init 76 = .ok (.invokespecial 50, 3) := by decide +kernel
theorem dX12_init_79 : decode cX12_init 79 = .ok (.putfield 51, 3) := by decide +kernel
theorem dX12_init_82 : decode cX12_init 82 = .ok (.aload_n 0, 1) := by decide +kernel
theorem dX12_init_83 : decode cX12_init 83 = .ok (.new 55, 3) := by decide +kernel
theorem dX12_init_86 : decode cX12_init 86 = .ok (.dup, 1) := by decide +kernel
theorem dX12_init_87 : decode cX12_init 87 = .ok (.aload_n 0, 1) := by decide +kernel
theorem dX12_init_88 : decode cX12_init 88 = .ok (.getfield 51, 3) := by decide +kernel
theorem dX12_init_91 : decode cX12_init 91 = .ok (.invokespecial 57, 3) := by decide +kernel
theorem dX12_init_94 : decode cX12_init 94 = .ok (.putfield 60, 3) := by decide +kernel
theorem dX12_init_97 : decode cX12_init 97 = .ok (.aload_n 0, 1) := by decide +kernel
theorem dX12_init_98 : decode cX12_init 98 = .ok (.new 64, 3) := by decide +kernel
theorem dX12_init_101 : decode cX12_init 101 = .ok (.dup, 1) := by decide +kernel
theorem dX12_init_102 : decode cX12_init 102 = .ok (.aload_n 0, 1) := by decide +kernel
theorem dX12_init_103 : decode cX12_init 103 = .ok (.getfield 51, 3) := by decide +kernel
theorem dX12_init_106 : decode cX12_init 106 = .ok (.invokespecial 66, 3) := by decide +kernel
theorem dX12_init_109 : decode cX12_init 109 = .ok (.putfield 67, 3) := by decide +kernel
theorem dX12_init_112 : decode cX12_init 112 = .ok (.aload_n 0, 1) := by decide +kernel
theorem dX12_init_113 : decode cX12_init 113 = .ok (.new 71, 3) := by decide +kernel
theorem dX12_init_116 : decode cX12_init 116 = .ok (.dup, 1) := by decide +kernel
theorem dX12_init_117 : decode cX12_init 117 = .ok (.aload_n 0, 1) := by decide +kernel
theorem dX12_init_118 : decode cX12_init 118 = .ok (.getfield 51, 3) := by decide +kernel
theorem dX12_init_121 : decode cX12_init 121 = .ok (.invokespecial 73, 3) := by decide +kernel
theorem dX12_init_124 : decode cX12_init 124 = .ok (.putfield 74, 3) := by decide +kernel
theorem dX12_init_127 : decode cX12_init 127 = .ok (.aload_n 0, 1) := by decide +kernel
theorem dX12_init_128 : decode cX12_init 128 = .ok (.new 78, 3) := by decide +kernel
theorem dX12_init_131 : decode cX12_init 131 = .ok (.dup, 1) := by decide +kernel
theorem dX12_init_132 : decode cX12_init 132 = .ok (.aload_n 0, 1) := by decide +kernel
theorem dX12_init_133 : decode cX12_init 133 = .ok (.getfield 51, 3) := by decide +kernel
theorem dX12_init_136 : decode cX12_init 136 = .ok (.aload_n 0, 1) := by decide +kernel
theorem dX12_init_137 : decode cX12_init 137 = .ok (.getfield 67, 3) := by decide +kernel
theorem dX12_init_140 : decode cX12_init 140 = .ok (.aload_n 0, 1) := by decide +kernel
theorem dX12_init_141 : decode cX12_init 141 = .ok (.getfield 74, 3) := by decide +kernel
theorem dX12_init_144 : decode cX12_init 144 = .ok (.invokespecial 80, 3) := by decide +kernel
theorem dX12_init_147 : decode cX12_init 147 = .ok (.putfield 83, 3) := by decide +kernel
theorem dX12_init_150 : decode cX12_init 150 = .ok (.aload_n 0, 1) := by decide +kernel
theorem dX12_init_151 : decode cX12_init 151 = .ok (.new 23, 3) := by decide +kernel
theorem dX12_init_154 : decode cX12_init 154 = .ok (.dup, 1) := by decide +kernel
theorem dX12_init_155 : decode cX12_init 155 = .ok (.invokespecial 25, 3) := by decide +kernel
theorem dX12_init_158 : decode cX12_init 158 = .ok (.putfield 87, 3) := by decide +kernel
theorem dX12_init_161 : decode cX12_init 161 = .ok (.aload_n 0, 1) := by decide +kernel
theorem dX12_init_162 : decode cX12_init 162 = .ok (.iconst (-1), 1) := by decide +kernel
theorem dX12_init_163 : decode cX12_init 163 = .ok (.putfield 90, 3) := by decide +kernel
theorem dX12_init_166 : decode cX12_init 166 = .ok (.return_, 1) := by decide +kernel
theorem dX12_feed_0 : decode cX12_feed 0 = .ok (.aload_n 0, 1) := by decide +kernel
theorem dX12_feed_1 : decode cX12_feed 1 = .ok (.getfield 12, 3) := by decide +kernel
theorem dX12_feed_4 : decode cX12_feed 4 = .ok (.invokevirtual 94, 3) := by decide +kernel
theorem dX12_feed_7 : decode cX12_feed 7 = .ok (.bipush 20, 2) := by decide +kernel
theorem dX12_feed_9 : decode cX12_feed 9 = .ok (.iadd, 1) := by decide +kernel
theorem dX12_feed_10 : decode cX12_feed 10 = .ok (.sipush 2000, 3) := by decide +kernel
theorem dX12_feed_13 : decode cX12_feed 13 = .ok (.if_icmp .le 13, 3) := by decide +kernel
theorem dX12_feed_16 : decode cX12_feed 16 = .ok (.new 98, 3) := by decide +kernel
theorem dX12_feed_19 : decode cX12_feed 19 = .ok (.dup, 1) := by decide +kernel
theorem dX12_feed_20 : decode cX12_feed 20 = .ok (.ldc 100, 2) := by decide +kernel
theorem dX12_feed_22 : decode cX12_feed 22 = .ok (.invokespecial 102, 3) := by decide +kernel
theorem dX12_feed_25 : decode cX12_feed 25 = .ok (.athrow, 1) := by decide +kernel
theorem dX12_feed_26 : decode cX12_feed 26 = .ok (.aload_n 0, 1) := by decide +kernel
theorem dX12_feed_27 : decode cX12_feed 27 = .ok (.getfield 12, 3) := by decide +kernel
theorem dX12_feed_30 : decode cX12_feed 30 = .ok (.iload_n 1, 1) := by decide +kernel
theorem dX12_feed_31 : decode cX12_feed 31 = .ok (.invokevirtual 105, 3) := by decide +kernel
theorem dX12_feed_34 : decode cX12_feed 34 = .ok (.aload_n 0, 1) := by decide +kernel
theorem dX12_feed_35 : decode cX12_feed 35 = .ok (.getfield 12, 3) := by decide +kernel
theorem dX12_feed_38 : decode cX12_feed 38 = .ok (.iload_n 2, 1) := by decide +kernel
theorem dX12_feed_39 : decode cX12_feed 39 = .ok (.invokevirtual 105, 3) := by decide +kernel
theorem dX12_feed_42 : decode cX12_feed 42 = .ok (.aload_n 0, 1) := by decide +kernel
theorem dX12_feed_43 : decode cX12_feed 43 = .ok (.getfield 12, 3) := by decide +kernel
theorem dX12_feed_46 : decode cX12_feed 46 = .ok (.iload_n 3, 1) := by decide +kernel
theorem dX12_feed_47 : decode cX12_feed 47 = .ok (.invokevirtual 105, 3) := by decide +kernel
theorem dX12_feed_50 : decode cX12_feed 50 = .ok (.aload_n 0, 1) := by decide +kernel
theorem dX12_feed_51 : decode cX12_feed 51 = .ok (.getfield 12, 3) := by decide +kernel
theorem dX12_feed_54 : decode cX12_feed 54 = .ok (.iload 4, 2) := by decide +kernel
theorem dX12_feed_56 : decode cX12_feed 56 = .ok (.invokevirtual 105, 3) := by decide +kernel
theorem dX12_feed_59 : decode cX12_feed 59 = .ok (.aload_n 0, 1) := by decide +kernel
theorem dX12_feed_60 : decode cX12_feed 60 = .ok (.getfield 12, 3) := by decide +kernel
theorem dX12_feed_63 : decode cX12_feed 63 = .ok (.iload 5, 2) := by decide +kernel
theorem dX12_feed_65 : decode cX12_feed 65 = .ok (.invokevirtual 105, 3) := by decide +kernel
theorem dX12_feed_68 : decode cX12_feed 68 = .ok (.aload_n 0, 1) := by decide +kernel
theorem dX12_feed_69 : decode cX12_feed 69 = .ok (.getfield 12, 3) := by decide +kernel
theorem dX12_feed_72 : decode cX12_feed 72 = .ok (.invokevirtual 94, 3) := by decide +kernel
theorem dX12_feed_75 : decode cX12_feed 75 = .ok (.ireturn, 1) := by decide +kernel
theorem dX12_trim_0 : decode cX12_trim 0 = .ok (.iload_n 1, 1) := by decide +kernel
theorem dX12_trim_1 : decode cX12_trim 1 = .ok (.ifCond .lt 14, 3) := by decide +kernel
theorem dX12_trim_4 : decode cX12_trim 4 = .ok (.iload_n 1, 1) := by decide +kernel
theorem dX12_trim_5 : decode cX12_trim 5 = .ok (.aload_n 0, 1) := by decide +kernel
theorem dX12_trim_6 : decode cX12_trim 6 = .ok (.getfield 12, 3) := by decide +kernel
theorem dX12_trim_9 : decode cX12_trim 9 = .ok (.invokevirtual 94, 3) := by decide +kernel
theorem dX12_trim_12 : decode cX12_trim 12 = .ok (.if_icmp .le 13, 3) := by decide +kernel
theorem dX12_trim_15 : decode cX12_trim 15 = .ok (.new 109, 3) := by decide +kernel
theorem dX12_trim_18 : decode cX12_trim 18 = .ok (.dup, 1) := by decide +kernel
theorem dX12_trim_19 : decode cX12_trim 19 = .ok (.ldc 111, 2) := by decide +kernel
theorem dX12_trim_21 : decode cX12_trim 21 = .ok (.invokespecial 113, 3) := by decide +kernel
theorem dX12_trim_24 : decode cX12_trim 24 = .ok (.athrow, 1) := by decide +kernel
theorem dX12_trim_25 : decode cX12_trim 25 = .ok (.aload_n 0, 1) := by decide +kernel
theorem dX12_trim_26 : decode cX12_trim 26 = .ok (.getfield 12, 3) := by decide +kernel
theorem dX12_trim_29 : decode cX12_trim 29 = .ok (.iload_n 1, 1) := by decide +kernel
theorem dX12_trim_30 : decode cX12_trim 30 = .ok (.invokevirtual 114, 3) := by decide +kernel
theorem dX12_trim_33 : decode cX12_trim 33 = .ok (.iload_n 1, 1) := by decide +kernel
theorem dX12_trim_34 : decode cX12_trim 34 = .ok (.ireturn, 1) := by decide +kernel
theorem dX12_teach_0 : decode cX12_teach 0 = .ok (.aload_n 0, 1) := by decide +kernel
theorem dX12_teach_1 : decode cX12_teach 1 = .ok (.getfield 19, 3) := by decide +kernel
theorem dX12_teach_4 : decode cX12_teach 4 = .ok (.aload_n 0, 1) := by decide +kernel
theorem dX12_teach_5 : decode cX12_teach 5 = .ok (.getfield 12, 3) := by decide +kernel
theorem dX12_teach_8 : decode cX12_teach 8 = .ok (.invokevirtual 117, 3) := by decide +kernel
theorem dX12_teach_11 : decode cX12_teach 11 = .ok (.aload_n 0, 1) := by decide +kernel
theorem dX12_teach_12 : decode cX12_teach 12 = .ok (.getfield 12, 3) := by decide +kernel
theorem dX12_teach_15 : decode cX12_teach 15 = .ok (.iconst 0, 1) := by decide +kernel
theorem dX12_teach_16 : decode cX12_teach 16 = .ok (.invokevirtual 114, 3) := by decide +kernel
theorem dX12_teach_19 : decode cX12_teach 19 = .ok (.aload_n 0, 1) := by decide +kernel
theorem dX12_teach_20 : decode cX12_teach 20 = .ok (.getfield 35, 3) := by decide +kernel
theorem dX12_teach_23 : decode cX12_teach 23 = .ok (.aload_n 0, 1) := by decide +kernel
theorem dX12_teach_24 : decode cX12_teach 24 = .ok (.getfield 26, 3) := by decide +kernel
theorem dX12_teach_27 : decode cX12_teach 27 = .ok (.invokevirtual 121, 3) := by decide +kernel
theorem dX12_teach_30 : decode cX12_teach 30 = .ok (.istore_n 1, 1) := by decide +kernel
theorem dX12_teach_31 : decode cX12_teach 31 = .ok (.iload_n 1, 1) := by decide +kernel
theorem dX12_teach_32 : decode cX12_teach 32 = .ok (.iconst (-1), 1) := by decide +kernel
theorem dX12_teach_33 : decode cX12_teach 33 = .ok (.if_icmp .ne 7, 3) := by decide +kernel
theorem dX12_teach_36 : decode cX12_teach 36 = .ok (.iconst 0, 1) := by decide +kernel
theorem dX12_teach_37 : decode cX12_teach 37 = .ok (.goto 4, 3) := by decide +kernel
theorem dX12_teach_40 : decode cX12_teach 40 = .ok (.iconst 1, 1) := by decide +kernel
theorem dX12_teach_41 : decode cX12_teach 41 = .ok (.istore_n 2, 1) := by decide +kernel
theorem dX12_teach_42 : decode cX12_teach 42 = .ok (.iload_n 2, 1) := by decide +kernel
theorem dX12_teach_43 : decode cX12_teach 43 = .ok (.ifCond .ne 19, 3) := by decide +kernel
theorem dX12_teach_46 : decode cX12_teach 46 = .ok (.aload_n 0, 1) := by decide +kernel
theorem dX12_teach_47 : decode cX12_teach 47 = .ok (.getfield 44, 3) := by decide +kernel
theorem dX12_teach_50 : decode cX12_teach 50 = .ok (.invokevirtual 125, 3) := by decide +kernel
theorem dX12_teach_53 : decode cX12_teach 53 = .ok (.istore_n 2, 1) := by decide +kernel
theorem dX12_teach_54 : decode cX12_teach 54 = .ok (.aload_n 0, 1) := by decide +kernel
theorem dX12_teach_55 : decode cX12_teach 55 = .ok (.getfield 44, 3) := by decide +kernel
theorem dX12_teach_58 : decode cX12_teach 58 = .ok (.invokevirtual 128, 3) := by decide +kernel
theorem dX12_teach_61 : decode cX12_teach 61 = .ok (.istore_n 1, 1) := by decide +kernel
theorem dX12_teach_62 : decode cX12_teach 62 = .ok (.aload_n 0, 1) := by decide +kernel
theorem dX12_teach_63 : decode cX12_teach 63 = .ok (.iload_n 2, 1) := by decide +kernel
theorem dX12_teach_64 : decode cX12_teach 64 = .ok (.ifCond .ne 7, 3) := by decide +kernel
theorem dX12_teach_67 : decode cX12_teach 67 = .ok (.iconst (-1), 1) := by decide +kernel
theorem dX12_teach_68 : decode cX12_teach 68 = .ok (.goto 11, 3) := by decide +kernel
theorem dX12_teach_71 : decode cX12_teach 71 = .ok (.aload_n 0, 1) := by decide +kernel
theorem dX12_teach_72 : decode cX12_teach 72 = .ok (.getfield 19, 3) := by decide +kernel
theorem dX12_teach_75 : decode cX12_teach 75 = .ok (.iload_n 1, 1) := by decide +kernel
theorem dX12_teach_76 : decode cX12_teach 76 = .ok (.invokevirtual 131, 3) := by decide +kernel
theorem dX12_teach_79 : decode cX12_teach 79 = .ok (.putfield 90, 3) := by decide +kernel
theorem dX12_teach_82 : decode cX12_teach 82 = .ok (.iload_n 2, 1) := by decide +kernel
theorem dX12_teach_83 : decode cX12_teach 83 = .ok (.ifCond .ne 7, 3) := by decide +kernel
theorem dX12_teach_86 : decode cX12_teach 86 = .ok (.aload_n 0, 1) := by decide +kernel
theorem dX12_teach_87 : decode cX12_teach 87 = .ok (.invokevirtual 135, 3) := by decide +kernel
theorem dX12_teach_90 : decode cX12_teach 90 = .ok (.iload_n 2, 1) := by decide +kernel
theorem dX12_teach_91 : decode cX12_teach 91 = .ok (.ireturn, 1) := by decide +kernel
theorem dX12_beginTaughtGame_0 : decode cX12_beginTaughtGame 0 = .ok (.aload_n 0, 1) := by decide +kernel
theorem dX12_beginTaughtGame_1 : decode cX12_beginTaughtGame 1 = .ok (.getfield 26, 3) := by decide +kernel
theorem dX12_beginTaughtGame_4 : decode cX12_beginTaughtGame 4 = .ok (.astore_n 1, 1) := by decide +kernel
theorem dX12_beginTaughtGame_5 : decode cX12_beginTaughtGame 5 = .ok (.aload_n 0, 1) := by decide +kernel
theorem dX12_beginTaughtGame_6 : decode cX12_beginTaughtGame 6 = .ok (.aload_n 0, 1) := by decide +kernel
theorem dX12_beginTaughtGame_7 : decode cX12_beginTaughtGame 7 = .ok (.getfield 87, 3) := by decide +kernel
theorem dX12_beginTaughtGame_10 : decode cX12_beginTaughtGame 10 = .ok (.putfield 26, 3) := by decide +kernel
theorem dX12_beginTaughtGame_13 : decode cX12_beginTaughtGame 13 = .ok (.aload_n 0, 1) := by decide +kernel
theorem dX12_beginTaughtGame_14 : decode cX12_beginTaughtGame 14 = .ok (.aload_n 1, 1) := by decide +kernel
theorem dX12_beginTaughtGame_15 : decode cX12_beginTaughtGame 15 = .ok (.putfield 87, 3) := by decide +kernel
theorem dX12_beginTaughtGame_18 : decode cX12_beginTaughtGame 18 = .ok (.aload_n 0, 1) := by decide +kernel
theorem dX12_beginTaughtGame_19 : decode cX12_beginTaughtGame 19 = .ok (.getfield 51, 3) := by decide +kernel
theorem dX12_beginTaughtGame_22 : decode cX12_beginTaughtGame 22 = .ok (.aload_n 0, 1) := by decide +kernel
theorem dX12_beginTaughtGame_23 : decode cX12_beginTaughtGame 23 = .ok (.getfield 44, 3) := by decide +kernel
theorem dX12_beginTaughtGame_26 : decode cX12_beginTaughtGame 26 = .ok (.invokevirtual 138, 3) := by decide +kernel
theorem dX12_beginTaughtGame_29 : decode cX12_beginTaughtGame 29 = .ok (.aload_n 0, 1) := by decide +kernel
theorem dX12_beginTaughtGame_30 : decode cX12_beginTaughtGame 30 = .ok (.getfield 44, 3) := by decide +kernel
theorem dX12_beginTaughtGame_33 : decode cX12_beginTaughtGame 33 = .ok (.invokevirtual 141, 3) := by decide +kernel
theorem dX12_beginTaughtGame_36 : decode cX12_beginTaughtGame 36 = .ok (.invokevirtual 144, 3) := by decide +kernel
theorem dX12_beginTaughtGame_39 : decode cX12_beginTaughtGame 39 = .ok (.iconst 0, 1) := by decide +kernel
theorem dX12_beginTaughtGame_40 : decode cX12_beginTaughtGame 40 = .ok (.istore_n 2, 1) := by decide +kernel
theorem dX12_beginTaughtGame_41 : decode cX12_beginTaughtGame 41 = .ok (.iload_n 2, 1) := by decide +kernel
theorem dX12_beginTaughtGame_42 : decode cX12_beginTaughtGame 42 = .ok (.aload_n 0, 1) := by decide +kernel
theorem dX12_beginTaughtGame_43 : decode cX12_beginTaughtGame 43 = .ok (.getfield 51, 3) := by decide +kernel
theorem dX12_beginTaughtGame_46 : decode cX12_beginTaughtGame 46 = .ok (.invokevirtual 148, 3) := by decide +kernel
theorem dX12_beginTaughtGame_49 : decode cX12_beginTaughtGame 49 = .ok (.if_icmp .ge 25, 3) := by decide +kernel
theorem dX12_beginTaughtGame_52 : decode cX12_beginTaughtGame 52 = .ok (.aload_n 0, 1) := by decide +kernel
theorem dX12_beginTaughtGame_53 : decode cX12_beginTaughtGame 53 = .ok (.getfield 51, 3) := by decide +kernel
theorem dX12_beginTaughtGame_56 : decode cX12_beginTaughtGame 56 = .ok (.iload_n 2, 1) := by decide +kernel
theorem dX12_beginTaughtGame_57 : decode cX12_beginTaughtGame 57 = .ok (.aload_n 0, 1) := by decide +kernel
theorem dX12_beginTaughtGame_58 : decode cX12_beginTaughtGame 58 = .ok (.getfield 44, 3) := by decide +kernel
theorem dX12_beginTaughtGame_61 : decode cX12_beginTaughtGame 61 = .ok (.iload_n 2, 1) := by decide +kernel
theorem dX12_beginTaughtGame_62 : decode cX12_beginTaughtGame 62 = .ok (.invokevirtual 151, 3) := by decide +kernel
theorem dX12_beginTaughtGame_65 : decode cX12_beginTaughtGame 65 = .ok (.invokevirtual 154, 3) := by decide +kernel
theorem dX12_beginTaughtGame_68 : decode cX12_beginTaughtGame 68 = .ok (.iinc 2 1, 3) := by decide +kernel
theorem dX12_beginTaughtGame_71 : decode cX12_beginTaughtGame 71 = .ok (.goto (-30), 3) := by decide +kernel
theorem dX12_beginTaughtGame_74 : decode cX12_beginTaughtGame 74 = .ok (.return_, 1) := by decide +kernel
theorem dX12_errorAt_0 : decode cX12_errorAt 0 = .ok (.aload_n 0, 1) := by decide +kernel
theorem dX12_errorAt_1 : decode cX12_errorAt 1 = .ok (.getfield 90, 3) := by decide +kernel
theorem dX12_errorAt_4 : decode cX12_errorAt 4 = .ok (.ireturn, 1) := by decide +kernel
theorem dX12_columns_0 : decode cX12_columns 0 = .ok (.aload_n 0, 1) := by decide +kernel
theorem dX12_columns_1 : decode cX12_columns 1 = .ok (.getfield 51, 3) := by decide +kernel
theorem dX12_columns_4 : decode cX12_columns 4 = .ok (.invokevirtual 157, 3) := by decide +kernel
theorem dX12_columns_7 : decode cX12_columns 7 = .ok (.ireturn, 1) := by decide +kernel
theorem dX12_rows_0 : decode cX12_rows 0 = .ok (.aload_n 0, 1) := by decide +kernel
theorem dX12_rows_1 : decode cX12_rows 1 = .ok (.getfield 51, 3) := by decide +kernel
theorem dX12_rows_4 : decode cX12_rows 4 = .ok (.invokevirtual 158, 3) := by decide +kernel
theorem dX12_rows_7 : decode cX12_rows 7 = .ok (.ireturn, 1) := by decide +kernel
theorem dX12_plans_0 : decode cX12_plans 0 = .ok (.aload_n 0, 1) := by decide +kernel
theorem dX12_plans_1 : decode cX12_plans 1 = .ok (.getfield 87, 3) := by decide +kernel
theorem dX12_plans_4 : decode cX12_plans 4 = .ok (.invokevirtual 159, 3) := by decide +kernel
theorem dX12_plans_7 : decode cX12_plans 7 = .ok (.ireturn, 1) := by decide +kernel
theorem dX12_stonesToTakeBack_0 : decode cX12_stonesToTakeBack 0 = .ok (.aload_n 0, 1) := by decide +kernel
theorem dX12_stonesToTakeBack_1 : decode cX12_stonesToTakeBack 1 = .ok (.getfield 51, 3) := by decide +kernel
theorem dX12_stonesToTakeBack_4 : decode cX12_stonesToTakeBack 4 = .ok (.invokevirtual 162, 3) := by decide +kernel
theorem dX12_stonesToTakeBack_7 : decode cX12_stonesToTakeBack 7 = .ok (.ireturn, 1) := by decide +kernel
theorem dX12_tapeBytes_0 : decode cX12_tapeBytes 0 = .ok (.aload_n 0, 1) := by decide +kernel
theorem dX12_tapeBytes_1 : decode cX12_tapeBytes 1 = .ok (.getfield 12, 3) := by decide +kernel
theorem dX12_tapeBytes_4 : decode cX12_tapeBytes 4 = .ok (.invokevirtual 94, 3) := by decide +kernel
theorem dX12_tapeBytes_7 : decode cX12_tapeBytes 7 = .ok (.ireturn, 1) := by decide +kernel
theorem dX12_emptyCells_0 : decode cX12_emptyCells 0 = .ok (.aload_n 0, 1) := by decide +kernel
theorem dX12_emptyCells_1 : decode cX12_emptyCells 1 = .ok (.getfield 51, 3) := by decide +kernel
theorem dX12_emptyCells_4 : decode cX12_emptyCells 4 = .ok (.invokevirtual 165, 3) := by decide +kernel
theorem dX12_emptyCells_7 : decode cX12_emptyCells 7 = .ok (.ireturn, 1) := by decide +kernel
theorem dX12_stonesOf_0 : decode cX12_stonesOf 0 = .ok (.iload_n 1, 1) := by decide +kernel
theorem dX12_stonesOf_1 : decode cX12_stonesOf 1 = .ok (.invokestatic 168, 3) := by decide +kernel
theorem dX12_stonesOf_4 : decode cX12_stonesOf 4 = .ok (.aload_n 0, 1) := by decide +kernel
theorem dX12_stonesOf_5 : decode cX12_stonesOf 5 = .ok (.getfield 51, 3) := by decide +kernel
theorem dX12_stonesOf_8 : decode cX12_stonesOf 8 = .ok (.iload_n 1, 1) := by decide +kernel
theorem dX12_stonesOf_9 : decode cX12_stonesOf 9 = .ok (.invokevirtual 171, 3) := by decide +kernel
theorem dX12_stonesOf_12 : decode cX12_stonesOf 12 = .ok (.ireturn, 1) := by decide +kernel
theorem dX12_isEmpty_0 : decode cX12_isEmpty 0 = .ok (.aload_n 0, 1) := by decide +kernel
theorem dX12_isEmpty_1 : decode cX12_isEmpty 1 = .ok (.getfield 51, 3) := by decide +kernel
theorem dX12_isEmpty_4 : decode cX12_isEmpty 4 = .ok (.aload_n 0, 1) := by decide +kernel
theorem dX12_isEmpty_5 : decode cX12_isEmpty 5 = .ok (.iload_n 1, 1) := by decide +kernel
theorem dX12_isEmpty_6 : decode cX12_isEmpty 6 = .ok (.iload_n 2, 1) := by decide +kernel
theorem dX12_isEmpty_7 : decode cX12_isEmpty 7 = .ok (.invokevirtual 174, 3) := by decide +kernel
theorem dX12_isEmpty_10 : decode cX12_isEmpty 10 = .ok (.invokevirtual 178, 3) := by decide +kernel
theorem dX12_isEmpty_13 : decode cX12_isEmpty 13 = .ok (.ifCond .ne 7, 3) := by decide +kernel
theorem dX12_isEmpty_16 : decode cX12_isEmpty 16 = .ok (.iconst 1, 1) := by decide +kernel
theorem dX12_isEmpty_17 : decode cX12_isEmpty 17 = .ok (.goto 4, 3) := by decide +kernel
theorem dX12_isEmpty_20 : decode cX12_isEmpty 20 = .ok (.iconst 0, 1) := by decide +kernel
theorem dX12_isEmpty_21 : decode cX12_isEmpty 21 = .ok (.ireturn, 1) := by decide +kernel
theorem dX12_ownerOf_0 : decode cX12_ownerOf 0 = .ok (.aload_n 0, 1) := by decide +kernel
theorem dX12_ownerOf_1 : decode cX12_ownerOf 1 = .ok (.getfield 51, 3) := by decide +kernel
theorem dX12_ownerOf_4 : decode cX12_ownerOf 4 = .ok (.aload_n 0, 1) := by decide +kernel
theorem dX12_ownerOf_5 : decode cX12_ownerOf 5 = .ok (.iload_n 1, 1) := by decide +kernel
theorem dX12_ownerOf_6 : decode cX12_ownerOf 6 = .ok (.iload_n 2, 1) := by decide +kernel
theorem dX12_ownerOf_7 : decode cX12_ownerOf 7 = .ok (.invokevirtual 179, 3) := by decide +kernel
theorem dX12_ownerOf_10 : decode cX12_ownerOf 10 = .ok (.invokevirtual 178, 3) := by decide +kernel
theorem dX12_ownerOf_13 : decode cX12_ownerOf 13 = .ok (.iconst 1, 1) := by decide +kernel
theorem dX12_ownerOf_14 : decode cX12_ownerOf 14 = .ok (.isub, 1) := by decide +kernel
theorem dX12_ownerOf_15 : decode cX12_ownerOf 15 = .ok (.ireturn, 1) := by decide +kernel
theorem dX12_hasWon_0 : decode cX12_hasWon 0 = .ok (.iload_n 1, 1) := by decide +kernel
theorem dX12_hasWon_1 : decode cX12_hasWon 1 = .ok (.invokestatic 168, 3) := by decide +kernel
theorem dX12_hasWon_4 : decode cX12_hasWon 4 = .ok (.aload_n 0, 1) := by decide +kernel
theorem dX12_hasWon_5 : decode cX12_hasWon 5 = .ok (.invokevirtual 182, 3) := by decide +kernel
theorem dX12_hasWon_8 : decode cX12_hasWon 8 = .ok (.iload_n 1, 1) := by decide +kernel
theorem dX12_hasWon_9 : decode cX12_hasWon 9 = .ok (.if_icmp .ne 7, 3) := by decide +kernel
theorem dX12_hasWon_12 : decode cX12_hasWon 12 = .ok (.iconst 1, 1) := by decide +kernel
theorem dX12_hasWon_13 : decode cX12_hasWon 13 = .ok (.goto 4, 3) := by decide +kernel
theorem dX12_hasWon_16 : decode cX12_hasWon 16 = .ok (.iconst 0, 1) := by decide +kernel
theorem dX12_hasWon_17 : decode cX12_hasWon 17 = .ok (.ireturn, 1) := by decide +kernel
theorem dX12_isOver_0 : decode cX12_isOver 0 = .ok (.aload_n 0, 1) := by decide +kernel
theorem dX12_isOver_1 : decode cX12_isOver 1 = .ok (.invokevirtual 182, 3) := by decide +kernel
theorem dX12_isOver_4 : decode cX12_isOver 4 = .ok (.iconst (-1), 1) := by decide +kernel
theorem dX12_isOver_5 : decode cX12_isOver 5 = .ok (.if_icmp .eq 7, 3) := by decide +kernel
theorem dX12_isOver_8 : decode cX12_isOver 8 = .ok (.iconst 1, 1) := by decide +kernel
theorem dX12_isOver_9 : decode cX12_isOver 9 = .ok (.goto 4, 3) := by decide +kernel
theorem dX12_isOver_12 : decode cX12_isOver 12 = .ok (.iconst 0, 1) := by decide +kernel
theorem dX12_isOver_13 : decode cX12_isOver 13 = .ok (.ireturn, 1) := by decide +kernel
theorem dX12_playerInTurn_0 : decode cX12_playerInTurn 0 = .ok (.aload_n 0, 1) := by decide +kernel
theorem dX12_playerInTurn_1 : decode cX12_playerInTurn 1 = .ok (.invokevirtual 185, 3) := by decide +kernel
theorem dX12_playerInTurn_4 : decode cX12_playerInTurn 4 = .ok (.aload_n 0, 1) := by decide +kernel
theorem dX12_playerInTurn_5 : decode cX12_playerInTurn 5 = .ok (.getfield 51, 3) := by decide +kernel
theorem dX12_playerInTurn_8 : decode cX12_playerInTurn 8 = .ok (.invokevirtual 188, 3) := by decide +kernel
theorem dX12_playerInTurn_11 : decode cX12_playerInTurn 11 = .ok (.ireturn, 1) := by decide +kernel
theorem dX12_stonesBeside_0 : decode cX12_stonesBeside 0 = .ok (.iload_n 1, 1) := by decide +kernel
theorem dX12_stonesBeside_1 : decode cX12_stonesBeside 1 = .ok (.invokestatic 168, 3) := by decide +kernel
theorem dX12_stonesBeside_4 : decode cX12_stonesBeside 4 = .ok (.aload_n 0, 1) := by decide +kernel
theorem dX12_stonesBeside_5 : decode cX12_stonesBeside 5 = .ok (.iload_n 2, 1) := by decide +kernel
theorem dX12_stonesBeside_6 : decode cX12_stonesBeside 6 = .ok (.iload_n 3, 1) := by decide +kernel
theorem dX12_stonesBeside_7 : decode cX12_stonesBeside 7 = .ok (.invokevirtual 174, 3) := by decide +kernel
theorem dX12_stonesBeside_10 : decode cX12_stonesBeside 10 = .ok (.istore 4, 2) := by decide +kernel
theorem dX12_stonesBeside_12 : decode cX12_stonesBeside 12 = .ok (.iconst 0, 1) := by decide +kernel
theorem dX12_stonesBeside_13 : decode cX12_stonesBeside 13 = .ok (.istore 5, 2) := by decide +kernel
theorem dX12_stonesBeside_15 : decode cX12_stonesBeside 15 = .ok (.iconst 0, 1) := by decide +kernel
theorem dX12_stonesBeside_16 : decode cX12_stonesBeside 16 = .ok (.istore 6, 2) := by decide +kernel
theorem dX12_stonesBeside_18 : decode cX12_stonesBeside 18 = .ok (.iload 6, 2) := by decide +kernel
theorem dX12_stonesBeside_20 : decode cX12_stonesBeside 20 = .ok (.bipush 6, 2) := by decide +kernel
theorem dX12_stonesBeside_22 : decode cX12_stonesBeside 22 = .ok (.if_icmp .ge 36, 3) := by decide +kernel
theorem dX12_stonesBeside_25 : decode cX12_stonesBeside 25 = .ok (.aload_n 0, 1) := by decide +kernel
theorem dX12_stonesBeside_26 : decode cX12_stonesBeside 26 = .ok (.getfield 51, 3) := by decide +kernel
theorem dX12_stonesBeside_29 : decode cX12_stonesBeside 29 = .ok (.aload_n 0, 1) := by decide +kernel
theorem dX12_stonesBeside_30 : decode cX12_stonesBeside 30 = .ok (.getfield 51, 3) := by decide +kernel
theorem dX12_stonesBeside_33 : decode cX12_stonesBeside 33 = .ok (.iload 4, 2) := by decide +kernel
theorem dX12_stonesBeside_35 : decode cX12_stonesBeside 35 = .ok (.iload 6, 2) := by decide +kernel
theorem dX12_stonesBeside_37 : decode cX12_stonesBeside 37 = .ok (.invokevirtual 191, 3) := by decide +kernel
theorem dX12_stonesBeside_40 : decode cX12_stonesBeside 40 = .ok (.invokevirtual 178, 3) := by decide +kernel
theorem dX12_stonesBeside_43 : decode cX12_stonesBeside 43 = .ok (.iload_n 1, 1) := by decide +kernel
theorem dX12_stonesBeside_44 : decode cX12_stonesBeside 44 = .ok (.iconst 1, 1) := by decide +kernel
theorem dX12_stonesBeside_45 : decode cX12_stonesBeside 45 = .ok (.iadd, 1) := by decide +kernel
theorem dX12_stonesBeside_46 : decode cX12_stonesBeside 46 = .ok (.if_icmp .ne 6, 3) := by decide +kernel
theorem dX12_stonesBeside_49 : decode cX12_stonesBeside 49 = .ok (.iinc 5 1, 3) := by decide +kernel
theorem dX12_stonesBeside_52 : decode cX12_stonesBeside 52 = .ok (.iinc 6 1, 3) := by decide +kernel
theorem dX12_stonesBeside_55 : decode cX12_stonesBeside 55 = .ok (.goto (-37), 3) := by decide +kernel
theorem dX12_stonesBeside_58 : decode cX12_stonesBeside 58 = .ok (.iload 5, 2) := by decide +kernel
theorem dX12_stonesBeside_60 : decode cX12_stonesBeside 60 = .ok (.ireturn, 1) := by decide +kernel
theorem dX12_groupSize_0 : decode cX12_groupSize 0 = .ok (.aload_n 0, 1) := by decide +kernel
theorem dX12_groupSize_1 : decode cX12_groupSize 1 = .ok (.getfield 60, 3) := by decide +kernel
theorem dX12_groupSize_4 : decode cX12_groupSize 4 = .ok (.aload_n 0, 1) := by decide +kernel
theorem dX12_groupSize_5 : decode cX12_groupSize 5 = .ok (.iload_n 1, 1) := by decide +kernel
theorem dX12_groupSize_6 : decode cX12_groupSize 6 = .ok (.iload_n 2, 1) := by decide +kernel
theorem dX12_groupSize_7 : decode cX12_groupSize 7 = .ok (.invokevirtual 179, 3) := by decide +kernel
theorem dX12_groupSize_10 : decode cX12_groupSize 10 = .ok (.invokevirtual 194, 3) := by decide +kernel
theorem dX12_groupSize_13 : decode cX12_groupSize 13 = .ok (.ireturn, 1) := by decide +kernel
theorem dX12_shoresOf_0 : decode cX12_shoresOf 0 = .ok (.aload_n 0, 1) := by decide +kernel
theorem dX12_shoresOf_1 : decode cX12_shoresOf 1 = .ok (.getfield 60, 3) := by decide +kernel
theorem dX12_shoresOf_4 : decode cX12_shoresOf 4 = .ok (.aload_n 0, 1) := by decide +kernel
theorem dX12_shoresOf_5 : decode cX12_shoresOf 5 = .ok (.iload_n 1, 1) := by decide +kernel
theorem dX12_shoresOf_6 : decode cX12_shoresOf 6 = .ok (.iload_n 2, 1) := by decide +kernel
theorem dX12_shoresOf_7 : decode cX12_shoresOf 7 = .ok (.invokevirtual 179, 3) := by decide +kernel
theorem dX12_shoresOf_10 : decode cX12_shoresOf 10 = .ok (.invokevirtual 197, 3) := by decide +kernel
theorem dX12_shoresOf_13 : decode cX12_shoresOf 13 = .ok (.ireturn, 1) := by decide +kernel
theorem dX12_groupsOf_0 : decode cX12_groupsOf 0 = .ok (.iload_n 1, 1) := by decide +kernel
theorem dX12_groupsOf_1 : decode cX12_groupsOf 1 = .ok (.invokestatic 168, 3) := by decide +kernel
theorem dX12_groupsOf_4 : decode cX12_groupsOf 4 = .ok (.aload_n 0, 1) := by decide +kernel
theorem dX12_groupsOf_5 : decode cX12_groupsOf 5 = .ok (.getfield 60, 3) := by decide +kernel
theorem dX12_groupsOf_8 : decode cX12_groupsOf 8 = .ok (.iload_n 1, 1) := by decide +kernel
theorem dX12_groupsOf_9 : decode cX12_groupsOf 9 = .ok (.invokevirtual 200, 3) := by decide +kernel
theorem dX12_groupsOf_12 : decode cX12_groupsOf 12 = .ok (.aload_n 0, 1) := by decide +kernel
theorem dX12_groupsOf_13 : decode cX12_groupsOf 13 = .ok (.getfield 60, 3) := by decide +kernel
theorem dX12_groupsOf_16 : decode cX12_groupsOf 16 = .ok (.invokevirtual 203, 3) := by decide +kernel
theorem dX12_groupsOf_19 : decode cX12_groupsOf 19 = .ok (.ireturn, 1) := by decide +kernel
theorem dX12_greatestGroup_0 : decode cX12_greatestGroup 0 = .ok (.iload_n 1, 1) := by decide +kernel
theorem dX12_greatestGroup_1 : decode cX12_greatestGroup 1 = .ok (.invokestatic 168, 3) := by decide +kernel
theorem dX12_greatestGroup_4 : decode cX12_greatestGroup 4 = .ok (.aload_n 0, 1) := by decide +kernel
theorem dX12_greatestGroup_5 : decode cX12_greatestGroup 5 = .ok (.getfield 60, 3) := by decide +kernel
theorem dX12_greatestGroup_8 : decode cX12_greatestGroup 8 = .ok (.iload_n 1, 1) := by decide +kernel
theorem dX12_greatestGroup_9 : decode cX12_greatestGroup 9 = .ok (.invokevirtual 200, 3) := by decide +kernel
theorem dX12_greatestGroup_12 : decode cX12_greatestGroup 12 = .ok (.aload_n 0, 1) := by decide +kernel
theorem dX12_greatestGroup_13 : decode cX12_greatestGroup 13 = .ok (.getfield 60, 3) := by decide +kernel
theorem dX12_greatestGroup_16 : decode cX12_greatestGroup 16 = .ok (.invokevirtual 204, 3) := by decide +kernel
theorem dX12_greatestGroup_19 : decode cX12_greatestGroup 19 = .ok (.ireturn, 1) := by decide +kernel
theorem dX12_isBridge_0 : decode cX12_isBridge 0 = .ok (.aload_n 0, 1) := by decide +kernel
theorem dX12_isBridge_1 : decode cX12_isBridge 1 = .ok (.getfield 51, 3) := by decide +kernel
theorem dX12_isBridge_4 : decode cX12_isBridge 4 = .ok (.iload_n 1, 1) := by decide +kernel
theorem dX12_isBridge_5 : decode cX12_isBridge 5 = .ok (.invokevirtual 207, 3) := by decide +kernel
theorem dX12_isBridge_8 : decode cX12_isBridge 8 = .ok (.ifCond .eq 14, 3) := by decide +kernel
theorem dX12_isBridge_11 : decode cX12_isBridge 11 = .ok (.aload_n 0, 1) := by decide +kernel
theorem dX12_isBridge_12 : decode cX12_isBridge 12 = .ok (.getfield 51, 3) := by decide +kernel
theorem dX12_isBridge_15 : decode cX12_isBridge 15 = .ok (.iload_n 2, 1) := by decide +kernel
theorem dX12_isBridge_16 : decode cX12_isBridge 16 = .ok (.invokevirtual 207, 3) := by decide +kernel
theorem dX12_isBridge_19 : decode cX12_isBridge 19 = .ok (.ifCond .ne 13, 3) := by decide +kernel
theorem dX12_isBridge_22 : decode cX12_isBridge 22 = .ok (.new 211, 3) := by decide +kernel
theorem dX12_isBridge_25 : decode cX12_isBridge 25 = .ok (.dup, 1) := by decide +kernel
theorem dX12_isBridge_26 : decode cX12_isBridge 26 = .ok (.ldc 213, 2) := by decide +kernel
theorem dX12_isBridge_28 : decode cX12_isBridge 28 = .ok (.invokespecial 215, 3) := by decide +kernel
theorem dX12_isBridge_31 : decode cX12_isBridge 31 = .ok (.athrow, 1) := by decide +kernel
theorem dX12_isBridge_32 : decode cX12_isBridge 32 = .ok (.aload_n 0, 1) := by decide +kernel
theorem dX12_isBridge_33 : decode cX12_isBridge 33 = .ok (.getfield 67, 3) := by decide +kernel
theorem dX12_isBridge_36 : decode cX12_isBridge 36 = .ok (.iload_n 1, 1) := by decide +kernel
theorem dX12_isBridge_37 : decode cX12_isBridge 37 = .ok (.iload_n 2, 1) := by decide +kernel
theorem dX12_isBridge_38 : decode cX12_isBridge 38 = .ok (.invokevirtual 216, 3) := by decide +kernel
theorem dX12_isBridge_41 : decode cX12_isBridge 41 = .ok (.ireturn, 1) := by decide +kernel
theorem dX12_bridgesOf_0 : decode cX12_bridgesOf 0 = .ok (.iload_n 1, 1) := by decide +kernel
theorem dX12_bridgesOf_1 : decode cX12_bridgesOf 1 = .ok (.invokestatic 168, 3) := by decide +kernel
theorem dX12_bridgesOf_4 : decode cX12_bridgesOf 4 = .ok (.aload_n 0, 1) := by decide +kernel
theorem dX12_bridgesOf_5 : decode cX12_bridgesOf 5 = .ok (.getfield 67, 3) := by decide +kernel
theorem dX12_bridgesOf_8 : decode cX12_bridgesOf 8 = .ok (.invokevirtual 220, 3) := by decide +kernel
theorem dX12_bridgesOf_11 : decode cX12_bridgesOf 11 = .ok (.aload_n 0, 1) := by decide +kernel
theorem dX12_bridgesOf_12 : decode cX12_bridgesOf 12 = .ok (.getfield 67, 3) := by decide +kernel
theorem dX12_bridgesOf_15 : decode cX12_bridgesOf 15 = .ok (.iload_n 1, 1) := by decide +kernel
theorem dX12_bridgesOf_16 : decode cX12_bridgesOf 16 = .ok (.invokevirtual 222, 3) := by decide +kernel
theorem dX12_bridgesOf_19 : decode cX12_bridgesOf 19 = .ok (.ireturn, 1) := by decide +kernel
theorem dX12_brokenBridgesOf_0 : decode cX12_brokenBridgesOf 0 = .ok (.iload_n 1, 1) := by decide +kernel
theorem dX12_brokenBridgesOf_1 : decode cX12_brokenBridgesOf 1 = .ok (.invokestatic 168, 3) := by decide +kernel
theorem dX12_brokenBridgesOf_4 : decode cX12_brokenBridgesOf 4 = .ok (.aload_n 0, 1) := by decide +kernel
theorem dX12_brokenBridgesOf_5 : decode cX12_brokenBridgesOf 5 = .ok (.getfield 67, 3) := by decide +kernel
theorem dX12_brokenBridgesOf_8 : decode cX12_brokenBridgesOf 8 = .ok (.invokevirtual 220, 3) := by decide +kernel
theorem dX12_brokenBridgesOf_11 : decode cX12_brokenBridgesOf 11 = .ok (.aload_n 0, 1) := by decide +kernel
theorem dX12_brokenBridgesOf_12 : decode cX12_brokenBridgesOf 12 = .ok (.getfield 67, 3) := by decide +kernel
theorem dX12_brokenBridgesOf_15 : decode cX12_brokenBridgesOf 15 = .ok (.iload_n 1, 1) := by decide +kernel
theorem dX12_brokenBridgesOf_16 : decode cX12_brokenBridgesOf 16 = .ok (.invokevirtual 225, 3) := by decide +kernel
theorem dX12_brokenBridgesOf_19 : decode cX12_brokenBridgesOf 19 = .ok (.ireturn, 1) := by decide +kernel
theorem dX12_isFrozen_0 : decode cX12_isFrozen 0 = .ok (.aload_n 0, 1) := by decide +kernel
theorem dX12_isFrozen_1 : decode cX12_isFrozen 1 = .ok (.getfield 51, 3) := by decide +kernel
theorem dX12_isFrozen_4 : decode cX12_isFrozen 4 = .ok (.aload_n 0, 1) := by decide +kernel
theorem dX12_isFrozen_5 : decode cX12_isFrozen 5 = .ok (.iload_n 1, 1) := by decide +kernel
theorem dX12_isFrozen_6 : decode cX12_isFrozen 6 = .ok (.iload_n 2, 1) := by decide +kernel
theorem dX12_isFrozen_7 : decode cX12_isFrozen 7 = .ok (.invokevirtual 174, 3) := by decide +kernel
theorem dX12_isFrozen_10 : decode cX12_isFrozen 10 = .ok (.invokevirtual 228, 3) := by decide +kernel
theorem dX12_isFrozen_13 : decode cX12_isFrozen 13 = .ok (.ireturn, 1) := by decide +kernel
theorem dX12_frozenCells_0 : decode cX12_frozenCells 0 = .ok (.iconst 0, 1) := by decide +kernel
theorem dX12_frozenCells_1 : decode cX12_frozenCells 1 = .ok (.istore_n 1, 1) := by decide +kernel
theorem dX12_frozenCells_2 : decode cX12_frozenCells 2 = .ok (.iconst 0, 1) := by decide +kernel
theorem dX12_frozenCells_3 : decode cX12_frozenCells 3 = .ok (.istore_n 2, 1) := by decide +kernel
theorem dX12_frozenCells_4 : decode cX12_frozenCells 4 = .ok (.iload_n 2, 1) := by decide +kernel
theorem dX12_frozenCells_5 : decode cX12_frozenCells 5 = .ok (.aload_n 0, 1) := by decide +kernel
theorem dX12_frozenCells_6 : decode cX12_frozenCells 6 = .ok (.getfield 51, 3) := by decide +kernel
theorem dX12_frozenCells_9 : decode cX12_frozenCells 9 = .ok (.invokevirtual 148, 3) := by decide +kernel
theorem dX12_frozenCells_12 : decode cX12_frozenCells 12 = .ok (.if_icmp .ge 23, 3) := by decide +kernel
theorem dX12_frozenCells_15 : decode cX12_frozenCells 15 = .ok (.aload_n 0, 1) := by decide +kernel
theorem dX12_frozenCells_16 : decode cX12_frozenCells 16 = .ok (.getfield 51, 3) := by decide +kernel
theorem dX12_frozenCells_19 : decode cX12_frozenCells 19 = .ok (.iload_n 2, 1) := by decide +kernel
theorem dX12_frozenCells_20 : decode cX12_frozenCells 20 = .ok (.invokevirtual 228, 3) := by decide +kernel
theorem dX12_frozenCells_23 : decode cX12_frozenCells 23 = .ok (.ifCond .eq 6, 3) := by decide +kernel
theorem dX12_frozenCells_26 : decode cX12_frozenCells 26 = .ok (.iinc 1 1, 3) := by decide +kernel
theorem dX12_frozenCells_29 : decode cX12_frozenCells 29 = .ok (.iinc 2 1, 3) := by decide +kernel
theorem dX12_frozenCells_32 : decode cX12_frozenCells 32 = .ok (.goto (-28), 3) := by decide +kernel
theorem dX12_frozenCells_35 : decode cX12_frozenCells 35 = .ok (.iload_n 1, 1) := by decide +kernel
theorem dX12_frozenCells_36 : decode cX12_frozenCells 36 = .ok (.ireturn, 1) := by decide +kernel
theorem dX12_stonesNeeded_0 : decode cX12_stonesNeeded 0 = .ok (.iload_n 1, 1) := by decide +kernel
theorem dX12_stonesNeeded_1 : decode cX12_stonesNeeded 1 = .ok (.invokestatic 168, 3) := by decide +kernel
theorem dX12_stonesNeeded_4 : decode cX12_stonesNeeded 4 = .ok (.aload_n 0, 1) := by decide +kernel
theorem dX12_stonesNeeded_5 : decode cX12_stonesNeeded 5 = .ok (.getfield 74, 3) := by decide +kernel
theorem dX12_stonesNeeded_8 : decode cX12_stonesNeeded 8 = .ok (.invokevirtual 231, 3) := by decide +kernel
theorem dX12_stonesNeeded_11 : decode cX12_stonesNeeded 11 = .ok (.aload_n 0, 1) := by decide +kernel
theorem dX12_stonesNeeded_12 : decode cX12_stonesNeeded 12 = .ok (.getfield 74, 3) := by decide +kernel
theorem dX12_stonesNeeded_15 : decode cX12_stonesNeeded 15 = .ok (.iload_n 1, 1) := by decide +kernel
theorem dX12_stonesNeeded_16 : decode cX12_stonesNeeded 16 = .ok (.invokevirtual 232, 3) := by decide +kernel
theorem dX12_stonesNeeded_19 : decode cX12_stonesNeeded 19 = .ok (.istore_n 2, 1) := by decide +kernel
theorem dX12_stonesNeeded_20 : decode cX12_stonesNeeded 20 = .ok (.iload_n 2, 1) := by decide +kernel
theorem dX12_stonesNeeded_21 : decode cX12_stonesNeeded 21 = .ok (.bipush 99, 2) := by decide +kernel
theorem dX12_stonesNeeded_23 : decode cX12_stonesNeeded 23 = .ok (.if_icmp .ne 13, 3) := by decide +kernel
theorem dX12_stonesNeeded_26 : decode cX12_stonesNeeded 26 = .ok (.new 98, 3) := by decide +kernel
theorem dX12_stonesNeeded_29 : decode cX12_stonesNeeded 29 = .ok (.dup, 1) := by decide +kernel
theorem dX12_stonesNeeded_30 : decode cX12_stonesNeeded 30 = .ok (.ldc 235, 2) := by decide +kernel
theorem dX12_stonesNeeded_32 : decode cX12_stonesNeeded 32 = .ok (.invokespecial 102, 3) := by decide +kernel
theorem dX12_stonesNeeded_35 : decode cX12_stonesNeeded 35 = .ok (.athrow, 1) := by decide +kernel
theorem dX12_stonesNeeded_36 : decode cX12_stonesNeeded 36 = .ok (.iload_n 2, 1) := by decide +kernel
theorem dX12_stonesNeeded_37 : decode cX12_stonesNeeded 37 = .ok (.ireturn, 1) := by decide +kernel
theorem dX12_stonesNeededThrough_0 : decode cX12_stonesNeededThrough 0 = .ok (.iload_n 1, 1) := by decide +kernel
theorem dX12_stonesNeededThrough_1 : decode cX12_stonesNeededThrough 1 = .ok (.invokestatic 168, 3) := by decide +kernel
theorem dX12_stonesNeededThrough_4 : decode cX12_stonesNeededThrough 4 = .ok (.aload_n 0, 1) := by decide +kernel
theorem dX12_stonesNeededThrough_5 : decode cX12_stonesNeededThrough 5 = .ok (.iload_n 2, 1) := by decide +kernel
theorem dX12_stonesNeededThrough_6 : decode cX12_stonesNeededThrough 6 = .ok (.iload_n 3, 1) := by decide +kernel
theorem dX12_stonesNeededThrough_7 : decode cX12_stonesNeededThrough 7 = .ok (.invokevirtual 174, 3) := by decide +kernel
theorem dX12_stonesNeededThrough_10 : decode cX12_stonesNeededThrough 10 = .ok (.istore 4, 2) := by decide +kernel
theorem dX12_stonesNeededThrough_12 : decode cX12_stonesNeededThrough 12 = .ok (.aload_n 0, 1) := by decide +kernel
theorem dX12_stonesNeededThrough_13 : decode cX12_stonesNeededThrough 13 = .ok (.getfield 74, 3) := by decide +kernel
theorem dX12_stonesNeededThrough_16 : decode cX12_stonesNeededThrough 16 = .ok (.invokevirtual 231, 3) := by decide +kernel
theorem dX12_stonesNeededThrough_19 : decode cX12_stonesNeededThrough 19 = .ok (.aload_n 0, 1) := by decide +kernel
theorem dX12_stonesNeededThrough_20 : decode cX12_stonesNeededThrough 20 = .ok (.getfield 74, 3) := by decide +kernel
theorem dX12_stonesNeededThrough_23 : decode cX12_stonesNeededThrough 23 = .ok (.iload_n 1, 1) := by decide +kernel
theorem dX12_stonesNeededThrough_24 : decode cX12_stonesNeededThrough 24 = .ok (.iload 4, 2) := by decide +kernel
theorem dX12_stonesNeededThrough_26 : decode cX12_stonesNeededThrough 26 = .ok (.invokevirtual 237, 3) := by decide +kernel
theorem dX12_stonesNeededThrough_29 : decode cX12_stonesNeededThrough 29 = .ok (.istore 5, 2) := by decide +kernel
theorem dX12_stonesNeededThrough_31 : decode cX12_stonesNeededThrough 31 = .ok (.iload 5, 2) := by decide +kernel
theorem dX12_stonesNeededThrough_33 : decode cX12_stonesNeededThrough 33 = .ok (.iconst (-1), 1) := by decide +kernel
theorem dX12_stonesNeededThrough_34 : decode cX12_stonesNeededThrough 34 = .ok (.if_icmp .ne 13, 3) := by decide +kernel
theorem dX12_stonesNeededThrough_37 : decode cX12_stonesNeededThrough 37 = .ok (.new 98, 3) := by decide +kernel
theorem dX12_stonesNeededThrough_40 : decode cX12_stonesNeededThrough 40 = .ok (.dup, 1) := by decide +kernel
theorem dX12_stonesNeededThrough_41 : decode cX12_stonesNeededThrough 41 = .ok (.ldc 240, 2) := by decide +kernel
theorem dX12_stonesNeededThrough_43 : decode cX12_stonesNeededThrough 43 = .ok (.invokespecial 102, 3) := by decide +kernel
theorem dX12_stonesNeededThrough_46 : decode cX12_stonesNeededThrough 46 = .ok (.athrow, 1) := by decide +kernel
theorem dX12_stonesNeededThrough_47 : decode cX12_stonesNeededThrough 47 = .ok (.iload 5, 2) := by decide +kernel
theorem dX12_stonesNeededThrough_49 : decode cX12_stonesNeededThrough 49 = .ok (.ireturn, 1) := by decide +kernel
theorem dX12_isWinningCell_0 : decode cX12_isWinningCell 0 = .ok (.iload_n 1, 1) := by decide +kernel
theorem dX12_isWinningCell_1 : decode cX12_isWinningCell 1 = .ok (.invokestatic 168, 3) := by decide +kernel
theorem dX12_isWinningCell_4 : decode cX12_isWinningCell 4 = .ok (.aload_n 0, 1) := by decide +kernel
theorem dX12_isWinningCell_5 : decode cX12_isWinningCell 5 = .ok (.iload_n 2, 1) := by decide +kernel
theorem dX12_isWinningCell_6 : decode cX12_isWinningCell 6 = .ok (.iload_n 3, 1) := by decide +kernel
theorem dX12_isWinningCell_7 : decode cX12_isWinningCell 7 = .ok (.invokevirtual 174, 3) := by decide +kernel
theorem dX12_isWinningCell_10 : decode cX12_isWinningCell 10 = .ok (.istore 4, 2) := by decide +kernel
theorem dX12_isWinningCell_12 : decode cX12_isWinningCell 12 = .ok (.aload_n 0, 1) := by decide +kernel
theorem dX12_isWinningCell_13 : decode cX12_isWinningCell 13 = .ok (.getfield 74, 3) := by decide +kernel
theorem dX12_isWinningCell_16 : decode cX12_isWinningCell 16 = .ok (.invokevirtual 231, 3) := by decide +kernel
theorem dX12_isWinningCell_19 : decode cX12_isWinningCell 19 = .ok (.aload_n 0, 1) := by decide +kernel
theorem dX12_isWinningCell_20 : decode cX12_isWinningCell 20 = .ok (.getfield 74, 3) := by decide +kernel
theorem dX12_isWinningCell_23 : decode cX12_isWinningCell 23 = .ok (.iload_n 1, 1) := by decide +kernel
theorem dX12_isWinningCell_24 : decode cX12_isWinningCell 24 = .ok (.iload 4, 2) := by decide +kernel
theorem dX12_isWinningCell_26 : decode cX12_isWinningCell 26 = .ok (.invokevirtual 242, 3) := by decide +kernel
theorem dX12_isWinningCell_29 : decode cX12_isWinningCell 29 = .ok (.ireturn, 1) := by decide +kernel
theorem dX12_winningCells_0 : decode cX12_winningCells 0 = .ok (.iload_n 1, 1) := by decide +kernel
theorem dX12_winningCells_1 : decode cX12_winningCells 1 = .ok (.invokestatic 168, 3) := by decide +kernel
theorem dX12_winningCells_4 : decode cX12_winningCells 4 = .ok (.aload_n 0, 1) := by decide +kernel
theorem dX12_winningCells_5 : decode cX12_winningCells 5 = .ok (.getfield 74, 3) := by decide +kernel
theorem dX12_winningCells_8 : decode cX12_winningCells 8 = .ok (.invokevirtual 231, 3) := by decide +kernel
theorem dX12_winningCells_11 : decode cX12_winningCells 11 = .ok (.aload_n 0, 1) := by decide +kernel
theorem dX12_winningCells_12 : decode cX12_winningCells 12 = .ok (.getfield 74, 3) := by decide +kernel
theorem dX12_winningCells_15 : decode cX12_winningCells 15 = .ok (.iload_n 1, 1) := by decide +kernel
theorem dX12_winningCells_16 : decode cX12_winningCells 16 = .ok (.invokevirtual 245, 3) := by decide +kernel
theorem dX12_winningCells_19 : decode cX12_winningCells 19 = .ok (.ireturn, 1) := by decide +kernel
theorem dX12_layStone_0 : decode cX12_layStone 0 = .ok (.aload_n 0, 1) := by decide +kernel
theorem dX12_layStone_1 : decode cX12_layStone 1 = .ok (.iload_n 1, 1) := by decide +kernel
theorem dX12_layStone_2 : decode cX12_layStone 2 = .ok (.iload_n 2, 1) := by decide +kernel
theorem dX12_layStone_3 : decode cX12_layStone 3 = .ok (.invokevirtual 174, 3) := by decide +kernel
theorem dX12_layStone_6 : decode cX12_layStone 6 = .ok (.istore_n 3, 1) := by decide +kernel
theorem dX12_layStone_7 : decode cX12_layStone 7 = .ok (.aload_n 0, 1) := by decide +kernel
theorem dX12_layStone_8 : decode cX12_layStone 8 = .ok (.invokevirtual 185, 3) := by decide +kernel
theorem dX12_layStone_11 : decode cX12_layStone 11 = .ok (.aload_n 0, 1) := by decide +kernel
theorem dX12_layStone_12 : decode cX12_layStone 12 = .ok (.getfield 51, 3) := by decide +kernel
theorem dX12_layStone_15 : decode cX12_layStone 15 = .ok (.iload_n 3, 1) := by decide +kernel
theorem dX12_layStone_16 : decode cX12_layStone 16 = .ok (.invokevirtual 178, 3) := by decide +kernel
theorem dX12_layStone_19 : decode cX12_layStone 19 = .ok (.ifCond .eq 13, 3) := by decide +kernel
theorem dX12_layStone_22 : decode cX12_layStone 22 = .ok (.new 98, 3) := by decide +kernel
theorem dX12_layStone_25 : decode cX12_layStone 25 = .ok (.dup, 1) := by decide +kernel
theorem dX12_layStone_26 : decode cX12_layStone 26 = .ok (.ldc 248, 2) := by decide +kernel
theorem dX12_layStone_28 : decode cX12_layStone 28 = .ok (.invokespecial 102, 3) := by decide +kernel
theorem dX12_layStone_31 : decode cX12_layStone 31 = .ok (.athrow, 1) := by decide +kernel
theorem dX12_layStone_32 : decode cX12_layStone 32 = .ok (.aload_n 0, 1) := by decide +kernel
theorem dX12_layStone_33 : decode cX12_layStone 33 = .ok (.getfield 51, 3) := by decide +kernel
theorem dX12_layStone_36 : decode cX12_layStone 36 = .ok (.invokevirtual 188, 3) := by decide +kernel
theorem dX12_layStone_39 : decode cX12_layStone 39 = .ok (.istore 4, 2) := by decide +kernel
theorem dX12_layStone_41 : decode cX12_layStone 41 = .ok (.aload_n 0, 1) := by decide +kernel
theorem dX12_layStone_42 : decode cX12_layStone 42 = .ok (.getfield 51, 3) := by decide +kernel
theorem dX12_layStone_45 : decode cX12_layStone 45 = .ok (.iload_n 3, 1) := by decide +kernel
theorem dX12_layStone_46 : decode cX12_layStone 46 = .ok (.iload 4, 2) := by decide +kernel
theorem dX12_layStone_48 : decode cX12_layStone 48 = .ok (.invokevirtual 250, 3) := by decide +kernel
theorem dX12_layStone_51 : decode cX12_layStone 51 = .ok (.iload 4, 2) := by decide +kernel
theorem dX12_layStone_53 : decode cX12_layStone 53 = .ok (.ireturn, 1) := by decide +kernel
theorem dX12_takeBack_0 : decode cX12_takeBack 0 = .ok (.aload_n 0, 1) := by decide +kernel
theorem dX12_takeBack_1 : decode cX12_takeBack 1 = .ok (.getfield 51, 3) := by decide +kernel
theorem dX12_takeBack_4 : decode cX12_takeBack 4 = .ok (.invokevirtual 162, 3) := by decide +kernel
theorem dX12_takeBack_7 : decode cX12_takeBack 7 = .ok (.ifCond .ne 13, 3) := by decide +kernel
theorem dX12_takeBack_10 : decode cX12_takeBack 10 = .ok (.new 98, 3) := by decide +kernel
theorem dX12_takeBack_13 : decode cX12_takeBack 13 = .ok (.dup, 1) := by decide +kernel
theorem dX12_takeBack_14 : decode cX12_takeBack 14 = .ok (.ldc 253, 2) := by decide +kernel
theorem dX12_takeBack_16 : decode cX12_takeBack 16 = .ok (.invokespecial 102, 3) := by decide +kernel
theorem dX12_takeBack_19 : decode cX12_takeBack 19 = .ok (.athrow, 1) := by decide +kernel
theorem dX12_takeBack_20 : decode cX12_takeBack 20 = .ok (.aload_n 0, 1) := by decide +kernel
theorem dX12_takeBack_21 : decode cX12_takeBack 21 = .ok (.getfield 51, 3) := by decide +kernel
theorem dX12_takeBack_24 : decode cX12_takeBack 24 = .ok (.invokevirtual 255, 3) := by decide +kernel
theorem dX12_takeBack_27 : decode cX12_takeBack 27 = .ok (.ireturn, 1) := by decide +kernel
theorem dX12_plannedCell_0 : decode cX12_plannedCell 0 = .ok (.aload_n 0, 1) := by decide +kernel
theorem dX12_plannedCell_1 : decode cX12_plannedCell 1 = .ok (.invokevirtual 185, 3) := by decide +kernel
theorem dX12_plannedCell_4 : decode cX12_plannedCell 4 = .ok (.aload_n 0, 1) := by decide +kernel
theorem dX12_plannedCell_5 : decode cX12_plannedCell 5 = .ok (.getfield 83, 3) := by decide +kernel
theorem dX12_plannedCell_8 : decode cX12_plannedCell 8 = .ok (.aload_n 0, 1) := by decide +kernel
theorem dX12_plannedCell_9 : decode cX12_plannedCell 9 = .ok (.getfield 87, 3) := by decide +kernel
theorem dX12_plannedCell_12 : decode cX12_plannedCell 12 = .ok (.aload_n 0, 1) := by decide +kernel
theorem dX12_plannedCell_13 : decode cX12_plannedCell 13 = .ok (.getfield 51, 3) := by decide +kernel
theorem dX12_plannedCell_16 : decode cX12_plannedCell 16 = .ok (.invokevirtual 188, 3) := by decide +kernel
theorem dX12_plannedCell_19 : decode cX12_plannedCell 19 = .ok (.invokevirtual 258, 3) := by decide +kernel
theorem dX12_plannedCell_22 : decode cX12_plannedCell 22 = .ok (.ireturn, 1) := by decide +kernel
theorem dX12_playByPlans_0 : decode cX12_playByPlans 0 = .ok (.iload_n 1, 1) := by decide +kernel
theorem dX12_playByPlans_1 : decode cX12_playByPlans 1 = .ok (.iconst 1, 1) := by decide +kernel
theorem dX12_playByPlans_2 : decode cX12_playByPlans 2 = .ok (.if_icmp .lt 9, 3) := by decide +kernel
theorem dX12_playByPlans_5 : decode cX12_playByPlans 5 = .ok (.iload_n 1, 1) := by decide +kernel
theorem dX12_playByPlans_6 : decode cX12_playByPlans 6 = .ok (.bipush 81, 2) := by decide +kernel
theorem dX12_playByPlans_8 : decode cX12_playByPlans 8 = .ok (.if_icmp .le 14, 3) := by decide +kernel
theorem dX12_playByPlans_11 : decode cX12_playByPlans 11 = .ok (.new 109, 3) := by decide +kernel
theorem dX12_playByPlans_14 : decode cX12_playByPlans 14 = .ok (.dup, 1) := by decide +kernel
theorem dX12_playByPlans_15 : decode cX12_playByPlans 15 = .ok (.ldc_w 262, 3) := by decide +kernel
theorem dX12_playByPlans_18 : decode cX12_playByPlans 18 = .ok (.invokespecial 113, 3) := by decide +kernel
theorem dX12_playByPlans_21 : decode cX12_playByPlans 21 = .ok (.athrow, 1) := by decide +kernel
theorem dX12_playByPlans_22 : decode cX12_playByPlans 22 = .ok (.aload_n 0, 1) := by decide +kernel
theorem dX12_playByPlans_23 : decode cX12_playByPlans 23 = .ok (.iload_n 1, 1) := by decide +kernel
theorem dX12_playByPlans_24 : decode cX12_playByPlans 24 = .ok (.invokevirtual 264, 3) := by decide +kernel
theorem dX12_playByPlans_27 : decode cX12_playByPlans 27 = .ok (.ireturn, 1) := by decide +kernel
theorem dX12_stonesByPlans_0 : decode cX12_stonesByPlans 0 = .ok (.aload_n 0, 1) := by decide +kernel
theorem dX12_stonesByPlans_1 : decode cX12_stonesByPlans 1 = .ok (.bipush 81, 2) := by decide +kernel
theorem dX12_stonesByPlans_3 : decode cX12_stonesByPlans 3 = .ok (.invokevirtual 264, 3) := by decide +kernel
theorem dX12_stonesByPlans_6 : decode cX12_stonesByPlans 6 = .ok (.istore_n 1, 1) := by decide +kernel
theorem dX12_stonesByPlans_7 : decode cX12_stonesByPlans 7 = .ok (.aload_n 0, 1) := by decide +kernel
theorem dX12_stonesByPlans_8 : decode cX12_stonesByPlans 8 = .ok (.iload_n 1, 1) := by decide +kernel
theorem dX12_stonesByPlans_9 : decode cX12_stonesByPlans 9 = .ok (.invokevirtual 267, 3) := by decide +kernel
theorem dX12_stonesByPlans_12 : decode cX12_stonesByPlans 12 = .ok (.iload_n 1, 1) := by decide +kernel
theorem dX12_stonesByPlans_13 : decode cX12_stonesByPlans 13 = .ok (.ireturn, 1) := by decide +kernel
theorem dX12_winnerByPlans_0 : decode cX12_winnerByPlans 0 = .ok (.aload_n 0, 1) := by decide +kernel
theorem dX12_winnerByPlans_1 : decode cX12_winnerByPlans 1 = .ok (.bipush 81, 2) := by decide +kernel
theorem dX12_winnerByPlans_3 : decode cX12_winnerByPlans 3 = .ok (.invokevirtual 264, 3) := by decide +kernel
theorem dX12_winnerByPlans_6 : decode cX12_winnerByPlans 6 = .ok (.istore_n 1, 1) := by decide +kernel
theorem dX12_winnerByPlans_7 : decode cX12_winnerByPlans 7 = .ok (.aload_n 0, 1) := by decide +kernel
theorem dX12_winnerByPlans_8 : decode cX12_winnerByPlans 8 = .ok (.invokevirtual 182, 3) := by decide +kernel
theorem dX12_winnerByPlans_11 : decode cX12_winnerByPlans 11 = .ok (.istore_n 2, 1) := by decide +kernel
theorem dX12_winnerByPlans_12 : decode cX12_winnerByPlans 12 = .ok (.aload_n 0, 1) := by decide +kernel
theorem dX12_winnerByPlans_13 : decode cX12_winnerByPlans 13 = .ok (.iload_n 1, 1) := by decide +kernel
theorem dX12_winnerByPlans_14 : decode cX12_winnerByPlans 14 = .ok (.invokevirtual 267, 3) := by decide +kernel
theorem dX12_winnerByPlans_17 : decode cX12_winnerByPlans 17 = .ok (.iload_n 2, 1) := by decide +kernel
theorem dX12_winnerByPlans_18 : decode cX12_winnerByPlans 18 = .ok (.ireturn, 1) := by decide +kernel
theorem dX12_mustPlay_0 : decode cX12_mustPlay 0 = .ok (.aload_n 0, 1) := by decide +kernel
theorem dX12_mustPlay_1 : decode cX12_mustPlay 1 = .ok (.invokevirtual 185, 3) := by decide +kernel
theorem dX12_mustPlay_4 : decode cX12_mustPlay 4 = .ok (.aload_n 0, 1) := by decide +kernel
theorem dX12_mustPlay_5 : decode cX12_mustPlay 5 = .ok (.getfield 51, 3) := by decide +kernel
theorem dX12_mustPlay_8 : decode cX12_mustPlay 8 = .ok (.invokevirtual 188, 3) := by decide +kernel
theorem dX12_mustPlay_11 : decode cX12_mustPlay 11 = .ok (.istore_n 1, 1) := by decide +kernel
theorem dX12_mustPlay_12 : decode cX12_mustPlay 12 = .ok (.iconst 1, 1) := by decide +kernel
theorem dX12_mustPlay_13 : decode cX12_mustPlay 13 = .ok (.iload_n 1, 1) := by decide +kernel
theorem dX12_mustPlay_14 : decode cX12_mustPlay 14 = .ok (.isub, 1) := by decide +kernel
theorem dX12_mustPlay_15 : decode cX12_mustPlay 15 = .ok (.istore_n 2, 1) := by decide +kernel
theorem dX12_mustPlay_16 : decode cX12_mustPlay 16 = .ok (.aload_n 0, 1) := by decide +kernel
theorem dX12_mustPlay_17 : decode cX12_mustPlay 17 = .ok (.getfield 74, 3) := by decide +kernel
theorem dX12_mustPlay_20 : decode cX12_mustPlay 20 = .ok (.invokevirtual 231, 3) := by decide +kernel
theorem dX12_mustPlay_23 : decode cX12_mustPlay 23 = .ok (.aload_n 0, 1) := by decide +kernel
theorem dX12_mustPlay_24 : decode cX12_mustPlay 24 = .ok (.getfield 74, 3) := by decide +kernel
theorem dX12_mustPlay_27 : decode cX12_mustPlay 27 = .ok (.iload_n 1, 1) := by decide +kernel
theorem dX12_mustPlay_28 : decode cX12_mustPlay 28 = .ok (.invokevirtual 245, 3) := by decide +kernel
theorem dX12_mustPlay_31 : decode cX12_mustPlay 31 = .ok (.ifCond .gt 15, 3) := by decide +kernel
theorem dX12_mustPlay_34 : decode cX12_mustPlay 34 = .ok (.aload_n 0, 1) := by decide +kernel
theorem dX12_mustPlay_35 : decode cX12_mustPlay 35 = .ok (.getfield 74, 3) := by decide +kernel
theorem dX12_mustPlay_38 : decode cX12_mustPlay 38 = .ok (.iload_n 2, 1) := by decide +kernel
theorem dX12_mustPlay_39 : decode cX12_mustPlay 39 = .ok (.invokevirtual 245, 3) := by decide +kernel
theorem dX12_mustPlay_42 : decode cX12_mustPlay 42 = .ok (.iconst 1, 1) := by decide +kernel
theorem dX12_mustPlay_43 : decode cX12_mustPlay 43 = .ok (.if_icmp .eq 14, 3) := by decide +kernel
theorem dX12_mustPlay_46 : decode cX12_mustPlay 46 = .ok (.new 98, 3) := by decide +kernel
theorem dX12_mustPlay_49 : decode cX12_mustPlay 49 = .ok (.dup, 1) := by decide +kernel
theorem dX12_mustPlay_50 : decode cX12_mustPlay 50 = .ok (.ldc_w 270, 3) := by decide +kernel
theorem dX12_mustPlay_53 : decode cX12_mustPlay 53 = .ok (.invokespecial 102, 3) := by decide +kernel
theorem dX12_mustPlay_56 : decode cX12_mustPlay 56 = .ok (.athrow, 1) := by decide +kernel
theorem dX12_mustPlay_57 : decode cX12_mustPlay 57 = .ok (.aload_n 0, 1) := by decide +kernel
theorem dX12_mustPlay_58 : decode cX12_mustPlay 58 = .ok (.getfield 74, 3) := by decide +kernel
theorem dX12_mustPlay_61 : decode cX12_mustPlay 61 = .ok (.iload_n 2, 1) := by decide +kernel
theorem dX12_mustPlay_62 : decode cX12_mustPlay 62 = .ok (.invokevirtual 272, 3) := by decide +kernel
theorem dX12_mustPlay_65 : decode cX12_mustPlay 65 = .ok (.ireturn, 1) := by decide +kernel
theorem dX12_bestCell_0 : decode cX12_bestCell 0 = .ok (.aload_n 0, 1) := by decide +kernel
theorem dX12_bestCell_1 : decode cX12_bestCell 1 = .ok (.invokevirtual 185, 3) := by decide +kernel
theorem dX12_bestCell_4 : decode cX12_bestCell 4 = .ok (.aload_n 0, 1) := by decide +kernel
theorem dX12_bestCell_5 : decode cX12_bestCell 5 = .ok (.getfield 51, 3) := by decide +kernel
theorem dX12_bestCell_8 : decode cX12_bestCell 8 = .ok (.invokevirtual 188, 3) := by decide +kernel
theorem dX12_bestCell_11 : decode cX12_bestCell 11 = .ok (.istore_n 1, 1) := by decide +kernel
theorem dX12_bestCell_12 : decode cX12_bestCell 12 = .ok (.iconst (-1), 1) := by decide +kernel
theorem dX12_bestCell_13 : decode cX12_bestCell 13 = .ok (.istore_n 2, 1) := by decide +kernel
theorem dX12_bestCell_14 : decode cX12_bestCell 14 = .ok (.iconst 0, 1) := by decide +kernel
theorem dX12_bestCell_15 : decode cX12_bestCell 15 = .ok (.istore_n 3, 1) := by decide +kernel
theorem dX12_bestCell_16 : decode cX12_bestCell 16 = .ok (.iconst 0, 1) := by decide +kernel
theorem dX12_bestCell_17 : decode cX12_bestCell 17 = .ok (.istore 4, 2) := by decide +kernel
theorem dX12_bestCell_19 : decode cX12_bestCell 19 = .ok (.iload 4, 2) := by decide +kernel
theorem dX12_bestCell_21 : decode cX12_bestCell 21 = .ok (.aload_n 0, 1) := by decide +kernel
theorem dX12_bestCell_22 : decode cX12_bestCell 22 = .ok (.getfield 51, 3) := by decide +kernel
theorem dX12_bestCell_25 : decode cX12_bestCell 25 = .ok (.invokevirtual 148, 3) := by decide +kernel
theorem dX12_bestCell_28 : decode cX12_bestCell 28 = .ok (.if_icmp .ge 47, 3) := by decide +kernel
theorem dX12_bestCell_31 : decode cX12_bestCell 31 = .ok (.aload_n 0, 1) := by decide +kernel
theorem dX12_bestCell_32 : decode cX12_bestCell 32 = .ok (.getfield 51, 3) := by decide +kernel
theorem dX12_bestCell_35 : decode cX12_bestCell 35 = .ok (.iload 4, 2) := by decide +kernel
theorem dX12_bestCell_37 : decode cX12_bestCell 37 = .ok (.invokevirtual 178, 3) := by decide +kernel
theorem dX12_bestCell_40 : decode cX12_bestCell 40 = .ok (.ifCond .ne 29, 3) := by decide +kernel
theorem dX12_bestCell_43 : decode cX12_bestCell 43 = .ok (.aload_n 0, 1) := by decide +kernel
theorem dX12_bestCell_44 : decode cX12_bestCell 44 = .ok (.iload 4, 2) := by decide +kernel
theorem dX12_bestCell_46 : decode cX12_bestCell 46 = .ok (.iload_n 1, 1) := by decide +kernel
theorem dX12_bestCell_47 : decode cX12_bestCell 47 = .ok (.invokevirtual 275, 3) := by decide +kernel
theorem dX12_bestCell_50 : decode cX12_bestCell 50 = .ok (.istore 5, 2) := by decide +kernel
theorem dX12_bestCell_52 : decode cX12_bestCell 52 = .ok (.iload_n 2, 1) := by decide +kernel
theorem dX12_bestCell_53 : decode cX12_bestCell 53 = .ok (.iconst (-1), 1) := by decide +kernel
theorem dX12_bestCell_54 : decode cX12_bestCell 54 = .ok (.if_icmp .eq 9, 3) := by decide +kernel
theorem dX12_bestCell_57 : decode cX12_bestCell 57 = .ok (.iload 5, 2) := by decide +kernel
theorem dX12_bestCell_59 : decode cX12_bestCell 59 = .ok (.iload_n 3, 1) := by decide +kernel
theorem dX12_bestCell_60 : decode cX12_bestCell 60 = .ok (.if_icmp .le 9, 3) := by decide +kernel
theorem dX12_bestCell_63 : decode cX12_bestCell 63 = .ok (.iload 4, 2) := by decide +kernel
theorem dX12_bestCell_65 : decode cX12_bestCell 65 = .ok (.istore_n 2, 1) := by decide +kernel
theorem dX12_bestCell_66 : decode cX12_bestCell 66 = .ok (.iload 5, 2) := by decide +kernel
theorem dX12_bestCell_68 : decode cX12_bestCell 68 = .ok (.istore_n 3, 1) := by decide +kernel
theorem dX12_bestCell_69 : decode cX12_bestCell 69 = .ok (.iinc 4 1, 3) := by decide +kernel
theorem dX12_bestCell_72 : decode cX12_bestCell 72 = .ok (.goto (-53), 3) := by decide +kernel
theorem dX12_bestCell_75 : decode cX12_bestCell 75 = .ok (.iload_n 2, 1) := by decide +kernel
theorem dX12_bestCell_76 : decode cX12_bestCell 76 = .ok (.ireturn, 1) := by decide +kernel
theorem dX12_meanGroup_0 : decode cX12_meanGroup 0 = .ok (.aload_n 0, 1) := by decide +kernel
theorem dX12_meanGroup_1 : decode cX12_meanGroup 1 = .ok (.getfield 60, 3) := by decide +kernel
theorem dX12_meanGroup_4 : decode cX12_meanGroup 4 = .ok (.iconst 0, 1) := by decide +kernel
theorem dX12_meanGroup_5 : decode cX12_meanGroup 5 = .ok (.invokevirtual 200, 3) := by decide +kernel
theorem dX12_meanGroup_8 : decode cX12_meanGroup 8 = .ok (.aload_n 0, 1) := by decide +kernel
theorem dX12_meanGroup_9 : decode cX12_meanGroup 9 = .ok (.getfield 60, 3) := by decide +kernel
theorem dX12_meanGroup_12 : decode cX12_meanGroup 12 = .ok (.invokevirtual 203, 3) := by decide +kernel
theorem dX12_meanGroup_15 : decode cX12_meanGroup 15 = .ok (.istore_n 1, 1) := by decide +kernel
theorem dX12_meanGroup_16 : decode cX12_meanGroup 16 = .ok (.aload_n 0, 1) := by decide +kernel
theorem dX12_meanGroup_17 : decode cX12_meanGroup 17 = .ok (.getfield 60, 3) := by decide +kernel
theorem dX12_meanGroup_20 : decode cX12_meanGroup 20 = .ok (.iconst 1, 1) := by decide +kernel
theorem dX12_meanGroup_21 : decode cX12_meanGroup 21 = .ok (.invokevirtual 200, 3) := by decide +kernel
theorem dX12_meanGroup_24 : decode cX12_meanGroup 24 = .ok (.iload_n 1, 1) := by decide +kernel
theorem dX12_meanGroup_25 : decode cX12_meanGroup 25 = .ok (.aload_n 0, 1) := by decide +kernel
theorem dX12_meanGroup_26 : decode cX12_meanGroup 26 = .ok (.getfield 60, 3) := by decide +kernel
theorem dX12_meanGroup_29 : decode cX12_meanGroup 29 = .ok (.invokevirtual 203, 3) := by decide +kernel
theorem dX12_meanGroup_32 : decode cX12_meanGroup 32 = .ok (.iadd, 1) := by decide +kernel
theorem dX12_meanGroup_33 : decode cX12_meanGroup 33 = .ok (.istore_n 1, 1) := by decide +kernel
theorem dX12_meanGroup_34 : decode cX12_meanGroup 34 = .ok (.iload_n 1, 1) := by decide +kernel
theorem dX12_meanGroup_35 : decode cX12_meanGroup 35 = .ok (.ifCond .ne 7, 3) := by decide +kernel
theorem dX12_meanGroup_38 : decode cX12_meanGroup 38 = .ok (.dconst 0, 1) := by decide +kernel
theorem dX12_meanGroup_39 : decode cX12_meanGroup 39 = .ok (.goto 14, 3) := by decide +kernel
theorem dX12_meanGroup_42 : decode cX12_meanGroup 42 = .ok (.aload_n 0, 1) := by decide +kernel
theorem dX12_meanGroup_43 : decode cX12_meanGroup 43 = .ok (.getfield 51, 3) := by decide +kernel
theorem dX12_meanGroup_46 : decode cX12_meanGroup 46 = .ok (.invokevirtual 278, 3) := by decide +kernel
theorem dX12_meanGroup_49 : decode cX12_meanGroup 49 = .ok (.i2d, 1) := by decide +kernel
theorem dX12_meanGroup_50 : decode cX12_meanGroup 50 = .ok (.iload_n 1, 1) := by decide +kernel
theorem dX12_meanGroup_51 : decode cX12_meanGroup 51 = .ok (.i2d, 1) := by decide +kernel
theorem dX12_meanGroup_52 : decode cX12_meanGroup 52 = .ok (.ddiv, 1) := by decide +kernel
theorem dX12_meanGroup_53 : decode cX12_meanGroup 53 = .ok (.dreturn, 1) := by decide +kernel
theorem dX12_digest_0 : decode cX12_digest 0 = .ok (.ldc2_w 281, 3) := by decide +kernel
theorem dX12_digest_3 : decode cX12_digest 3 = .ok (.lstore_n 1, 1) := by decide +kernel
theorem dX12_digest_4 : decode cX12_digest 4 = .ok (.lload_n 1, 1) := by decide +kernel
theorem dX12_digest_5 : decode cX12_digest 5 = .ok (.ldc2_w 283, 3) := by decide +kernel
theorem dX12_digest_8 : decode cX12_digest 8 = .ok (.lmul, 1) := by decide +kernel
theorem dX12_digest_9 : decode cX12_digest 9 = .ok (.aload_n 0, 1) := by decide +kernel
theorem dX12_digest_10 : decode cX12_digest 10 = .ok (.invokevirtual 285, 3) := by decide +kernel
theorem dX12_digest_13 : decode cX12_digest 13 = .ok (.i2l, 1) := by decide +kernel
theorem dX12_digest_14 : decode cX12_digest 14 = .ok (.ladd, 1) := by decide +kernel
theorem dX12_digest_15 : decode cX12_digest 15 = .ok (.lstore_n 1, 1) := by decide +kernel
theorem dX12_digest_16 : decode cX12_digest 16 = .ok (.lload_n 1, 1) := by decide +kernel
theorem dX12_digest_17 : decode cX12_digest 17 = .ok (.ldc2_w 283, 3) := by decide +kernel
theorem dX12_digest_20 : decode cX12_digest 20 = .ok (.lmul, 1) := by decide +kernel
theorem dX12_digest_21 : decode cX12_digest 21 = .ok (.aload_n 0, 1) := by decide +kernel
theorem dX12_digest_22 : decode cX12_digest 22 = .ok (.invokevirtual 286, 3) := by decide +kernel
theorem dX12_digest_25 : decode cX12_digest 25 = .ok (.i2l, 1) := by decide +kernel
theorem dX12_digest_26 : decode cX12_digest 26 = .ok (.ladd, 1) := by decide +kernel
theorem dX12_digest_27 : decode cX12_digest 27 = .ok (.lstore_n 1, 1) := by decide +kernel
theorem dX12_digest_28 : decode cX12_digest 28 = .ok (.lload_n 1, 1) := by decide +kernel
theorem dX12_digest_29 : decode cX12_digest 29 = .ok (.ldc2_w 283, 3) := by decide +kernel
theorem dX12_digest_32 : decode cX12_digest 32 = .ok (.lmul, 1) := by decide +kernel
theorem dX12_digest_33 : decode cX12_digest 33 = .ok (.aload_n 0, 1) := by decide +kernel
theorem dX12_digest_34 : decode cX12_digest 34 = .ok (.invokevirtual 287, 3) := by decide +kernel
theorem dX12_digest_37 : decode cX12_digest 37 = .ok (.i2l, 1) := by decide +kernel
theorem dX12_digest_38 : decode cX12_digest 38 = .ok (.ladd, 1) := by decide +kernel
theorem dX12_digest_39 : decode cX12_digest 39 = .ok (.lstore_n 1, 1) := by decide +kernel
theorem dX12_digest_40 : decode cX12_digest 40 = .ok (.lload_n 1, 1) := by decide +kernel
theorem dX12_digest_41 : decode cX12_digest 41 = .ok (.ldc2_w 283, 3) := by decide +kernel
theorem dX12_digest_44 : decode cX12_digest 44 = .ok (.lmul, 1) := by decide +kernel
theorem dX12_digest_45 : decode cX12_digest 45 = .ok (.aload_n 0, 1) := by decide +kernel
theorem dX12_digest_46 : decode cX12_digest 46 = .ok (.invokevirtual 289, 3) := by decide +kernel
theorem dX12_digest_49 : decode cX12_digest 49 = .ok (.i2l, 1) := by decide +kernel
theorem dX12_digest_50 : decode cX12_digest 50 = .ok (.ladd, 1) := by decide +kernel
theorem dX12_digest_51 : decode cX12_digest 51 = .ok (.lstore_n 1, 1) := by decide +kernel
theorem dX12_digest_52 : decode cX12_digest 52 = .ok (.lload_n 1, 1) := by decide +kernel
theorem dX12_digest_53 : decode cX12_digest 53 = .ok (.ldc2_w 283, 3) := by decide +kernel
theorem dX12_digest_56 : decode cX12_digest 56 = .ok (.lmul, 1) := by decide +kernel
theorem dX12_digest_57 : decode cX12_digest 57 = .ok (.aload_n 0, 1) := by decide +kernel
theorem dX12_digest_58 : decode cX12_digest 58 = .ok (.invokevirtual 292, 3) := by decide +kernel
theorem dX12_digest_61 : decode cX12_digest 61 = .ok (.i2l, 1) := by decide +kernel
theorem dX12_digest_62 : decode cX12_digest 62 = .ok (.ladd, 1) := by decide +kernel
theorem dX12_digest_63 : decode cX12_digest 63 = .ok (.lstore_n 1, 1) := by decide +kernel
theorem dX12_digest_64 : decode cX12_digest 64 = .ok (.lload_n 1, 1) := by decide +kernel
theorem dX12_digest_65 : decode cX12_digest 65 = .ok (.ldc2_w 283, 3) := by decide +kernel
theorem dX12_digest_68 : decode cX12_digest 68 = .ok (.lmul, 1) := by decide +kernel
theorem dX12_digest_69 : decode cX12_digest 69 = .ok (.aload_n 0, 1) := by decide +kernel
theorem dX12_digest_70 : decode cX12_digest 70 = .ok (.invokevirtual 295, 3) := by decide +kernel
theorem dX12_digest_73 : decode cX12_digest 73 = .ok (.i2l, 1) := by decide +kernel
theorem dX12_digest_74 : decode cX12_digest 74 = .ok (.ladd, 1) := by decide +kernel
theorem dX12_digest_75 : decode cX12_digest 75 = .ok (.lstore_n 1, 1) := by decide +kernel
theorem dX12_digest_76 : decode cX12_digest 76 = .ok (.lload_n 1, 1) := by decide +kernel
theorem dX12_digest_77 : decode cX12_digest 77 = .ok (.ldc2_w 283, 3) := by decide +kernel
theorem dX12_digest_80 : decode cX12_digest 80 = .ok (.lmul, 1) := by decide +kernel
theorem dX12_digest_81 : decode cX12_digest 81 = .ok (.aload_n 0, 1) := by decide +kernel
theorem dX12_digest_82 : decode cX12_digest 82 = .ok (.invokevirtual 298, 3) := by decide +kernel
theorem dX12_digest_85 : decode cX12_digest 85 = .ok (.i2l, 1) := by decide +kernel
theorem dX12_digest_86 : decode cX12_digest 86 = .ok (.ladd, 1) := by decide +kernel
theorem dX12_digest_87 : decode cX12_digest 87 = .ok (.lstore_n 1, 1) := by decide +kernel
theorem dX12_digest_88 : decode cX12_digest 88 = .ok (.lload_n 1, 1) := by decide +kernel
theorem dX12_digest_89 : decode cX12_digest 89 = .ok (.ldc2_w 283, 3) := by decide +kernel
theorem dX12_digest_92 : decode cX12_digest 92 = .ok (.lmul, 1) := by decide +kernel
theorem dX12_digest_93 : decode cX12_digest 93 = .ok (.aload_n 0, 1) := by decide +kernel
theorem dX12_digest_94 : decode cX12_digest 94 = .ok (.invokevirtual 301, 3) := by decide +kernel
theorem dX12_digest_97 : decode cX12_digest 97 = .ok (.ifCond .eq 7, 3) := by decide +kernel
theorem dX12_digest_100 : decode cX12_digest 100 = .ok (.iconst 1, 1) := by decide +kernel
theorem dX12_digest_101 : decode cX12_digest 101 = .ok (.goto 4, 3) := by decide +kernel
theorem dX12_digest_104 : decode cX12_digest 104 = .ok (.iconst 0, 1) := by decide +kernel
theorem dX12_digest_105 : decode cX12_digest 105 = .ok (.i2l, 1) := by decide +kernel
theorem dX12_digest_106 : decode cX12_digest 106 = .ok (.ladd, 1) := by decide +kernel
theorem dX12_digest_107 : decode cX12_digest 107 = .ok (.lstore_n 1, 1) := by decide +kernel
theorem dX12_digest_108 : decode cX12_digest 108 = .ok (.aload_n 0, 1) := by decide +kernel
theorem dX12_digest_109 : decode cX12_digest 109 = .ok (.lload_n 1, 1) := by decide +kernel
theorem dX12_digest_110 : decode cX12_digest 110 = .ok (.iconst 0, 1) := by decide +kernel
theorem dX12_digest_111 : decode cX12_digest 111 = .ok (.invokevirtual 305, 3) := by decide +kernel
theorem dX12_digest_114 : decode cX12_digest 114 = .ok (.lstore_n 1, 1) := by decide +kernel
theorem dX12_digest_115 : decode cX12_digest 115 = .ok (.aload_n 0, 1) := by decide +kernel
theorem dX12_digest_116 : decode cX12_digest 116 = .ok (.lload_n 1, 1) := by decide +kernel
theorem dX12_digest_117 : decode cX12_digest 117 = .ok (.iconst 1, 1) := by decide +kernel
theorem dX12_digest_118 : decode cX12_digest 118 = .ok (.invokevirtual 305, 3) := by decide +kernel
theorem dX12_digest_121 : decode cX12_digest 121 = .ok (.lstore_n 1, 1) := by decide +kernel
theorem dX12_digest_122 : decode cX12_digest 122 = .ok (.iconst 0, 1) := by decide +kernel
theorem dX12_digest_123 : decode cX12_digest 123 = .ok (.istore_n 3, 1) := by decide +kernel
theorem dX12_digest_124 : decode cX12_digest 124 = .ok (.iload_n 3, 1) := by decide +kernel
theorem dX12_digest_125 : decode cX12_digest 125 = .ok (.aload_n 0, 1) := by decide +kernel
theorem dX12_digest_126 : decode cX12_digest 126 = .ok (.getfield 51, 3) := by decide +kernel
theorem dX12_digest_129 : decode cX12_digest 129 = .ok (.invokevirtual 148, 3) := by decide +kernel
theorem dX12_digest_132 : decode cX12_digest 132 = .ok (.if_icmp .ge 25, 3) := by decide +kernel
theorem dX12_digest_135 : decode cX12_digest 135 = .ok (.lload_n 1, 1) := by decide +kernel
theorem dX12_digest_136 : decode cX12_digest 136 = .ok (.ldc2_w 283, 3) := by decide +kernel
theorem dX12_digest_139 : decode cX12_digest 139 = .ok (.lmul, 1) := by decide +kernel
theorem dX12_digest_140 : decode cX12_digest 140 = .ok (.aload_n 0, 1) := by decide +kernel
theorem dX12_digest_141 : decode cX12_digest 141 = .ok (.getfield 51, 3) := by decide +kernel
theorem dX12_digest_144 : decode cX12_digest 144 = .ok (.iload_n 3, 1) := by decide +kernel
theorem dX12_digest_145 : decode cX12_digest 145 = .ok (.invokevirtual 178, 3) := by decide +kernel
theorem dX12_digest_148 : decode cX12_digest 148 = .ok (.i2l, 1) := by decide +kernel
theorem dX12_digest_149 : decode cX12_digest 149 = .ok (.ladd, 1) := by decide +kernel
theorem dX12_digest_150 : decode cX12_digest 150 = .ok (.lstore_n 1, 1) := by decide +kernel
theorem dX12_digest_151 : decode cX12_digest 151 = .ok (.iinc 3 1, 3) := by decide +kernel
theorem dX12_digest_154 : decode cX12_digest 154 = .ok (.goto (-30), 3) := by decide +kernel
theorem dX12_digest_157 : decode cX12_digest 157 = .ok (.lload_n 1, 1) := by decide +kernel
theorem dX12_digest_158 : decode cX12_digest 158 = .ok (.lreturn, 1) := by decide +kernel
theorem dX12_digestOfPlayer_0 : decode cX12_digestOfPlayer 0 = .ok (.aload_n 0, 1) := by decide +kernel
theorem dX12_digestOfPlayer_1 : decode cX12_digestOfPlayer 1 = .ok (.getfield 60, 3) := by decide +kernel
theorem dX12_digestOfPlayer_4 : decode cX12_digestOfPlayer 4 = .ok (.iload_n 3, 1) := by decide +kernel
theorem dX12_digestOfPlayer_5 : decode cX12_digestOfPlayer 5 = .ok (.invokevirtual 200, 3) := by decide +kernel
theorem dX12_digestOfPlayer_8 : decode cX12_digestOfPlayer 8 = .ok (.aload_n 0, 1) := by decide +kernel
theorem dX12_digestOfPlayer_9 : decode cX12_digestOfPlayer 9 = .ok (.getfield 67, 3) := by decide +kernel
theorem dX12_digestOfPlayer_12 : decode cX12_digestOfPlayer 12 = .ok (.invokevirtual 220, 3) := by decide +kernel
theorem dX12_digestOfPlayer_15 : decode cX12_digestOfPlayer 15 = .ok (.aload_n 0, 1) := by decide +kernel
theorem dX12_digestOfPlayer_16 : decode cX12_digestOfPlayer 16 = .ok (.getfield 74, 3) := by decide +kernel
theorem dX12_digestOfPlayer_19 : decode cX12_digestOfPlayer 19 = .ok (.invokevirtual 231, 3) := by decide +kernel
theorem dX12_digestOfPlayer_22 : decode cX12_digestOfPlayer 22 = .ok (.lload_n 1, 1) := by decide +kernel
theorem dX12_digestOfPlayer_23 : decode cX12_digestOfPlayer 23 = .ok (.lstore 4, 2) := by decide +kernel
theorem dX12_digestOfPlayer_25 : decode cX12_digestOfPlayer 25 = .ok (.lload 4, 2) := by decide +kernel
theorem dX12_digestOfPlayer_27 : decode cX12_digestOfPlayer 27 = .ok (.ldc2_w 283, 3) := by decide +kernel
theorem dX12_digestOfPlayer_30 : decode cX12_digestOfPlayer 30 = .ok (.lmul, 1) := by decide +kernel
theorem dX12_digestOfPlayer_31 : decode cX12_digestOfPlayer 31 = .ok (.aload_n 0, 1) := by decide +kernel
theorem dX12_digestOfPlayer_32 : decode cX12_digestOfPlayer 32 = .ok (.getfield 51, 3) := by decide +kernel
theorem dX12_digestOfPlayer_35 : decode cX12_digestOfPlayer 35 = .ok (.iload_n 3, 1) := by decide +kernel
theorem dX12_digestOfPlayer_36 : decode cX12_digestOfPlayer 36 = .ok (.invokevirtual 171, 3) := by decide +kernel
theorem dX12_digestOfPlayer_39 : decode cX12_digestOfPlayer 39 = .ok (.i2l, 1) := by decide +kernel
theorem dX12_digestOfPlayer_40 : decode cX12_digestOfPlayer 40 = .ok (.ladd, 1) := by decide +kernel
theorem dX12_digestOfPlayer_41 : decode cX12_digestOfPlayer 41 = .ok (.lstore 4, 2) := by decide +kernel
theorem dX12_digestOfPlayer_43 : decode cX12_digestOfPlayer 43 = .ok (.lload 4, 2) := by decide +kernel
theorem dX12_digestOfPlayer_45 : decode cX12_digestOfPlayer 45 = .ok (.ldc2_w 283, 3) := by decide +kernel
theorem dX12_digestOfPlayer_48 : decode cX12_digestOfPlayer 48 = .ok (.lmul, 1) := by decide +kernel
theorem dX12_digestOfPlayer_49 : decode cX12_digestOfPlayer 49 = .ok (.aload_n 0, 1) := by decide +kernel
theorem dX12_digestOfPlayer_50 : decode cX12_digestOfPlayer 50 = .ok (.invokevirtual 182, 3) := by decide +kernel
theorem dX12_digestOfPlayer_53 : decode cX12_digestOfPlayer 53 = .ok (.iload_n 3, 1) := by decide +kernel
theorem dX12_digestOfPlayer_54 : decode cX12_digestOfPlayer 54 = .ok (.if_icmp .ne 7, 3) := by decide +kernel
theorem dX12_digestOfPlayer_57 : decode cX12_digestOfPlayer 57 = .ok (.iconst 1, 1) := by decide +kernel
theorem dX12_digestOfPlayer_58 : decode cX12_digestOfPlayer 58 = .ok (.goto 4, 3) := by decide +kernel
theorem dX12_digestOfPlayer_61 : decode cX12_digestOfPlayer 61 = .ok (.iconst 0, 1) := by decide +kernel
theorem dX12_digestOfPlayer_62 : decode cX12_digestOfPlayer 62 = .ok (.i2l, 1) := by decide +kernel
theorem dX12_digestOfPlayer_63 : decode cX12_digestOfPlayer 63 = .ok (.ladd, 1) := by decide +kernel
theorem dX12_digestOfPlayer_64 : decode cX12_digestOfPlayer 64 = .ok (.lstore 4, 2) := by decide +kernel
theorem dX12_digestOfPlayer_66 : decode cX12_digestOfPlayer 66 = .ok (.lload 4, 2) := by decide +kernel
theorem dX12_digestOfPlayer_68 : decode cX12_digestOfPlayer 68 = .ok (.ldc2_w 283, 3) := by decide +kernel
theorem dX12_digestOfPlayer_71 : decode cX12_digestOfPlayer 71 = .ok (.lmul, 1) := by decide +kernel
theorem dX12_digestOfPlayer_72 : decode cX12_digestOfPlayer 72 = .ok (.aload_n 0, 1) := by decide +kernel
theorem dX12_digestOfPlayer_73 : decode cX12_digestOfPlayer 73 = .ok (.getfield 60, 3) := by decide +kernel
theorem dX12_digestOfPlayer_76 : decode cX12_digestOfPlayer 76 = .ok (.invokevirtual 203, 3) := by decide +kernel
theorem dX12_digestOfPlayer_79 : decode cX12_digestOfPlayer 79 = .ok (.i2l, 1) := by decide +kernel
theorem dX12_digestOfPlayer_80 : decode cX12_digestOfPlayer 80 = .ok (.ladd, 1) := by decide +kernel
theorem dX12_digestOfPlayer_81 : decode cX12_digestOfPlayer 81 = .ok (.lstore 4, 2) := by decide +kernel
theorem dX12_digestOfPlayer_83 : decode cX12_digestOfPlayer 83 = .ok (.lload 4, 2) := by decide +kernel
theorem dX12_digestOfPlayer_85 : decode cX12_digestOfPlayer 85 = .ok (.ldc2_w 283, 3) := by decide +kernel
theorem dX12_digestOfPlayer_88 : decode cX12_digestOfPlayer 88 = .ok (.lmul, 1) := by decide +kernel
theorem dX12_digestOfPlayer_89 : decode cX12_digestOfPlayer 89 = .ok (.aload_n 0, 1) := by decide +kernel
theorem dX12_digestOfPlayer_90 : decode cX12_digestOfPlayer 90 = .ok (.getfield 60, 3) := by decide +kernel
theorem dX12_digestOfPlayer_93 : decode cX12_digestOfPlayer 93 = .ok (.invokevirtual 204, 3) := by decide +kernel
theorem dX12_digestOfPlayer_96 : decode cX12_digestOfPlayer 96 = .ok (.i2l, 1) := by decide +kernel
theorem dX12_digestOfPlayer_97 : decode cX12_digestOfPlayer 97 = .ok (.ladd, 1) := by decide +kernel
theorem dX12_digestOfPlayer_98 : decode cX12_digestOfPlayer 98 = .ok (.lstore 4, 2) := by decide +kernel
theorem dX12_digestOfPlayer_100 : decode cX12_digestOfPlayer 100 = .ok (.lload 4, 2) := by decide +kernel
theorem dX12_digestOfPlayer_102 : decode cX12_digestOfPlayer 102 = .ok (.ldc2_w 283, 3) := by decide +kernel
theorem dX12_digestOfPlayer_105 : decode cX12_digestOfPlayer 105 = .ok (.lmul, 1) := by decide +kernel
theorem dX12_digestOfPlayer_106 : decode cX12_digestOfPlayer 106 = .ok (.aload_n 0, 1) := by decide +kernel
theorem dX12_digestOfPlayer_107 : decode cX12_digestOfPlayer 107 = .ok (.getfield 67, 3) := by decide +kernel
theorem dX12_digestOfPlayer_110 : decode cX12_digestOfPlayer 110 = .ok (.iload_n 3, 1) := by decide +kernel
theorem dX12_digestOfPlayer_111 : decode cX12_digestOfPlayer 111 = .ok (.invokevirtual 222, 3) := by decide +kernel
theorem dX12_digestOfPlayer_114 : decode cX12_digestOfPlayer 114 = .ok (.i2l, 1) := by decide +kernel
theorem dX12_digestOfPlayer_115 : decode cX12_digestOfPlayer 115 = .ok (.ladd, 1) := by decide +kernel
theorem dX12_digestOfPlayer_116 : decode cX12_digestOfPlayer 116 = .ok (.lstore 4, 2) := by decide +kernel
theorem dX12_digestOfPlayer_118 : decode cX12_digestOfPlayer 118 = .ok (.lload 4, 2) := by decide +kernel
theorem dX12_digestOfPlayer_120 : decode cX12_digestOfPlayer 120 = .ok (.ldc2_w 283, 3) := by decide +kernel
theorem dX12_digestOfPlayer_123 : decode cX12_digestOfPlayer 123 = .ok (.lmul, 1) := by decide +kernel
theorem dX12_digestOfPlayer_124 : decode cX12_digestOfPlayer 124 = .ok (.aload_n 0, 1) := by decide +kernel
theorem dX12_digestOfPlayer_125 : decode cX12_digestOfPlayer 125 = .ok (.getfield 67, 3) := by decide +kernel
theorem dX12_digestOfPlayer_128 : decode cX12_digestOfPlayer 128 = .ok (.iload_n 3, 1) := by decide +kernel
theorem dX12_digestOfPlayer_129 : decode cX12_digestOfPlayer 129 = .ok (.invokevirtual 225, 3) := by decide +kernel
theorem dX12_digestOfPlayer_132 : decode cX12_digestOfPlayer 132 = .ok (.i2l, 1) := by decide +kernel
theorem dX12_digestOfPlayer_133 : decode cX12_digestOfPlayer 133 = .ok (.ladd, 1) := by decide +kernel
theorem dX12_digestOfPlayer_134 : decode cX12_digestOfPlayer 134 = .ok (.lstore 4, 2) := by decide +kernel
theorem dX12_digestOfPlayer_136 : decode cX12_digestOfPlayer 136 = .ok (.lload 4, 2) := by decide +kernel
theorem dX12_digestOfPlayer_138 : decode cX12_digestOfPlayer 138 = .ok (.ldc2_w 283, 3) := by decide +kernel
theorem dX12_digestOfPlayer_141 : decode cX12_digestOfPlayer 141 = .ok (.lmul, 1) := by decide +kernel
theorem dX12_digestOfPlayer_142 : decode cX12_digestOfPlayer 142 = .ok (.aload_n 0, 1) := by decide +kernel
theorem dX12_digestOfPlayer_143 : decode cX12_digestOfPlayer 143 = .ok (.getfield 74, 3) := by decide +kernel
theorem dX12_digestOfPlayer_146 : decode cX12_digestOfPlayer 146 = .ok (.iload_n 3, 1) := by decide +kernel
theorem dX12_digestOfPlayer_147 : decode cX12_digestOfPlayer 147 = .ok (.invokevirtual 245, 3) := by decide +kernel
theorem dX12_digestOfPlayer_150 : decode cX12_digestOfPlayer 150 = .ok (.i2l, 1) := by decide +kernel
theorem dX12_digestOfPlayer_151 : decode cX12_digestOfPlayer 151 = .ok (.ladd, 1) := by decide +kernel
theorem dX12_digestOfPlayer_152 : decode cX12_digestOfPlayer 152 = .ok (.lstore 4, 2) := by decide +kernel
theorem dX12_digestOfPlayer_154 : decode cX12_digestOfPlayer 154 = .ok (.lload 4, 2) := by decide +kernel
theorem dX12_digestOfPlayer_156 : decode cX12_digestOfPlayer 156 = .ok (.ldc2_w 283, 3) := by decide +kernel
theorem dX12_digestOfPlayer_159 : decode cX12_digestOfPlayer 159 = .ok (.lmul, 1) := by decide +kernel
theorem dX12_digestOfPlayer_160 : decode cX12_digestOfPlayer 160 = .ok (.aload_n 0, 1) := by decide +kernel
theorem dX12_digestOfPlayer_161 : decode cX12_digestOfPlayer 161 = .ok (.getfield 74, 3) := by decide +kernel
theorem dX12_digestOfPlayer_164 : decode cX12_digestOfPlayer 164 = .ok (.iload_n 3, 1) := by decide +kernel
theorem dX12_digestOfPlayer_165 : decode cX12_digestOfPlayer 165 = .ok (.invokevirtual 232, 3) := by decide +kernel
theorem dX12_digestOfPlayer_168 : decode cX12_digestOfPlayer 168 = .ok (.i2l, 1) := by decide +kernel
theorem dX12_digestOfPlayer_169 : decode cX12_digestOfPlayer 169 = .ok (.ladd, 1) := by decide +kernel
theorem dX12_digestOfPlayer_170 : decode cX12_digestOfPlayer 170 = .ok (.lstore 4, 2) := by decide +kernel
theorem dX12_digestOfPlayer_172 : decode cX12_digestOfPlayer 172 = .ok (.lload 4, 2) := by decide +kernel
theorem dX12_digestOfPlayer_174 : decode cX12_digestOfPlayer 174 = .ok (.lreturn, 1) := by decide +kernel
theorem dX12_requirePlayer_0 : decode cX12_requirePlayer 0 = .ok (.iload_n 0, 1) := by decide +kernel
theorem dX12_requirePlayer_1 : decode cX12_requirePlayer 1 = .ok (.ifCond .eq 19, 3) := by decide +kernel
theorem dX12_requirePlayer_4 : decode cX12_requirePlayer 4 = .ok (.iload_n 0, 1) := by decide +kernel
theorem dX12_requirePlayer_5 : decode cX12_requirePlayer 5 = .ok (.iconst 1, 1) := by decide +kernel
theorem dX12_requirePlayer_6 : decode cX12_requirePlayer 6 = .ok (.if_icmp .eq 14, 3) := by decide +kernel
theorem dX12_requirePlayer_9 : decode cX12_requirePlayer 9 = .ok (.new 211, 3) := by decide +kernel
theorem dX12_requirePlayer_12 : decode cX12_requirePlayer 12 = .ok (.dup, 1) := by decide +kernel
theorem dX12_requirePlayer_13 : decode cX12_requirePlayer 13 = .ok (.ldc_w 309, 3) := by decide +kernel
theorem dX12_requirePlayer_16 : decode cX12_requirePlayer 16 = .ok (.invokespecial 215, 3) := by decide +kernel
theorem dX12_requirePlayer_19 : decode cX12_requirePlayer 19 = .ok (.athrow, 1) := by decide +kernel
theorem dX12_requirePlayer_20 : decode cX12_requirePlayer 20 = .ok (.return_, 1) := by decide +kernel
theorem dX12_requiredCell_0 : decode cX12_requiredCell 0 = .ok (.aload_n 0, 1) := by decide +kernel
theorem dX12_requiredCell_1 : decode cX12_requiredCell 1 = .ok (.getfield 51, 3) := by decide +kernel
theorem dX12_requiredCell_4 : decode cX12_requiredCell 4 = .ok (.iload_n 1, 1) := by decide +kernel
theorem dX12_requiredCell_5 : decode cX12_requiredCell 5 = .ok (.iload_n 2, 1) := by decide +kernel
theorem dX12_requiredCell_6 : decode cX12_requiredCell 6 = .ok (.invokevirtual 311, 3) := by decide +kernel
theorem dX12_requiredCell_9 : decode cX12_requiredCell 9 = .ok (.istore_n 3, 1) := by decide +kernel
theorem dX12_requiredCell_10 : decode cX12_requiredCell 10 = .ok (.iload_n 3, 1) := by decide +kernel
theorem dX12_requiredCell_11 : decode cX12_requiredCell 11 = .ok (.iconst (-1), 1) := by decide +kernel
theorem dX12_requiredCell_12 : decode cX12_requiredCell 12 = .ok (.if_icmp .ne 13, 3) := by decide +kernel
theorem dX12_requiredCell_15 : decode cX12_requiredCell 15 = .ok (.new 211, 3) := by decide +kernel
theorem dX12_requiredCell_18 : decode cX12_requiredCell 18 = .ok (.dup, 1) := by decide +kernel
theorem dX12_requiredCell_19 : decode cX12_requiredCell 19 = .ok (.ldc 213, 2) := by decide +kernel
theorem dX12_requiredCell_21 : decode cX12_requiredCell 21 = .ok (.invokespecial 215, 3) := by decide +kernel
theorem dX12_requiredCell_24 : decode cX12_requiredCell 24 = .ok (.athrow, 1) := by decide +kernel
theorem dX12_requiredCell_25 : decode cX12_requiredCell 25 = .ok (.iload_n 3, 1) := by decide +kernel
theorem dX12_requiredCell_26 : decode cX12_requiredCell 26 = .ok (.ireturn, 1) := by decide +kernel
theorem dX12_requiredStone_0 : decode cX12_requiredStone 0 = .ok (.aload_n 0, 1) := by decide +kernel
theorem dX12_requiredStone_1 : decode cX12_requiredStone 1 = .ok (.iload_n 1, 1) := by decide +kernel
theorem dX12_requiredStone_2 : decode cX12_requiredStone 2 = .ok (.iload_n 2, 1) := by decide +kernel
theorem dX12_requiredStone_3 : decode cX12_requiredStone 3 = .ok (.invokevirtual 174, 3) := by decide +kernel
theorem dX12_requiredStone_6 : decode cX12_requiredStone 6 = .ok (.istore_n 3, 1) := by decide +kernel
theorem dX12_requiredStone_7 : decode cX12_requiredStone 7 = .ok (.aload_n 0, 1) := by decide +kernel
theorem dX12_requiredStone_8 : decode cX12_requiredStone 8 = .ok (.getfield 51, 3) := by decide +kernel
theorem dX12_requiredStone_11 : decode cX12_requiredStone 11 = .ok (.iload_n 3, 1) := by decide +kernel
theorem dX12_requiredStone_12 : decode cX12_requiredStone 12 = .ok (.invokevirtual 178, 3) := by decide +kernel
theorem dX12_requiredStone_15 : decode cX12_requiredStone 15 = .ok (.ifCond .ne 14, 3) := by decide +kernel
theorem dX12_requiredStone_18 : decode cX12_requiredStone 18 = .ok (.new 98, 3) := by decide +kernel
theorem dX12_requiredStone_21 : decode cX12_requiredStone 21 = .ok (.dup, 1) := by decide +kernel
theorem dX12_requiredStone_22 : decode cX12_requiredStone 22 = .ok (.ldc_w 314, 3) := by decide +kernel
theorem dX12_requiredStone_25 : decode cX12_requiredStone 25 = .ok (.invokespecial 102, 3) := by decide +kernel
theorem dX12_requiredStone_28 : decode cX12_requiredStone 28 = .ok (.athrow, 1) := by decide +kernel
theorem dX12_requiredStone_29 : decode cX12_requiredStone 29 = .ok (.iload_n 3, 1) := by decide +kernel
theorem dX12_requiredStone_30 : decode cX12_requiredStone 30 = .ok (.ireturn, 1) := by decide +kernel
theorem dX12_requireGameOn_0 : decode cX12_requireGameOn 0 = .ok (.aload_n 0, 1) := by decide +kernel
theorem dX12_requireGameOn_1 : decode cX12_requireGameOn 1 = .ok (.invokevirtual 182, 3) := by decide +kernel
theorem dX12_requireGameOn_4 : decode cX12_requireGameOn 4 = .ok (.iconst (-1), 1) := by decide +kernel
theorem dX12_requireGameOn_5 : decode cX12_requireGameOn 5 = .ok (.if_icmp .eq 14, 3) := by decide +kernel
theorem dX12_requireGameOn_8 : decode cX12_requireGameOn 8 = .ok (.new 98, 3) := by decide +kernel
theorem dX12_requireGameOn_11 : decode cX12_requireGameOn 11 = .ok (.dup, 1) := by decide +kernel
theorem dX12_requireGameOn_12 : decode cX12_requireGameOn 12 = .ok (.ldc_w 316, 3) := by decide +kernel
theorem dX12_requireGameOn_15 : decode cX12_requireGameOn 15 = .ok (.invokespecial 102, 3) := by decide +kernel
theorem dX12_requireGameOn_18 : decode cX12_requireGameOn 18 = .ok (.athrow, 1) := by decide +kernel
theorem dX12_requireGameOn_19 : decode cX12_requireGameOn 19 = .ok (.return_, 1) := by decide +kernel
theorem dX12_winner_0 : decode cX12_winner 0 = .ok (.aload_n 0, 1) := by decide +kernel
theorem dX12_winner_1 : decode cX12_winner 1 = .ok (.getfield 74, 3) := by decide +kernel
theorem dX12_winner_4 : decode cX12_winner 4 = .ok (.invokevirtual 231, 3) := by decide +kernel
theorem dX12_winner_7 : decode cX12_winner 7 = .ok (.aload_n 0, 1) := by decide +kernel
theorem dX12_winner_8 : decode cX12_winner 8 = .ok (.getfield 74, 3) := by decide +kernel
theorem dX12_winner_11 : decode cX12_winner 11 = .ok (.iconst 0, 1) := by decide +kernel
theorem dX12_winner_12 : decode cX12_winner 12 = .ok (.invokevirtual 232, 3) := by decide +kernel
theorem dX12_winner_15 : decode cX12_winner 15 = .ok (.ifCond .ne 5, 3) := by decide +kernel
theorem dX12_winner_18 : decode cX12_winner 18 = .ok (.iconst 0, 1) := by decide +kernel
theorem dX12_winner_19 : decode cX12_winner 19 = .ok (.ireturn, 1) := by decide +kernel
theorem dX12_winner_20 : decode cX12_winner 20 = .ok (.aload_n 0, 1) := by decide +kernel
theorem dX12_winner_21 : decode cX12_winner 21 = .ok (.getfield 74, 3) := by decide +kernel
theorem dX12_winner_24 : decode cX12_winner 24 = .ok (.iconst 1, 1) := by decide +kernel
theorem dX12_winner_25 : decode cX12_winner 25 = .ok (.invokevirtual 232, 3) := by decide +kernel
theorem dX12_winner_28 : decode cX12_winner 28 = .ok (.ifCond .ne 7, 3) := by decide +kernel
theorem dX12_winner_31 : decode cX12_winner 31 = .ok (.iconst 1, 1) := by decide +kernel
theorem dX12_winner_32 : decode cX12_winner 32 = .ok (.goto 4, 3) := by decide +kernel
theorem dX12_winner_35 : decode cX12_winner 35 = .ok (.iconst (-1), 1) := by decide +kernel
theorem dX12_winner_36 : decode cX12_winner 36 = .ok (.ireturn, 1) := by decide +kernel
theorem dX12_playOn_0 : decode cX12_playOn 0 = .ok (.iconst 0, 1) := by decide +kernel
theorem dX12_playOn_1 : decode cX12_playOn 1 = .ok (.istore_n 2, 1) := by decide +kernel
theorem dX12_playOn_2 : decode cX12_playOn 2 = .ok (.iload_n 2, 1) := by decide +kernel
theorem dX12_playOn_3 : decode cX12_playOn 3 = .ok (.iload_n 1, 1) := by decide +kernel
theorem dX12_playOn_4 : decode cX12_playOn 4 = .ok (.if_icmp .ge 59, 3) := by decide +kernel
theorem dX12_playOn_7 : decode cX12_playOn 7 = .ok (.aload_n 0, 1) := by decide +kernel
theorem dX12_playOn_8 : decode cX12_playOn 8 = .ok (.invokevirtual 182, 3) := by decide +kernel
theorem dX12_playOn_11 : decode cX12_playOn 11 = .ok (.iconst (-1), 1) := by decide +kernel
theorem dX12_playOn_12 : decode cX12_playOn 12 = .ok (.if_icmp .eq 5, 3) := by decide +kernel
theorem dX12_playOn_15 : decode cX12_playOn 15 = .ok (.iload_n 2, 1) := by decide +kernel
theorem dX12_playOn_16 : decode cX12_playOn 16 = .ok (.ireturn, 1) := by decide +kernel
theorem dX12_playOn_17 : decode cX12_playOn 17 = .ok (.aload_n 0, 1) := by decide +kernel
theorem dX12_playOn_18 : decode cX12_playOn 18 = .ok (.getfield 51, 3) := by decide +kernel
theorem dX12_playOn_21 : decode cX12_playOn 21 = .ok (.invokevirtual 188, 3) := by decide +kernel
theorem dX12_playOn_24 : decode cX12_playOn 24 = .ok (.istore_n 3, 1) := by decide +kernel
theorem dX12_playOn_25 : decode cX12_playOn 25 = .ok (.aload_n 0, 1) := by decide +kernel
theorem dX12_playOn_26 : decode cX12_playOn 26 = .ok (.getfield 83, 3) := by decide +kernel
theorem dX12_playOn_29 : decode cX12_playOn 29 = .ok (.aload_n 0, 1) := by decide +kernel
theorem dX12_playOn_30 : decode cX12_playOn 30 = .ok (.getfield 87, 3) := by decide +kernel
theorem dX12_playOn_33 : decode cX12_playOn 33 = .ok (.iload_n 3, 1) := by decide +kernel
theorem dX12_playOn_34 : decode cX12_playOn 34 = .ok (.invokevirtual 258, 3) := by decide +kernel
theorem dX12_playOn_37 : decode cX12_playOn 37 = .ok (.istore 4, 2) := by decide +kernel
theorem dX12_playOn_39 : decode cX12_playOn 39 = .ok (.iload 4, 2) := by decide +kernel
theorem dX12_playOn_41 : decode cX12_playOn 41 = .ok (.iconst (-1), 1) := by decide +kernel
theorem dX12_playOn_42 : decode cX12_playOn 42 = .ok (.if_icmp .ne 5, 3) := by decide +kernel
theorem dX12_playOn_45 : decode cX12_playOn 45 = .ok (.iload_n 2, 1) := by decide +kernel
theorem dX12_playOn_46 : decode cX12_playOn 46 = .ok (.ireturn, 1) := by decide +kernel
theorem dX12_playOn_47 : decode cX12_playOn 47 = .ok (.aload_n 0, 1) := by decide +kernel
theorem dX12_playOn_48 : decode cX12_playOn 48 = .ok (.getfield 51, 3) := by decide +kernel
theorem dX12_playOn_51 : decode cX12_playOn 51 = .ok (.iload 4, 2) := by decide +kernel
theorem dX12_playOn_53 : decode cX12_playOn 53 = .ok (.iload_n 3, 1) := by decide +kernel
theorem dX12_playOn_54 : decode cX12_playOn 54 = .ok (.invokevirtual 250, 3) := by decide +kernel
theorem dX12_playOn_57 : decode cX12_playOn 57 = .ok (.iinc 2 1, 3) := by decide +kernel
theorem dX12_playOn_60 : decode cX12_playOn 60 = .ok (.goto (-58), 3) := by decide +kernel
theorem dX12_playOn_63 : decode cX12_playOn 63 = .ok (.iload_n 1, 1) := by decide +kernel
theorem dX12_playOn_64 : decode cX12_playOn 64 = .ok (.ireturn, 1) := by decide +kernel
theorem dX12_liftStones_0 : decode cX12_liftStones 0 = .ok (.iconst 0, 1) := by decide +kernel
theorem dX12_liftStones_1 : decode cX12_liftStones 1 = .ok (.istore_n 2, 1) := by decide +kernel
theorem dX12_liftStones_2 : decode cX12_liftStones 2 = .ok (.iload_n 2, 1) := by decide +kernel
theorem dX12_liftStones_3 : decode cX12_liftStones 3 = .ok (.iload_n 1, 1) := by decide +kernel
theorem dX12_liftStones_4 : decode cX12_liftStones 4 = .ok (.if_icmp .ge 17, 3) := by decide +kernel
theorem dX12_liftStones_7 : decode cX12_liftStones 7 = .ok (.aload_n 0, 1) := by decide +kernel
theorem dX12_liftStones_8 : decode cX12_liftStones 8 = .ok (.getfield 51, 3) := by decide +kernel
theorem dX12_liftStones_11 : decode cX12_liftStones 11 = .ok (.invokevirtual 255, 3) := by decide +kernel
theorem dX12_liftStones_14 : decode cX12_liftStones 14 = .ok (.pop, 1) := by decide +kernel
theorem dX12_liftStones_15 : decode cX12_liftStones 15 = .ok (.iinc 2 1, 3) := by decide +kernel
theorem dX12_liftStones_18 : decode cX12_liftStones 18 = .ok (.goto (-16), 3) := by decide +kernel
theorem dX12_liftStones_21 : decode cX12_liftStones 21 = .ok (.return_, 1) := by decide +kernel
theorem dX12_leadWith_0 : decode cX12_leadWith 0 = .ok (.aload_n 0, 1) := by decide +kernel
theorem dX12_leadWith_1 : decode cX12_leadWith 1 = .ok (.getfield 51, 3) := by decide +kernel
theorem dX12_leadWith_4 : decode cX12_leadWith 4 = .ok (.iload_n 1, 1) := by decide +kernel
theorem dX12_leadWith_5 : decode cX12_leadWith 5 = .ok (.iload_n 2, 1) := by decide +kernel
theorem dX12_leadWith_6 : decode cX12_leadWith 6 = .ok (.iconst 1, 1) := by decide +kernel
theorem dX12_leadWith_7 : decode cX12_leadWith 7 = .ok (.iadd, 1) := by decide +kernel
theorem dX12_leadWith_8 : decode cX12_leadWith 8 = .ok (.invokevirtual 154, 3) := by decide +kernel
theorem dX12_leadWith_11 : decode cX12_leadWith 11 = .ok (.aload_n 0, 1) := by decide +kernel
theorem dX12_leadWith_12 : decode cX12_leadWith 12 = .ok (.getfield 74, 3) := by decide +kernel
theorem dX12_leadWith_15 : decode cX12_leadWith 15 = .ok (.invokevirtual 318, 3) := by decide +kernel
theorem dX12_leadWith_18 : decode cX12_leadWith 18 = .ok (.aload_n 0, 1) := by decide +kernel
theorem dX12_leadWith_19 : decode cX12_leadWith 19 = .ok (.getfield 74, 3) := by decide +kernel
theorem dX12_leadWith_22 : decode cX12_leadWith 22 = .ok (.iconst 1, 1) := by decide +kernel
theorem dX12_leadWith_23 : decode cX12_leadWith 23 = .ok (.iload_n 2, 1) := by decide +kernel
theorem dX12_leadWith_24 : decode cX12_leadWith 24 = .ok (.isub, 1) := by decide +kernel
theorem dX12_leadWith_25 : decode cX12_leadWith 25 = .ok (.invokevirtual 232, 3) := by decide +kernel
theorem dX12_leadWith_28 : decode cX12_leadWith 28 = .ok (.aload_n 0, 1) := by decide +kernel
theorem dX12_leadWith_29 : decode cX12_leadWith 29 = .ok (.getfield 74, 3) := by decide +kernel
theorem dX12_leadWith_32 : decode cX12_leadWith 32 = .ok (.iload_n 2, 1) := by decide +kernel
theorem dX12_leadWith_33 : decode cX12_leadWith 33 = .ok (.invokevirtual 232, 3) := by decide +kernel
theorem dX12_leadWith_36 : decode cX12_leadWith 36 = .ok (.isub, 1) := by decide +kernel
theorem dX12_leadWith_37 : decode cX12_leadWith 37 = .ok (.istore_n 3, 1) := by decide +kernel
theorem dX12_leadWith_38 : decode cX12_leadWith 38 = .ok (.aload_n 0, 1) := by decide +kernel
theorem dX12_leadWith_39 : decode cX12_leadWith 39 = .ok (.getfield 51, 3) := by decide +kernel
theorem dX12_leadWith_42 : decode cX12_leadWith 42 = .ok (.iload_n 1, 1) := by decide +kernel
theorem dX12_leadWith_43 : decode cX12_leadWith 43 = .ok (.iconst 0, 1) := by decide +kernel
theorem dX12_leadWith_44 : decode cX12_leadWith 44 = .ok (.invokevirtual 154, 3) := by decide +kernel
theorem dX12_leadWith_47 : decode cX12_leadWith 47 = .ok (.iload_n 3, 1) := by decide +kernel
theorem dX12_leadWith_48 : decode cX12_leadWith 48 = .ok (.ireturn, 1) := by decide +kernel
theorem dX13_init_0 : decode cX13_init 0 = .ok (.aload_n 0, 1) := by decide +kernel
theorem dX13_init_1 : decode cX13_init 1 = .ok (.invokespecial 3, 3) := by decide +kernel
theorem dX13_init_4 : decode cX13_init 4 = .ok (.aload_n 0, 1) := by decide +kernel
theorem dX13_init_5 : decode cX13_init 5 = .ok (.bipush 7, 2) := by decide +kernel
theorem dX13_init_7 : decode cX13_init 7 = .ok (.putfield 9, 3) := by decide +kernel
theorem dX13_init_10 : decode cX13_init 10 = .ok (.aload_n 0, 1) := by decide +kernel
theorem dX13_init_11 : decode cX13_init 11 = .ok (.bipush 7, 2) := by decide +kernel
theorem dX13_init_13 : decode cX13_init 13 = .ok (.putfield 15, 3) := by decide +kernel
theorem dX13_init_16 : decode cX13_init 16 = .ok (.aload_n 0, 1) := by decide +kernel
theorem dX13_init_17 : decode cX13_init 17 = .ok (.bipush 81, 2) := by decide +kernel
theorem dX13_init_19 : decode cX13_init 19 = .ok (.newarray .int, 2) := by decide +kernel
theorem dX13_init_21 : decode cX13_init 21 = .ok (.putfield 18, 3) := by decide +kernel
theorem dX13_init_24 : decode cX13_init 24 = .ok (.aload_n 0, 1) := by decide +kernel
theorem dX13_init_25 : decode cX13_init 25 = .ok (.bipush 17, 2) := by decide +kernel
theorem dX13_init_27 : decode cX13_init 27 = .ok (.newarray .int, 2) := by decide +kernel
theorem dX13_init_29 : decode cX13_init 29 = .ok (.putfield 22, 3) := by decide +kernel
theorem dX13_init_32 : decode cX13_init 32 = .ok (.aload_n 0, 1) := by decide +kernel
theorem dX13_init_33 : decode cX13_init 33 = .ok (.bipush 17, 2) := by decide +kernel
theorem dX13_init_35 : decode cX13_init 35 = .ok (.newarray .int, 2) := by decide +kernel
theorem dX13_init_37 : decode cX13_init 37 = .ok (.putfield 25, 3) := by decide +kernel
theorem dX13_init_40 : decode cX13_init 40 = .ok (.aload_n 0, 1) := by decide +kernel
theorem dX13_init_41 : decode cX13_init 41 = .ok (.bipush 17, 2) := by decide +kernel
theorem dX13_init_43 : decode cX13_init 43 = .ok (.newarray .int, 2) := by decide +kernel
theorem dX13_init_45 : decode cX13_init 45 = .ok (.putfield 28, 3) := by decide +kernel
theorem dX13_init_48 : decode cX13_init 48 = .ok (.aload_n 0, 1) := by decide +kernel
theorem dX13_init_49 : decode cX13_init 49 = .ok (.bipush 17, 2) := by decide +kernel
theorem dX13_init_51 : decode cX13_init 51 = .ok (.newarray .int, 2) := by decide +kernel
theorem dX13_init_53 : decode cX13_init 53 = .ok (.putfield 31, 3) := by decide +kernel
theorem dX13_init_56 : decode cX13_init 56 = .ok (.aload_n 0, 1) := by decide +kernel
theorem dX13_init_57 : decode cX13_init 57 = .ok (.bipush 17, 2) := by decide +kernel
theorem dX13_init_59 : decode cX13_init 59 = .ok (.newarray .int, 2) := by decide +kernel
theorem dX13_init_61 : decode cX13_init 61 = .ok (.putfield 34, 3) := by decide +kernel
theorem dX13_init_64 : decode cX13_init 64 = .ok (.aload_n 0, 1) := by decide +kernel
theorem dX13_init_65 : decode cX13_init 65 = .ok (.bipush 17, 2) := by decide +kernel
theorem dX13_init_67 : decode cX13_init 67 = .ok (.newarray .int, 2) := by decide +kernel
theorem dX13_init_69 : decode cX13_init 69 = .ok (.putfield 37, 3) := by decide +kernel
theorem dX13_init_72 : decode cX13_init 72 = .ok (.aload_n 0, 1) := by decide +kernel
theorem dX13_init_73 : decode cX13_init 73 = .ok (.bipush 17, 2) := by decide +kernel
theorem dX13_init_75 : decode cX13_init 75 = .ok (.newarray .int, 2) := by decide +kernel
theorem dX13_init_77 : decode cX13_init 77 = .ok (.putfield 40, 3) := by decide +kernel
theorem dX13_init_80 : decode cX13_init 80 = .ok (.aload_n 0, 1) := by decide +kernel
theorem dX13_init_81 : decode cX13_init 81 = .ok (.sipush 800, 3) := by decide +kernel
theorem dX13_init_84 : decode cX13_init 84 = .ok (.newarray .int, 2) := by decide +kernel
theorem dX13_init_86 : decode cX13_init 86 = .ok (.putfield 43, 3) := by decide +kernel
theorem dX13_init_89 : decode cX13_init 89 = .ok (.aload_n 0, 1) := by decide +kernel
theorem dX13_init_90 : decode cX13_init 90 = .ok (.sipush 800, 3) := by decide +kernel
theorem dX13_init_93 : decode cX13_init 93 = .ok (.newarray .int, 2) := by decide +kernel
theorem dX13_init_95 : decode cX13_init 95 = .ok (.putfield 46, 3) := by decide +kernel
theorem dX13_init_98 : decode cX13_init 98 = .ok (.aload_n 0, 1) := by decide +kernel
theorem dX13_init_99 : decode cX13_init 99 = .ok (.sipush 800, 3) := by decide +kernel
theorem dX13_init_102 : decode cX13_init 102 = .ok (.newarray .int, 2) := by decide +kernel
theorem dX13_init_104 : decode cX13_init 104 = .ok (.putfield 49, 3) := by decide +kernel
theorem dX13_init_107 : decode cX13_init 107 = .ok (.return_, 1) := by decide +kernel
theorem dX13_begin_0 : decode cX13_begin 0 = .ok (.aload_n 0, 1) := by decide +kernel
theorem dX13_begin_1 : decode cX13_begin 1 = .ok (.bipush 7, 2) := by decide +kernel
theorem dX13_begin_3 : decode cX13_begin 3 = .ok (.putfield 9, 3) := by decide +kernel
theorem dX13_begin_6 : decode cX13_begin 6 = .ok (.aload_n 0, 1) := by decide +kernel
theorem dX13_begin_7 : decode cX13_begin 7 = .ok (.bipush 7, 2) := by decide +kernel
theorem dX13_begin_9 : decode cX13_begin 9 = .ok (.putfield 15, 3) := by decide +kernel
theorem dX13_begin_12 : decode cX13_begin 12 = .ok (.aload_n 0, 1) := by decide +kernel
theorem dX13_begin_13 : decode cX13_begin 13 = .ok (.iconst 0, 1) := by decide +kernel
theorem dX13_begin_14 : decode cX13_begin 14 = .ok (.putfield 52, 3) := by decide +kernel
theorem dX13_begin_17 : decode cX13_begin 17 = .ok (.aload_n 0, 1) := by decide +kernel
theorem dX13_begin_18 : decode cX13_begin 18 = .ok (.iconst 0, 1) := by decide +kernel
theorem dX13_begin_19 : decode cX13_begin 19 = .ok (.putfield 55, 3) := by decide +kernel
theorem dX13_begin_22 : decode cX13_begin 22 = .ok (.iconst 0, 1) := by decide +kernel
theorem dX13_begin_23 : decode cX13_begin 23 = .ok (.istore_n 1, 1) := by decide +kernel
theorem dX13_begin_24 : decode cX13_begin 24 = .ok (.iload_n 1, 1) := by decide +kernel
theorem dX13_begin_25 : decode cX13_begin 25 = .ok (.bipush 81, 2) := by decide +kernel
theorem dX13_begin_27 : decode cX13_begin 27 = .ok (.if_icmp .ge 16, 3) := by decide +kernel
theorem dX13_begin_30 : decode cX13_begin 30 = .ok (.aload_n 0, 1) := by decide +kernel
theorem dX13_begin_31 : decode cX13_begin 31 = .ok (.getfield 18, 3) := by decide +kernel
theorem dX13_begin_34 : decode cX13_begin 34 = .ok (.iload_n 1, 1) := by decide +kernel
theorem dX13_begin_35 : decode cX13_begin 35 = .ok (.iconst (-1), 1) := by decide +kernel
theorem dX13_begin_36 : decode cX13_begin 36 = .ok (.iastore, 1) := by decide +kernel
theorem dX13_begin_37 : decode cX13_begin 37 = .ok (.iinc 1 1, 3) := by decide +kernel
theorem dX13_begin_40 : decode cX13_begin 40 = .ok (.goto (-16), 3) := by decide +kernel
theorem dX13_begin_43 : decode cX13_begin 43 = .ok (.return_, 1) := by decide +kernel
theorem dX13_copy_0 : decode cX13_copy 0 = .ok (.aload_n 0, 1) := by decide +kernel
theorem dX13_copy_1 : decode cX13_copy 1 = .ok (.iconst 0, 1) := by decide +kernel
theorem dX13_copy_2 : decode cX13_copy 2 = .ok (.aload_n 1, 1) := by decide +kernel
theorem dX13_copy_3 : decode cX13_copy 3 = .ok (.iconst 0, 1) := by decide +kernel
theorem dX13_copy_4 : decode cX13_copy 4 = .ok (.aload_n 1, 1) := by decide +kernel
theorem dX13_copy_5 : decode cX13_copy 5 = .ok (.arraylength, 1) := by decide +kernel
theorem dX13_copy_6 : decode cX13_copy 6 = .ok (.invokestatic 58, 3) := by decide +kernel
theorem dX13_copy_9 : decode cX13_copy 9 = .ok (.return_, 1) := by decide +kernel
theorem dX13_become_0 : decode cX13_become 0 = .ok (.aload_n 0, 1) := by decide +kernel
theorem dX13_become_1 : decode cX13_become 1 = .ok (.aload_n 1, 1) := by decide +kernel
theorem dX13_become_2 : decode cX13_become 2 = .ok (.getfield 9, 3) := by decide +kernel
theorem dX13_become_5 : decode cX13_become 5 = .ok (.putfield 9, 3) := by decide +kernel
theorem dX13_become_8 : decode cX13_become 8 = .ok (.aload_n 0, 1) := by decide +kernel
theorem dX13_become_9 : decode cX13_become 9 = .ok (.aload_n 1, 1) := by decide +kernel
theorem dX13_become_10 : decode cX13_become 10 = .ok (.getfield 15, 3) := by decide +kernel
theorem dX13_become_13 : decode cX13_become 13 = .ok (.putfield 15, 3) := by decide +kernel
theorem dX13_become_16 : decode cX13_become 16 = .ok (.aload_n 0, 1) := by decide +kernel
theorem dX13_become_17 : decode cX13_become 17 = .ok (.aload_n 1, 1) := by decide +kernel
theorem dX13_become_18 : decode cX13_become 18 = .ok (.getfield 52, 3) := by decide +kernel
theorem dX13_become_21 : decode cX13_become 21 = .ok (.putfield 52, 3) := by decide +kernel
theorem dX13_become_24 : decode cX13_become 24 = .ok (.aload_n 0, 1) := by decide +kernel
theorem dX13_become_25 : decode cX13_become 25 = .ok (.aload_n 1, 1) := by decide +kernel
theorem dX13_become_26 : decode cX13_become 26 = .ok (.getfield 55, 3) := by decide +kernel
theorem dX13_become_29 : decode cX13_become 29 = .ok (.putfield 55, 3) := by decide +kernel
theorem dX13_become_32 : decode cX13_become 32 = .ok (.aload_n 1, 1) := by decide +kernel
theorem dX13_become_33 : decode cX13_become 33 = .ok (.getfield 18, 3) := by decide +kernel
theorem dX13_become_36 : decode cX13_become 36 = .ok (.aload_n 0, 1) := by decide +kernel
theorem dX13_become_37 : decode cX13_become 37 = .ok (.getfield 18, 3) := by decide +kernel
theorem dX13_become_40 : decode cX13_become 40 = .ok (.invokestatic 64, 3) := by decide +kernel
theorem dX13_become_43 : decode cX13_become 43 = .ok (.aload_n 1, 1) := by decide +kernel
theorem dX13_become_44 : decode cX13_become 44 = .ok (.getfield 22, 3) := by decide +kernel
theorem dX13_become_47 : decode cX13_become 47 = .ok (.aload_n 0, 1) := by decide +kernel
theorem dX13_become_48 : decode cX13_become 48 = .ok (.getfield 22, 3) := by decide +kernel
theorem dX13_become_51 : decode cX13_become 51 = .ok (.invokestatic 64, 3) := by decide +kernel
theorem dX13_become_54 : decode cX13_become 54 = .ok (.aload_n 1, 1) := by decide +kernel
theorem dX13_become_55 : decode cX13_become 55 = .ok (.getfield 25, 3) := by decide +kernel
theorem dX13_become_58 : decode cX13_become 58 = .ok (.aload_n 0, 1) := by decide +kernel
theorem dX13_become_59 : decode cX13_become 59 = .ok (.getfield 25, 3) := by decide +kernel
theorem dX13_become_62 : decode cX13_become 62 = .ok (.invokestatic 64, 3) := by decide +kernel
theorem dX13_become_65 : decode cX13_become 65 = .ok (.aload_n 1, 1) := by decide +kernel
theorem dX13_become_66 : decode cX13_become 66 = .ok (.getfield 28, 3) := by decide +kernel
theorem dX13_become_69 : decode cX13_become 69 = .ok (.aload_n 0, 1) := by decide +kernel
theorem dX13_become_70 : decode cX13_become 70 = .ok (.getfield 28, 3) := by decide +kernel
theorem dX13_become_73 : decode cX13_become 73 = .ok (.invokestatic 64, 3) := by decide +kernel
theorem dX13_become_76 : decode cX13_become 76 = .ok (.aload_n 1, 1) := by decide +kernel
theorem dX13_become_77 : decode cX13_become 77 = .ok (.getfield 31, 3) := by decide +kernel
theorem dX13_become_80 : decode cX13_become 80 = .ok (.aload_n 0, 1) := by decide +kernel
theorem dX13_become_81 : decode cX13_become 81 = .ok (.getfield 31, 3) := by decide +kernel
theorem dX13_become_84 : decode cX13_become 84 = .ok (.invokestatic 64, 3) := by decide +kernel
theorem dX13_become_87 : decode cX13_become 87 = .ok (.aload_n 1, 1) := by decide +kernel
theorem dX13_become_88 : decode cX13_become 88 = .ok (.getfield 34, 3) := by decide +kernel
theorem dX13_become_91 : decode cX13_become 91 = .ok (.aload_n 0, 1) := by decide +kernel
theorem dX13_become_92 : decode cX13_become 92 = .ok (.getfield 34, 3) := by decide +kernel
theorem dX13_become_95 : decode cX13_become 95 = .ok (.invokestatic 64, 3) := by decide +kernel
theorem dX13_become_98 : decode cX13_become 98 = .ok (.aload_n 1, 1) := by decide +kernel
theorem dX13_become_99 : decode cX13_become 99 = .ok (.getfield 37, 3) := by decide +kernel
theorem dX13_become_102 : decode cX13_become 102 = .ok (.aload_n 0, 1) := by decide +kernel
theorem dX13_become_103 : decode cX13_become 103 = .ok (.getfield 37, 3) := by decide +kernel
theorem dX13_become_106 : decode cX13_become 106 = .ok (.invokestatic 64, 3) := by decide +kernel
theorem dX13_become_109 : decode cX13_become 109 = .ok (.aload_n 1, 1) := by decide +kernel
theorem dX13_become_110 : decode cX13_become 110 = .ok (.getfield 40, 3) := by decide +kernel
theorem dX13_become_113 : decode cX13_become 113 = .ok (.aload_n 0, 1) := by decide +kernel
theorem dX13_become_114 : decode cX13_become 114 = .ok (.getfield 40, 3) := by decide +kernel
theorem dX13_become_117 : decode cX13_become 117 = .ok (.invokestatic 64, 3) := by decide +kernel
theorem dX13_become_120 : decode cX13_become 120 = .ok (.aload_n 1, 1) := by decide +kernel
theorem dX13_become_121 : decode cX13_become 121 = .ok (.getfield 43, 3) := by decide +kernel
theorem dX13_become_124 : decode cX13_become 124 = .ok (.aload_n 0, 1) := by decide +kernel
theorem dX13_become_125 : decode cX13_become 125 = .ok (.getfield 43, 3) := by decide +kernel
theorem dX13_become_128 : decode cX13_become 128 = .ok (.invokestatic 64, 3) := by decide +kernel
theorem dX13_become_131 : decode cX13_become 131 = .ok (.aload_n 1, 1) := by decide +kernel
theorem dX13_become_132 : decode cX13_become 132 = .ok (.getfield 46, 3) := by decide +kernel
theorem dX13_become_135 : decode cX13_become 135 = .ok (.aload_n 0, 1) := by decide +kernel
theorem dX13_become_136 : decode cX13_become 136 = .ok (.getfield 46, 3) := by decide +kernel
theorem dX13_become_139 : decode cX13_become 139 = .ok (.invokestatic 64, 3) := by decide +kernel
theorem dX13_become_142 : decode cX13_become 142 = .ok (.aload_n 1, 1) := by decide +kernel
theorem dX13_become_143 : decode cX13_become 143 = .ok (.getfield 49, 3) := by decide +kernel
theorem dX13_become_146 : decode cX13_become 146 = .ok (.aload_n 0, 1) := by decide +kernel
theorem dX13_become_147 : decode cX13_become 147 = .ok (.getfield 49, 3) := by decide +kernel
theorem dX13_become_150 : decode cX13_become 150 = .ok (.invokestatic 64, 3) := by decide +kernel
theorem dX13_become_153 : decode cX13_become 153 = .ok (.return_, 1) := by decide +kernel
theorem dX14_init_0 : decode cX14_init 0 = .ok (.aload_n 0, 1) := by decide +kernel
theorem dX14_init_1 : decode cX14_init 1 = .ok (.invokespecial 1, 3) := by decide +kernel
theorem dX14_init_4 : decode cX14_init 4 = .ok (.aload_n 0, 1) := by decide +kernel
theorem dX14_init_5 : decode cX14_init 5 = .ok (.sipush 2000, 3) := by decide +kernel
theorem dX14_init_8 : decode cX14_init 8 = .ok (.newarray .int, 2) := by decide +kernel
theorem dX14_init_10 : decode cX14_init 10 = .ok (.putfield 9, 3) := by decide +kernel
theorem dX14_init_13 : decode cX14_init 13 = .ok (.aload_n 0, 1) := by decide +kernel
theorem dX14_init_14 : decode cX14_init 14 = .ok (.iconst (-1), 1) := by decide +kernel
theorem dX14_init_15 : decode cX14_init 15 = .ok (.putfield 13, 3) := by decide +kernel
theorem dX14_init_18 : decode cX14_init 18 = .ok (.aload_n 0, 1) := by decide +kernel
theorem dX14_init_19 : decode cX14_init 19 = .ok (.sipush 402, 3) := by decide +kernel
theorem dX14_init_22 : decode cX14_init 22 = .ok (.newarray .int, 2) := by decide +kernel
theorem dX14_init_24 : decode cX14_init 24 = .ok (.putfield 17, 3) := by decide +kernel
theorem dX14_init_27 : decode cX14_init 27 = .ok (.aload_n 0, 1) := by decide +kernel
theorem dX14_init_28 : decode cX14_init 28 = .ok (.sipush 402, 3) := by decide +kernel
theorem dX14_init_31 : decode cX14_init 31 = .ok (.newarray .int, 2) := by decide +kernel
theorem dX14_init_33 : decode cX14_init 33 = .ok (.putfield 20, 3) := by decide +kernel
theorem dX14_init_36 : decode cX14_init 36 = .ok (.aload_n 0, 1) := by decide +kernel
theorem dX14_init_37 : decode cX14_init 37 = .ok (.sipush 402, 3) := by decide +kernel
theorem dX14_init_40 : decode cX14_init 40 = .ok (.newarray .int, 2) := by decide +kernel
theorem dX14_init_42 : decode cX14_init 42 = .ok (.putfield 23, 3) := by decide +kernel
theorem dX14_init_45 : decode cX14_init 45 = .ok (.aload_n 0, 1) := by decide +kernel
theorem dX14_init_46 : decode cX14_init 46 = .ok (.new 26, 3) := by decide +kernel
theorem dX14_init_49 : decode cX14_init 49 = .ok (.dup, 1) := by decide +kernel
theorem dX14_init_50 : decode cX14_init 50 = .ok (.invokespecial 28, 3) := by decide +kernel
theorem dX14_init_53 : decode cX14_init 53 = .ok (.putfield 29, 3) := by decide +kernel
theorem dX14_init_56 : decode cX14_init 56 = .ok (.aload_n 0, 1) := by decide +kernel
theorem dX14_init_57 : decode cX14_init 57 = .ok (.new 26, 3) := by decide +kernel
theorem dX14_init_60 : decode cX14_init 60 = .ok (.dup, 1) := by decide +kernel
theorem dX14_init_61 : decode cX14_init 61 = .ok (.invokespecial 28, 3) := by decide +kernel
theorem dX14_init_64 : decode cX14_init 64 = .ok (.putfield 33, 3) := by decide +kernel
theorem dX14_init_67 : decode cX14_init 67 = .ok (.aload_n 0, 1) := by decide +kernel
theorem dX14_init_68 : decode cX14_init 68 = .ok (.sipush 800, 3) := by decide +kernel
theorem dX14_init_71 : decode cX14_init 71 = .ok (.newarray .int, 2) := by decide +kernel
theorem dX14_init_73 : decode cX14_init 73 = .ok (.putfield 36, 3) := by decide +kernel
theorem dX14_init_76 : decode cX14_init 76 = .ok (.aload_n 0, 1) := by decide +kernel
theorem dX14_init_77 : decode cX14_init 77 = .ok (.bipush 81, 2) := by decide +kernel
theorem dX14_init_79 : decode cX14_init 79 = .ok (.newarray .int, 2) := by decide +kernel
theorem dX14_init_81 : decode cX14_init 81 = .ok (.putfield 39, 3) := by decide +kernel
theorem dX14_init_84 : decode cX14_init 84 = .ok (.aload_n 0, 1) := by decide +kernel
theorem dX14_init_85 : decode cX14_init 85 = .ok (.bipush 81, 2) := by decide +kernel
theorem dX14_init_87 : decode cX14_init 87 = .ok (.newarray .int, 2) := by decide +kernel
theorem dX14_init_89 : decode cX14_init 89 = .ok (.putfield 42, 3) := by decide +kernel
theorem dX14_init_92 : decode cX14_init 92 = .ok (.aload_n 0, 1) := by decide +kernel
theorem dX14_init_93 : decode cX14_init 93 = .ok (.bipush 81, 2) := by decide +kernel
theorem dX14_init_95 : decode cX14_init 95 = .ok (.newarray .int, 2) := by decide +kernel
theorem dX14_init_97 : decode cX14_init 97 = .ok (.putfield 45, 3) := by decide +kernel
theorem dX14_init_100 : decode cX14_init 100 = .ok (.aload_n 0, 1) := by decide +kernel
theorem dX14_init_101 : decode cX14_init 101 = .ok (.bipush 81, 2) := by decide +kernel
theorem dX14_init_103 : decode cX14_init 103 = .ok (.newarray .int, 2) := by decide +kernel
theorem dX14_init_105 : decode cX14_init 105 = .ok (.putfield 48, 3) := by decide +kernel
theorem dX14_init_108 : decode cX14_init 108 = .ok (.aload_n 0, 1) := by decide +kernel
theorem dX14_init_109 : decode cX14_init 109 = .ok (.bipush 81, 2) := by decide +kernel
theorem dX14_init_111 : decode cX14_init 111 = .ok (.newarray .int, 2) := by decide +kernel
theorem dX14_init_113 : decode cX14_init 113 = .ok (.putfield 51, 3) := by decide +kernel
theorem dX14_init_116 : decode cX14_init 116 = .ok (.aload_n 0, 1) := by decide +kernel
theorem dX14_init_117 : decode cX14_init 117 = .ok (.bipush 81, 2) := by decide +kernel
theorem dX14_init_119 : decode cX14_init 119 = .ok (.newarray .int, 2) := by decide +kernel
theorem dX14_init_121 : decode cX14_init 121 = .ok (.putfield 54, 3) := by decide +kernel
theorem dX14_init_124 : decode cX14_init 124 = .ok (.aload_n 0, 1) := by decide +kernel
theorem dX14_init_125 : decode cX14_init 125 = .ok (.bipush 82, 2) := by decide +kernel
theorem dX14_init_127 : decode cX14_init 127 = .ok (.newarray .int, 2) := by decide +kernel
theorem dX14_init_129 : decode cX14_init 129 = .ok (.putfield 57, 3) := by decide +kernel
theorem dX14_init_132 : decode cX14_init 132 = .ok (.aload_n 0, 1) := by decide +kernel
theorem dX14_init_133 : decode cX14_init 133 = .ok (.bipush 81, 2) := by decide +kernel
theorem dX14_init_135 : decode cX14_init 135 = .ok (.newarray .int, 2) := by decide +kernel
theorem dX14_init_137 : decode cX14_init 137 = .ok (.putfield 60, 3) := by decide +kernel
theorem dX14_init_140 : decode cX14_init 140 = .ok (.aload_n 0, 1) := by decide +kernel
theorem dX14_init_141 : decode cX14_init 141 = .ok (.bipush 81, 2) := by decide +kernel
theorem dX14_init_143 : decode cX14_init 143 = .ok (.newarray .boolean, 2) := by decide +kernel
theorem dX14_init_145 : decode cX14_init 145 = .ok (.putfield 63, 3) := by decide +kernel
theorem dX14_init_148 : decode cX14_init 148 = .ok (.aload_n 0, 1) := by decide +kernel
theorem dX14_init_149 : decode cX14_init 149 = .ok (.bipush 6, 2) := by decide +kernel
theorem dX14_init_151 : decode cX14_init 151 = .ok (.newarray .int, 2) := by decide +kernel
theorem dX14_init_153 : decode cX14_init 153 = .ok (.putfield 67, 3) := by decide +kernel
theorem dX14_init_156 : decode cX14_init 156 = .ok (.aload_n 0, 1) := by decide +kernel
theorem dX14_init_157 : decode cX14_init 157 = .ok (.getfield 29, 3) := by decide +kernel
theorem dX14_init_160 : decode cX14_init 160 = .ok (.invokevirtual 70, 3) := by decide +kernel
theorem dX14_init_163 : decode cX14_init 163 = .ok (.iconst 0, 1) := by decide +kernel
theorem dX14_init_164 : decode cX14_init 164 = .ok (.istore_n 1, 1) := by decide +kernel
theorem dX14_init_165 : decode cX14_init 165 = .ok (.iload_n 1, 1) := by decide +kernel
theorem dX14_init_166 : decode cX14_init 166 = .ok (.bipush 81, 2) := by decide +kernel
theorem dX14_init_168 : decode cX14_init 168 = .ok (.if_icmp .ge 16, 3) := by decide +kernel
theorem dX14_init_171 : decode cX14_init 171 = .ok (.aload_n 0, 1) := by decide +kernel
theorem dX14_init_172 : decode cX14_init 172 = .ok (.getfield 39, 3) := by decide +kernel
theorem dX14_init_175 : decode cX14_init 175 = .ok (.iload_n 1, 1) := by decide +kernel
theorem dX14_init_176 : decode cX14_init 176 = .ok (.iconst (-1), 1) := by decide +kernel
theorem dX14_init_177 : decode cX14_init 177 = .ok (.iastore, 1) := by decide +kernel
theorem dX14_init_178 : decode cX14_init 178 = .ok (.iinc 1 1, 3) := by decide +kernel
theorem dX14_init_181 : decode cX14_init 181 = .ok (.goto (-16), 3) := by decide +kernel
theorem dX14_init_184 : decode cX14_init 184 = .ok (.return_, 1) := by decide +kernel
theorem dX14_thrown_0 : decode cX14_thrown 0 = .ok (.aload_n 0, 1) := by decide +kernel
theorem dX14_thrown_1 : decode cX14_thrown 1 = .ok (.getfield 73, 3) := by decide +kernel
theorem dX14_thrown_4 : decode cX14_thrown 4 = .ok (.ireturn, 1) := by decide +kernel
theorem dX14_no_0 : decode cX14_no 0 = .ok (.aload_n 0, 1) := by decide +kernel
theorem dX14_no_1 : decode cX14_no 1 = .ok (.iload_n 1, 1) := by decide +kernel
theorem dX14_no_2 : decode cX14_no 2 = .ok (.putfield 73, 3) := by decide +kernel
theorem dX14_no_5 : decode cX14_no 5 = .ok (.iconst 0, 1) := by decide +kernel
theorem dX14_no_6 : decode cX14_no 6 = .ok (.ireturn, 1) := by decide +kernel
theorem dX14_isNot_0 : decode cX14_isNot 0 = .ok (.aload_n 0, 1) := by decide +kernel
theorem dX14_isNot_1 : decode cX14_isNot 1 = .ok (.iload_n 1, 1) := by decide +kernel
theorem dX14_isNot_2 : decode cX14_isNot 2 = .ok (.putfield 73, 3) := by decide +kernel
theorem dX14_isNot_5 : decode cX14_isNot 5 = .ok (.iconst 0, 1) := by decide +kernel
theorem dX14_isNot_6 : decode cX14_isNot 6 = .ok (.ireturn, 1) := by decide +kernel
theorem dX14_ok_0 : decode cX14_ok 0 = .ok (.aload_n 0, 1) := by decide +kernel
theorem dX14_ok_1 : decode cX14_ok 1 = .ok (.iconst 0, 1) := by decide +kernel
theorem dX14_ok_2 : decode cX14_ok 2 = .ok (.putfield 73, 3) := by decide +kernel
theorem dX14_ok_5 : decode cX14_ok 5 = .ok (.iload_n 1, 1) := by decide +kernel
theorem dX14_ok_6 : decode cX14_ok 6 = .ok (.ireturn, 1) := by decide +kernel
theorem dX14_isIn_0 : decode cX14_isIn 0 = .ok (.iload_n 0, 1) := by decide +kernel
theorem dX14_isIn_1 : decode cX14_isIn 1 = .ok (.iload_n 1, 1) := by decide +kernel
theorem dX14_isIn_2 : decode cX14_isIn 2 = .ok (.if_icmp .lt 12, 3) := by decide +kernel
theorem dX14_isIn_5 : decode cX14_isIn 5 = .ok (.iload_n 0, 1) := by decide +kernel
theorem dX14_isIn_6 : decode cX14_isIn 6 = .ok (.iload_n 2, 1) := by decide +kernel
theorem dX14_isIn_7 : decode cX14_isIn 7 = .ok (.if_icmp .gt 7, 3) := by decide +kernel
theorem dX14_isIn_10 : decode cX14_isIn 10 = .ok (.iconst 1, 1) := by decide +kernel
theorem dX14_isIn_11 : decode cX14_isIn 11 = .ok (.goto 4, 3) := by decide +kernel
theorem dX14_isIn_14 : decode cX14_isIn 14 = .ok (.iconst 0, 1) := by decide +kernel
theorem dX14_isIn_15 : decode cX14_isIn 15 = .ok (.ireturn, 1) := by decide +kernel
theorem dX14_isLetter_0 : decode cX14_isLetter 0 = .ok (.iload_n 0, 1) := by decide +kernel
theorem dX14_isLetter_1 : decode cX14_isLetter 1 = .ok (.bipush 97, 2) := by decide +kernel
theorem dX14_isLetter_3 : decode cX14_isLetter 3 = .ok (.bipush 122, 2) := by decide +kernel
theorem dX14_isLetter_5 : decode cX14_isLetter 5 = .ok (.invokestatic 76, 3) := by decide +kernel
theorem dX14_isLetter_8 : decode cX14_isLetter 8 = .ok (.ireturn, 1) := by decide +kernel
theorem dX14_isDigit_0 : decode cX14_isDigit 0 = .ok (.iload_n 0, 1) := by decide +kernel
theorem dX14_isDigit_1 : decode cX14_isDigit 1 = .ok (.bipush 48, 2) := by decide +kernel
theorem dX14_isDigit_3 : decode cX14_isDigit 3 = .ok (.bipush 57, 2) := by decide +kernel
theorem dX14_isDigit_5 : decode cX14_isDigit 5 = .ok (.invokestatic 76, 3) := by decide +kernel
theorem dX14_isDigit_8 : decode cX14_isDigit 8 = .ok (.ireturn, 1) := by decide +kernel
theorem dX14_byteAt_0 : decode cX14_byteAt 0 = .ok (.iload_n 1, 1) := by decide +kernel
theorem dX14_byteAt_1 : decode cX14_byteAt 1 = .ok (.aload_n 0, 1) := by decide +kernel
theorem dX14_byteAt_2 : decode cX14_byteAt 2 = .ok (.getfield 80, 3) := by decide +kernel
theorem dX14_byteAt_5 : decode cX14_byteAt 5 = .ok (.if_icmp .ge 12, 3) := by decide +kernel
theorem dX14_byteAt_8 : decode cX14_byteAt 8 = .ok (.aload_n 0, 1) := by decide +kernel
theorem dX14_byteAt_9 : decode cX14_byteAt 9 = .ok (.getfield 9, 3) := by decide +kernel
theorem dX14_byteAt_12 : decode cX14_byteAt 12 = .ok (.iload_n 1, 1) := by decide +kernel
theorem dX14_byteAt_13 : decode cX14_byteAt 13 = .ok (.iaload, 1) := by decide +kernel
theorem dX14_byteAt_14 : decode cX14_byteAt 14 = .ok (.goto 4, 3) := by decide +kernel
theorem dX14_byteAt_17 : decode cX14_byteAt 17 = .ok (.iconst (-1), 1) := by decide +kernel
theorem dX14_byteAt_18 : decode cX14_byteAt 18 = .ok (.ireturn, 1) := by decide +kernel
theorem dX14_isWord_0 : decode cX14_isWord 0 = .ok (.aload_n 3, 1) := by decide +kernel
theorem dX14_isWord_1 : decode cX14_isWord 1 = .ok (.invokevirtual 83, 3) := by decide +kernel
theorem dX14_isWord_4 : decode cX14_isWord 4 = .ok (.iload_n 2, 1) := by decide +kernel
theorem dX14_isWord_5 : decode cX14_isWord 5 = .ok (.if_icmp .eq 5, 3) := by decide +kernel
theorem dX14_isWord_8 : decode cX14_isWord 8 = .ok (.iconst 0, 1) := by decide +kernel
theorem dX14_isWord_9 : decode cX14_isWord 9 = .ok (.ireturn, 1) := by decide +kernel
theorem dX14_isWord_10 : decode cX14_isWord 10 = .ok (.iconst 0, 1) := by decide +kernel
theorem dX14_isWord_11 : decode cX14_isWord 11 = .ok (.istore 4, 2) := by decide +kernel
theorem dX14_isWord_13 : decode cX14_isWord 13 = .ok (.iload 4, 2) := by decide +kernel
theorem dX14_isWord_15 : decode cX14_isWord 15 = .ok (.iload_n 2, 1) := by decide +kernel
theorem dX14_isWord_16 : decode cX14_isWord 16 = .ok (.if_icmp .ge 29, 3) := by decide +kernel
theorem dX14_isWord_19 : decode cX14_isWord 19 = .ok (.aload_n 3, 1) := by decide +kernel
theorem dX14_isWord_20 : decode cX14_isWord 20 = .ok (.iload 4, 2) := by decide +kernel
theorem dX14_isWord_22 : decode cX14_isWord 22 = .ok (.invokevirtual 89, 3) := by decide +kernel
theorem dX14_isWord_25 : decode cX14_isWord 25 = .ok (.aload_n 0, 1) := by decide +kernel
theorem dX14_isWord_26 : decode cX14_isWord 26 = .ok (.getfield 9, 3) := by decide +kernel
theorem dX14_isWord_29 : decode cX14_isWord 29 = .ok (.iload_n 1, 1) := by decide +kernel
theorem dX14_isWord_30 : decode cX14_isWord 30 = .ok (.iload 4, 2) := by decide +kernel
theorem dX14_isWord_32 : decode cX14_isWord 32 = .ok (.iadd, 1) := by decide +kernel
theorem dX14_isWord_33 : decode cX14_isWord 33 = .ok (.iaload, 1) := by decide +kernel
theorem dX14_isWord_34 : decode cX14_isWord 34 = .ok (.if_icmp .eq 5, 3) := by decide +kernel
theorem dX14_isWord_37 : decode cX14_isWord 37 = .ok (.iconst 0, 1) := by decide +kernel
theorem dX14_isWord_38 : decode cX14_isWord 38 = .ok (.ireturn, 1) := by decide +kernel
theorem dX14_isWord_39 : decode cX14_isWord 39 = .ok (.iinc 4 1, 3) := by decide +kernel
theorem dX14_isWord_42 : decode cX14_isWord 42 = .ok (.goto (-29), 3) := by decide +kernel
theorem dX14_isWord_45 : decode cX14_isWord 45 = .ok (.iconst 1, 1) := by decide +kernel
theorem dX14_isWord_46 : decode cX14_isWord 46 = .ok (.ireturn, 1) := by decide +kernel
theorem dX14_keyword_0 : decode cX14_keyword 0 = .ok (.iconst 0, 1) := by decide +kernel
theorem dX14_keyword_1 : decode cX14_keyword 1 = .ok (.istore_n 3, 1) := by decide +kernel
theorem dX14_keyword_2 : decode cX14_keyword 2 = .ok (.iload_n 3, 1) := by decide +kernel
theorem dX14_keyword_3 : decode cX14_keyword 3 = .ok (.getstatic 93, 3) := by decide +kernel
theorem dX14_keyword_6 : decode cX14_keyword 6 = .ok (.arraylength, 1) := by decide +kernel
theorem dX14_keyword_7 : decode cX14_keyword 7 = .ok (.if_icmp .ge 25, 3) := by decide +kernel
theorem dX14_keyword_10 : decode cX14_keyword 10 = .ok (.aload_n 0, 1) := by decide +kernel
theorem dX14_keyword_11 : decode cX14_keyword 11 = .ok (.iload_n 1, 1) := by decide +kernel
theorem dX14_keyword_12 : decode cX14_keyword 12 = .ok (.iload_n 2, 1) := by decide +kernel
theorem dX14_keyword_13 : decode cX14_keyword 13 = .ok (.getstatic 93, 3) := by decide +kernel
theorem dX14_keyword_16 : decode cX14_keyword 16 = .ok (.iload_n 3, 1) := by decide +kernel
theorem dX14_keyword_17 : decode cX14_keyword 17 = .ok (.aaload, 1) := by decide +kernel
theorem dX14_keyword_18 : decode cX14_keyword 18 = .ok (.invokevirtual 97, 3) := by decide +kernel
theorem dX14_keyword_21 : decode cX14_keyword 21 = .ok (.ifCond .eq 5, 3) := by decide +kernel
theorem dX14_keyword_24 : decode cX14_keyword 24 = .ok (.iload_n 3, 1) := by decide +kernel
theorem dX14_keyword_25 : decode cX14_keyword 25 = .ok (.ireturn, 1) := by decide +kernel
theorem dX14_keyword_26 : decode cX14_keyword 26 = .ok (.iinc 3 1, 3) := by decide +kernel
theorem dX14_keyword_29 : decode cX14_keyword 29 = .ok (.goto (-27), 3) := by decide +kernel
theorem dX14_keyword_32 : decode cX14_keyword 32 = .ok (.iload_n 2, 1) := by decide +kernel
theorem dX14_keyword_33 : decode cX14_keyword 33 = .ok (.bipush 10, 2) := by decide +kernel
theorem dX14_keyword_35 : decode cX14_keyword 35 = .ok (.if_icmp .le 8, 3) := by decide +kernel
theorem dX14_keyword_38 : decode cX14_keyword 38 = .ok (.bipush 32, 2) := by decide +kernel
theorem dX14_keyword_40 : decode cX14_keyword 40 = .ok (.goto 5, 3) := by decide +kernel
theorem dX14_keyword_43 : decode cX14_keyword 43 = .ok (.bipush 30, 2) := by decide +kernel
theorem dX14_keyword_45 : decode cX14_keyword 45 = .ok (.ireturn, 1) := by decide +kernel
theorem dX14_symbol_0 : decode cX14_symbol 0 = .ok (.iload_n 0, 1) := by decide +kernel
theorem dX14_symbol_1 : decode cX14_symbol 1 = .ok (.tableswitch 270 40 93 #[231, 234, 255, 249, 246, 252, 270, 258, 270, 270, 270, 270, 270, 270, 270, 270, 270, 270, 270, 243, 261, 267, 264, 270, 270, 270, 270, 270, 270, 270, 270, 270, 270, 270, 270, 270, 270, 270, 270, 270, 270, 270, 270, 270, 270, 270, 270, 270, 270, 270, 270, 237, 270, 240], 231) := by decide +kernel
theorem dX14_symbol_232 : decode cX14_symbol 232 = .ok (.bipush 49, 2) := by decide +kernel
theorem dX14_symbol_234 : decode cX14_symbol 234 = .ok (.ireturn, 1) := by decide +kernel
theorem dX14_symbol_235 : decode cX14_symbol 235 = .ok (.bipush 50, 2) := by decide +kernel
theorem dX14_symbol_237 : decode cX14_symbol 237 = .ok (.ireturn, 1) := by decide +kernel
theorem dX14_symbol_238 : decode cX14_symbol 238 = .ok (.bipush 51, 2) := by decide +kernel
theorem dX14_symbol_240 : decode cX14_symbol 240 = .ok (.ireturn, 1) := by decide +kernel
theorem dX14_symbol_241 : decode cX14_symbol 241 = .ok (.bipush 52, 2) := by decide +kernel
theorem dX14_symbol_243 : decode cX14_symbol 243 = .ok (.ireturn, 1) := by decide +kernel
theorem dX14_symbol_244 : decode cX14_symbol 244 = .ok (.bipush 53, 2) := by decide +kernel
theorem dX14_symbol_246 : decode cX14_symbol 246 = .ok (.ireturn, 1) := by decide +kernel
theorem dX14_symbol_247 : decode cX14_symbol 247 = .ok (.bipush 54, 2) := by decide +kernel
theorem dX14_symbol_249 : decode cX14_symbol 249 = .ok (.ireturn, 1) := by decide +kernel
theorem dX14_symbol_250 : decode cX14_symbol 250 = .ok (.bipush 40, 2) := by decide +kernel
theorem dX14_symbol_252 : decode cX14_symbol 252 = .ok (.ireturn, 1) := by decide +kernel
theorem dX14_symbol_253 : decode cX14_symbol 253 = .ok (.bipush 41, 2) := by decide +kernel
theorem dX14_symbol_255 : decode cX14_symbol 255 = .ok (.ireturn, 1) := by decide +kernel
theorem dX14_symbol_256 : decode cX14_symbol 256 = .ok (.bipush 42, 2) := by decide +kernel
theorem dX14_symbol_258 : decode cX14_symbol 258 = .ok (.ireturn, 1) := by decide +kernel
theorem dX14_symbol_259 : decode cX14_symbol 259 = .ok (.bipush 43, 2) := by decide +kernel
theorem dX14_symbol_261 : decode cX14_symbol 261 = .ok (.ireturn, 1) := by decide +kernel
theorem dX14_symbol_262 : decode cX14_symbol 262 = .ok (.bipush 44, 2) := by decide +kernel
theorem dX14_symbol_264 : decode cX14_symbol 264 = .ok (.ireturn, 1) := by decide +kernel
theorem dX14_symbol_265 : decode cX14_symbol 265 = .ok (.bipush 45, 2) := by decide +kernel
theorem dX14_symbol_267 : decode cX14_symbol 267 = .ok (.ireturn, 1) := by decide +kernel
theorem dX14_symbol_268 : decode cX14_symbol 268 = .ok (.bipush 46, 2) := by decide +kernel
theorem dX14_symbol_270 : decode cX14_symbol 270 = .ok (.ireturn, 1) := by decide +kernel
theorem dX14_symbol_271 : decode cX14_symbol 271 = .ok (.bipush 32, 2) := by decide +kernel
theorem dX14_symbol_273 : decode cX14_symbol 273 = .ok (.ireturn, 1) := by decide +kernel
theorem dX14_read_0 : decode cX14_read 0 = .ok (.aload_n 0, 1) := by decide +kernel
theorem dX14_read_1 : decode cX14_read 1 = .ok (.getfield 9, 3) := by decide +kernel
theorem dX14_read_4 : decode cX14_read 4 = .ok (.iload_n 1, 1) := by decide +kernel
theorem dX14_read_5 : decode cX14_read 5 = .ok (.iaload, 1) := by decide +kernel
theorem dX14_read_6 : decode cX14_read 6 = .ok (.istore_n 3, 1) := by decide +kernel
theorem dX14_read_7 : decode cX14_read 7 = .ok (.iload_n 1, 1) := by decide +kernel
theorem dX14_read_8 : decode cX14_read 8 = .ok (.iconst 1, 1) := by decide +kernel
theorem dX14_read_9 : decode cX14_read 9 = .ok (.iadd, 1) := by decide +kernel
theorem dX14_read_10 : decode cX14_read 10 = .ok (.istore 4, 2) := by decide +kernel
theorem dX14_read_12 : decode cX14_read 12 = .ok (.aload_n 0, 1) := by decide +kernel
theorem dX14_read_13 : decode cX14_read 13 = .ok (.getfield 23, 3) := by decide +kernel
theorem dX14_read_16 : decode cX14_read 16 = .ok (.iload_n 2, 1) := by decide +kernel
theorem dX14_read_17 : decode cX14_read 17 = .ok (.iload_n 1, 1) := by decide +kernel
theorem dX14_read_18 : decode cX14_read 18 = .ok (.iastore, 1) := by decide +kernel
theorem dX14_read_19 : decode cX14_read 19 = .ok (.iload_n 3, 1) := by decide +kernel
theorem dX14_read_20 : decode cX14_read 20 = .ok (.invokestatic 101, 3) := by decide +kernel
theorem dX14_read_23 : decode cX14_read 23 = .ok (.ifCond .eq 51, 3) := by decide +kernel
theorem dX14_read_26 : decode cX14_read 26 = .ok (.aload_n 0, 1) := by decide +kernel
theorem dX14_read_27 : decode cX14_read 27 = .ok (.iload 4, 2) := by decide +kernel
theorem dX14_read_29 : decode cX14_read 29 = .ok (.invokevirtual 105, 3) := by decide +kernel
theorem dX14_read_32 : decode cX14_read 32 = .ok (.invokestatic 101, 3) := by decide +kernel
theorem dX14_read_35 : decode cX14_read 35 = .ok (.ifCond .ne 15, 3) := by decide +kernel
theorem dX14_read_38 : decode cX14_read 38 = .ok (.aload_n 0, 1) := by decide +kernel
theorem dX14_read_39 : decode cX14_read 39 = .ok (.iload 4, 2) := by decide +kernel
theorem dX14_read_41 : decode cX14_read 41 = .ok (.invokevirtual 105, 3) := by decide +kernel
theorem dX14_read_44 : decode cX14_read 44 = .ok (.invokestatic 109, 3) := by decide +kernel
theorem dX14_read_47 : decode cX14_read 47 = .ok (.ifCond .eq 9, 3) := by decide +kernel
theorem dX14_read_50 : decode cX14_read 50 = .ok (.iinc 4 1, 3) := by decide +kernel
theorem dX14_read_53 : decode cX14_read 53 = .ok (.goto (-27), 3) := by decide +kernel
theorem dX14_read_56 : decode cX14_read 56 = .ok (.aload_n 0, 1) := by decide +kernel
theorem dX14_read_57 : decode cX14_read 57 = .ok (.getfield 17, 3) := by decide +kernel
theorem dX14_read_60 : decode cX14_read 60 = .ok (.iload_n 2, 1) := by decide +kernel
theorem dX14_read_61 : decode cX14_read 61 = .ok (.aload_n 0, 1) := by decide +kernel
theorem dX14_read_62 : decode cX14_read 62 = .ok (.iload_n 1, 1) := by decide +kernel
theorem dX14_read_63 : decode cX14_read 63 = .ok (.iload 4, 2) := by decide +kernel
theorem dX14_read_65 : decode cX14_read 65 = .ok (.iload_n 1, 1) := by decide +kernel
theorem dX14_read_66 : decode cX14_read 66 = .ok (.isub, 1) := by decide +kernel
theorem dX14_read_67 : decode cX14_read 67 = .ok (.invokevirtual 112, 3) := by decide +kernel
theorem dX14_read_70 : decode cX14_read 70 = .ok (.iastore, 1) := by decide +kernel
theorem dX14_read_71 : decode cX14_read 71 = .ok (.goto 168, 3) := by decide +kernel
theorem dX14_read_74 : decode cX14_read 74 = .ok (.iload_n 3, 1) := by decide +kernel
theorem dX14_read_75 : decode cX14_read 75 = .ok (.invokestatic 109, 3) := by decide +kernel
theorem dX14_read_78 : decode cX14_read 78 = .ok (.ifCond .eq 91, 3) := by decide +kernel
theorem dX14_read_81 : decode cX14_read 81 = .ok (.iload_n 3, 1) := by decide +kernel
theorem dX14_read_82 : decode cX14_read 82 = .ok (.bipush 48, 2) := by decide +kernel
theorem dX14_read_84 : decode cX14_read 84 = .ok (.isub, 1) := by decide +kernel
theorem dX14_read_85 : decode cX14_read 85 = .ok (.istore 5, 2) := by decide +kernel
theorem dX14_read_87 : decode cX14_read 87 = .ok (.aload_n 0, 1) := by decide +kernel
theorem dX14_read_88 : decode cX14_read 88 = .ok (.iload 4, 2) := by decide +kernel
theorem dX14_read_90 : decode cX14_read 90 = .ok (.invokevirtual 105, 3) := by decide +kernel
theorem dX14_read_93 : decode cX14_read 93 = .ok (.invokestatic 109, 3) := by decide +kernel
theorem dX14_read_96 : decode cX14_read 96 = .ok (.ifCond .eq 40, 3) := by decide +kernel
theorem dX14_read_99 : decode cX14_read 99 = .ok (.iload 4, 2) := by decide +kernel
theorem dX14_read_101 : decode cX14_read 101 = .ok (.iload_n 1, 1) := by decide +kernel
theorem dX14_read_102 : decode cX14_read 102 = .ok (.isub, 1) := by decide +kernel
theorem dX14_read_103 : decode cX14_read 103 = .ok (.bipush 7, 2) := by decide +kernel
theorem dX14_read_105 : decode cX14_read 105 = .ok (.if_icmp .ge 21, 3) := by decide +kernel
theorem dX14_read_108 : decode cX14_read 108 = .ok (.bipush 10, 2) := by decide +kernel
theorem dX14_read_110 : decode cX14_read 110 = .ok (.iload 5, 2) := by decide +kernel
theorem dX14_read_112 : decode cX14_read 112 = .ok (.imul, 1) := by decide +kernel
theorem dX14_read_113 : decode cX14_read 113 = .ok (.aload_n 0, 1) := by decide +kernel
theorem dX14_read_114 : decode cX14_read 114 = .ok (.iload 4, 2) := by decide +kernel
theorem dX14_read_116 : decode cX14_read 116 = .ok (.invokevirtual 105, 3) := by decide +kernel
theorem dX14_read_119 : decode cX14_read 119 = .ok (.iadd, 1) := by decide +kernel
theorem dX14_read_120 : decode cX14_read 120 = .ok (.bipush 48, 2) := by decide +kernel
theorem dX14_read_122 : decode cX14_read 122 = .ok (.isub, 1) := by decide +kernel
theorem dX14_read_123 : decode cX14_read 123 = .ok (.goto 5, 3) := by decide +kernel
theorem dX14_read_126 : decode cX14_read 126 = .ok (.iload 5, 2) := by decide +kernel
theorem dX14_read_128 : decode cX14_read 128 = .ok (.istore 5, 2) := by decide +kernel
theorem dX14_read_130 : decode cX14_read 130 = .ok (.iinc 4 1, 3) := by decide +kernel
theorem dX14_read_133 : decode cX14_read 133 = .ok (.goto (-46), 3) := by decide +kernel
theorem dX14_read_136 : decode cX14_read 136 = .ok (.aload_n 0, 1) := by decide +kernel
theorem dX14_read_137 : decode cX14_read 137 = .ok (.getfield 20, 3) := by decide +kernel
theorem dX14_read_140 : decode cX14_read 140 = .ok (.iload_n 2, 1) := by decide +kernel
theorem dX14_read_141 : decode cX14_read 141 = .ok (.iload 5, 2) := by decide +kernel
theorem dX14_read_143 : decode cX14_read 143 = .ok (.iastore, 1) := by decide +kernel
theorem dX14_read_144 : decode cX14_read 144 = .ok (.aload_n 0, 1) := by decide +kernel
theorem dX14_read_145 : decode cX14_read 145 = .ok (.getfield 17, 3) := by decide +kernel
theorem dX14_read_148 : decode cX14_read 148 = .ok (.iload_n 2, 1) := by decide +kernel
theorem dX14_read_149 : decode cX14_read 149 = .ok (.iload 4, 2) := by decide +kernel
theorem dX14_read_151 : decode cX14_read 151 = .ok (.iload_n 1, 1) := by decide +kernel
theorem dX14_read_152 : decode cX14_read 152 = .ok (.isub, 1) := by decide +kernel
theorem dX14_read_153 : decode cX14_read 153 = .ok (.bipush 6, 2) := by decide +kernel
theorem dX14_read_155 : decode cX14_read 155 = .ok (.if_icmp .le 8, 3) := by decide +kernel
theorem dX14_read_158 : decode cX14_read 158 = .ok (.bipush 32, 2) := by decide +kernel
theorem dX14_read_160 : decode cX14_read 160 = .ok (.goto 5, 3) := by decide +kernel
theorem dX14_read_163 : decode cX14_read 163 = .ok (.bipush 31, 2) := by decide +kernel
theorem dX14_read_165 : decode cX14_read 165 = .ok (.iastore, 1) := by decide +kernel
theorem dX14_read_166 : decode cX14_read 166 = .ok (.goto 73, 3) := by decide +kernel
theorem dX14_read_169 : decode cX14_read 169 = .ok (.aload_n 0, 1) := by decide +kernel
theorem dX14_read_170 : decode cX14_read 170 = .ok (.getfield 17, 3) := by decide +kernel
theorem dX14_read_173 : decode cX14_read 173 = .ok (.iload_n 2, 1) := by decide +kernel
theorem dX14_read_174 : decode cX14_read 174 = .ok (.iload_n 3, 1) := by decide +kernel
theorem dX14_read_175 : decode cX14_read 175 = .ok (.invokestatic 116, 3) := by decide +kernel
theorem dX14_read_178 : decode cX14_read 178 = .ok (.iastore, 1) := by decide +kernel
theorem dX14_read_179 : decode cX14_read 179 = .ok (.aload_n 0, 1) := by decide +kernel
theorem dX14_read_180 : decode cX14_read 180 = .ok (.getfield 17, 3) := by decide +kernel
theorem dX14_read_183 : decode cX14_read 183 = .ok (.iload_n 2, 1) := by decide +kernel
theorem dX14_read_184 : decode cX14_read 184 = .ok (.iaload, 1) := by decide +kernel
theorem dX14_read_185 : decode cX14_read 185 = .ok (.bipush 44, 2) := by decide +kernel
theorem dX14_read_187 : decode cX14_read 187 = .ok (.if_icmp .eq 14, 3) := by decide +kernel
theorem dX14_read_190 : decode cX14_read 190 = .ok (.aload_n 0, 1) := by decide +kernel
theorem dX14_read_191 : decode cX14_read 191 = .ok (.getfield 17, 3) := by decide +kernel
theorem dX14_read_194 : decode cX14_read 194 = .ok (.iload_n 2, 1) := by decide +kernel
theorem dX14_read_195 : decode cX14_read 195 = .ok (.iaload, 1) := by decide +kernel
theorem dX14_read_196 : decode cX14_read 196 = .ok (.bipush 45, 2) := by decide +kernel
theorem dX14_read_198 : decode cX14_read 198 = .ok (.if_icmp .ne 41, 3) := by decide +kernel
theorem dX14_read_201 : decode cX14_read 201 = .ok (.aload_n 0, 1) := by decide +kernel
theorem dX14_read_202 : decode cX14_read 202 = .ok (.iload 4, 2) := by decide +kernel
theorem dX14_read_204 : decode cX14_read 204 = .ok (.invokevirtual 105, 3) := by decide +kernel
theorem dX14_read_207 : decode cX14_read 207 = .ok (.bipush 61, 2) := by decide +kernel
theorem dX14_read_209 : decode cX14_read 209 = .ok (.if_icmp .ne 30, 3) := by decide +kernel
theorem dX14_read_212 : decode cX14_read 212 = .ok (.aload_n 0, 1) := by decide +kernel
theorem dX14_read_213 : decode cX14_read 213 = .ok (.getfield 17, 3) := by decide +kernel
theorem dX14_read_216 : decode cX14_read 216 = .ok (.iload_n 2, 1) := by decide +kernel
theorem dX14_read_217 : decode cX14_read 217 = .ok (.aload_n 0, 1) := by decide +kernel
theorem dX14_read_218 : decode cX14_read 218 = .ok (.getfield 17, 3) := by decide +kernel
theorem dX14_read_221 : decode cX14_read 221 = .ok (.iload_n 2, 1) := by decide +kernel
theorem dX14_read_222 : decode cX14_read 222 = .ok (.iaload, 1) := by decide +kernel
theorem dX14_read_223 : decode cX14_read 223 = .ok (.bipush 44, 2) := by decide +kernel
theorem dX14_read_225 : decode cX14_read 225 = .ok (.if_icmp .ne 8, 3) := by decide +kernel
theorem dX14_read_228 : decode cX14_read 228 = .ok (.bipush 47, 2) := by decide +kernel
theorem dX14_read_230 : decode cX14_read 230 = .ok (.goto 5, 3) := by decide +kernel
theorem dX14_read_233 : decode cX14_read 233 = .ok (.bipush 48, 2) := by decide +kernel
theorem dX14_read_235 : decode cX14_read 235 = .ok (.iastore, 1) := by decide +kernel
theorem dX14_read_236 : decode cX14_read 236 = .ok (.iinc 4 1, 3) := by decide +kernel
theorem dX14_read_239 : decode cX14_read 239 = .ok (.iload 4, 2) := by decide +kernel
theorem dX14_read_241 : decode cX14_read 241 = .ok (.ireturn, 1) := by decide +kernel
theorem dX14_skip_0 : decode cX14_skip 0 = .ok (.iload_n 1, 1) := by decide +kernel
theorem dX14_skip_1 : decode cX14_skip 1 = .ok (.istore_n 2, 1) := by decide +kernel
theorem dX14_skip_2 : decode cX14_skip 2 = .ok (.aload_n 0, 1) := by decide +kernel
theorem dX14_skip_3 : decode cX14_skip 3 = .ok (.iload_n 2, 1) := by decide +kernel
theorem dX14_skip_4 : decode cX14_skip 4 = .ok (.invokevirtual 105, 3) := by decide +kernel
theorem dX14_skip_7 : decode cX14_skip 7 = .ok (.bipush 32, 2) := by decide +kernel
theorem dX14_skip_9 : decode cX14_skip 9 = .ok (.if_icmp .eq 13, 3) := by decide +kernel
theorem dX14_skip_12 : decode cX14_skip 12 = .ok (.aload_n 0, 1) := by decide +kernel
theorem dX14_skip_13 : decode cX14_skip 13 = .ok (.iload_n 2, 1) := by decide +kernel
theorem dX14_skip_14 : decode cX14_skip 14 = .ok (.invokevirtual 105, 3) := by decide +kernel
theorem dX14_skip_17 : decode cX14_skip 17 = .ok (.bipush 10, 2) := by decide +kernel
theorem dX14_skip_19 : decode cX14_skip 19 = .ok (.if_icmp .ne 9, 3) := by decide +kernel
theorem dX14_skip_22 : decode cX14_skip 22 = .ok (.iinc 2 1, 3) := by decide +kernel
theorem dX14_skip_25 : decode cX14_skip 25 = .ok (.goto (-23), 3) := by decide +kernel
theorem dX14_skip_28 : decode cX14_skip 28 = .ok (.iload_n 2, 1) := by decide +kernel
theorem dX14_skip_29 : decode cX14_skip 29 = .ok (.ireturn, 1) := by decide +kernel
theorem dX14_readAll_0 : decode cX14_readAll 0 = .ok (.aload_n 0, 1) := by decide +kernel
theorem dX14_readAll_1 : decode cX14_readAll 1 = .ok (.iconst 0, 1) := by decide +kernel
theorem dX14_readAll_2 : decode cX14_readAll 2 = .ok (.invokevirtual 119, 3) := by decide +kernel
theorem dX14_readAll_5 : decode cX14_readAll 5 = .ok (.istore_n 1, 1) := by decide +kernel
theorem dX14_readAll_6 : decode cX14_readAll 6 = .ok (.iconst 0, 1) := by decide +kernel
theorem dX14_readAll_7 : decode cX14_readAll 7 = .ok (.istore_n 2, 1) := by decide +kernel
theorem dX14_readAll_8 : decode cX14_readAll 8 = .ok (.iload_n 1, 1) := by decide +kernel
theorem dX14_readAll_9 : decode cX14_readAll 9 = .ok (.aload_n 0, 1) := by decide +kernel
theorem dX14_readAll_10 : decode cX14_readAll 10 = .ok (.getfield 80, 3) := by decide +kernel
theorem dX14_readAll_13 : decode cX14_readAll 13 = .ok (.if_icmp .ge 52, 3) := by decide +kernel
theorem dX14_readAll_16 : decode cX14_readAll 16 = .ok (.iload_n 2, 1) := by decide +kernel
theorem dX14_readAll_17 : decode cX14_readAll 17 = .ok (.ifCond .eq 16, 3) := by decide +kernel
theorem dX14_readAll_20 : decode cX14_readAll 20 = .ok (.aload_n 0, 1) := by decide +kernel
theorem dX14_readAll_21 : decode cX14_readAll 21 = .ok (.getfield 17, 3) := by decide +kernel
theorem dX14_readAll_24 : decode cX14_readAll 24 = .ok (.iload_n 2, 1) := by decide +kernel
theorem dX14_readAll_25 : decode cX14_readAll 25 = .ok (.iconst 1, 1) := by decide +kernel
theorem dX14_readAll_26 : decode cX14_readAll 26 = .ok (.isub, 1) := by decide +kernel
theorem dX14_readAll_27 : decode cX14_readAll 27 = .ok (.iaload, 1) := by decide +kernel
theorem dX14_readAll_28 : decode cX14_readAll 28 = .ok (.bipush 32, 2) := by decide +kernel
theorem dX14_readAll_30 : decode cX14_readAll 30 = .ok (.if_icmp .eq 35, 3) := by decide +kernel
theorem dX14_readAll_33 : decode cX14_readAll 33 = .ok (.aload_n 0, 1) := by decide +kernel
theorem dX14_readAll_34 : decode cX14_readAll 34 = .ok (.aload_n 0, 1) := by decide +kernel
theorem dX14_readAll_35 : decode cX14_readAll 35 = .ok (.iload_n 1, 1) := by decide +kernel
theorem dX14_readAll_36 : decode cX14_readAll 36 = .ok (.iload_n 2, 1) := by decide +kernel
theorem dX14_readAll_37 : decode cX14_readAll 37 = .ok (.invokevirtual 122, 3) := by decide +kernel
theorem dX14_readAll_40 : decode cX14_readAll 40 = .ok (.invokevirtual 119, 3) := by decide +kernel
theorem dX14_readAll_43 : decode cX14_readAll 43 = .ok (.istore_n 1, 1) := by decide +kernel
theorem dX14_readAll_44 : decode cX14_readAll 44 = .ok (.iload_n 2, 1) := by decide +kernel
theorem dX14_readAll_45 : decode cX14_readAll 45 = .ok (.sipush 400, 3) := by decide +kernel
theorem dX14_readAll_48 : decode cX14_readAll 48 = .ok (.if_icmp .ne 11, 3) := by decide +kernel
theorem dX14_readAll_51 : decode cX14_readAll 51 = .ok (.aload_n 0, 1) := by decide +kernel
theorem dX14_readAll_52 : decode cX14_readAll 52 = .ok (.getfield 17, 3) := by decide +kernel
theorem dX14_readAll_55 : decode cX14_readAll 55 = .ok (.iload_n 2, 1) := by decide +kernel
theorem dX14_readAll_56 : decode cX14_readAll 56 = .ok (.bipush 32, 2) := by decide +kernel
theorem dX14_readAll_58 : decode cX14_readAll 58 = .ok (.iastore, 1) := by decide +kernel
theorem dX14_readAll_59 : decode cX14_readAll 59 = .ok (.iinc 2 1, 3) := by decide +kernel
theorem dX14_readAll_62 : decode cX14_readAll 62 = .ok (.goto (-54), 3) := by decide +kernel
theorem dX14_readAll_65 : decode cX14_readAll 65 = .ok (.aload_n 0, 1) := by decide +kernel
theorem dX14_readAll_66 : decode cX14_readAll 66 = .ok (.getfield 17, 3) := by decide +kernel
theorem dX14_readAll_69 : decode cX14_readAll 69 = .ok (.iload_n 2, 1) := by decide +kernel
theorem dX14_readAll_70 : decode cX14_readAll 70 = .ok (.bipush 33, 2) := by decide +kernel
theorem dX14_readAll_72 : decode cX14_readAll 72 = .ok (.iastore, 1) := by decide +kernel
theorem dX14_readAll_73 : decode cX14_readAll 73 = .ok (.aload_n 0, 1) := by decide +kernel
theorem dX14_readAll_74 : decode cX14_readAll 74 = .ok (.getfield 23, 3) := by decide +kernel
theorem dX14_readAll_77 : decode cX14_readAll 77 = .ok (.iload_n 2, 1) := by decide +kernel
theorem dX14_readAll_78 : decode cX14_readAll 78 = .ok (.aload_n 0, 1) := by decide +kernel
theorem dX14_readAll_79 : decode cX14_readAll 79 = .ok (.getfield 80, 3) := by decide +kernel
theorem dX14_readAll_82 : decode cX14_readAll 82 = .ok (.iastore, 1) := by decide +kernel
theorem dX14_readAll_83 : decode cX14_readAll 83 = .ok (.return_, 1) := by decide +kernel
theorem dX14_is_0 : decode cX14_is 0 = .ok (.aload_n 0, 1) := by decide +kernel
theorem dX14_is_1 : decode cX14_is 1 = .ok (.getfield 125, 3) := by decide +kernel
theorem dX14_is_4 : decode cX14_is 4 = .ok (.ifCond .ne 20, 3) := by decide +kernel
theorem dX14_is_7 : decode cX14_is 7 = .ok (.aload_n 0, 1) := by decide +kernel
theorem dX14_is_8 : decode cX14_is 8 = .ok (.getfield 17, 3) := by decide +kernel
theorem dX14_is_11 : decode cX14_is 11 = .ok (.aload_n 0, 1) := by decide +kernel
theorem dX14_is_12 : decode cX14_is 12 = .ok (.getfield 129, 3) := by decide +kernel
theorem dX14_is_15 : decode cX14_is 15 = .ok (.iaload, 1) := by decide +kernel
theorem dX14_is_16 : decode cX14_is 16 = .ok (.iload_n 1, 1) := by decide +kernel
theorem dX14_is_17 : decode cX14_is 17 = .ok (.if_icmp .ne 7, 3) := by decide +kernel
theorem dX14_is_20 : decode cX14_is 20 = .ok (.iconst 1, 1) := by decide +kernel
theorem dX14_is_21 : decode cX14_is 21 = .ok (.goto 4, 3) := by decide +kernel
theorem dX14_is_24 : decode cX14_is 24 = .ok (.iconst 0, 1) := by decide +kernel
theorem dX14_is_25 : decode cX14_is 25 = .ok (.ireturn, 1) := by decide +kernel
theorem dX14_wrong_0 : decode cX14_wrong 0 = .ok (.aload_n 0, 1) := by decide +kernel
theorem dX14_wrong_1 : decode cX14_wrong 1 = .ok (.getfield 125, 3) := by decide +kernel
theorem dX14_wrong_4 : decode cX14_wrong 4 = .ok (.ifCond .eq 4, 3) := by decide +kernel
theorem dX14_wrong_7 : decode cX14_wrong 7 = .ok (.return_, 1) := by decide +kernel
theorem dX14_wrong_8 : decode cX14_wrong 8 = .ok (.aload_n 0, 1) := by decide +kernel
theorem dX14_wrong_9 : decode cX14_wrong 9 = .ok (.iconst 1, 1) := by decide +kernel
theorem dX14_wrong_10 : decode cX14_wrong 10 = .ok (.putfield 125, 3) := by decide +kernel
theorem dX14_wrong_13 : decode cX14_wrong 13 = .ok (.aload_n 0, 1) := by decide +kernel
theorem dX14_wrong_14 : decode cX14_wrong 14 = .ok (.iconst 1, 1) := by decide +kernel
theorem dX14_wrong_15 : decode cX14_wrong 15 = .ok (.putfield 132, 3) := by decide +kernel
theorem dX14_wrong_18 : decode cX14_wrong 18 = .ok (.aload_n 0, 1) := by decide +kernel
theorem dX14_wrong_19 : decode cX14_wrong 19 = .ok (.aload_n 0, 1) := by decide +kernel
theorem dX14_wrong_20 : decode cX14_wrong 20 = .ok (.getfield 129, 3) := by decide +kernel
theorem dX14_wrong_23 : decode cX14_wrong 23 = .ok (.putfield 135, 3) := by decide +kernel
theorem dX14_wrong_26 : decode cX14_wrong 26 = .ok (.return_, 1) := by decide +kernel
theorem dX14_take_0 : decode cX14_take 0 = .ok (.aload_n 0, 1) := by decide +kernel
theorem dX14_take_1 : decode cX14_take 1 = .ok (.iload_n 1, 1) := by decide +kernel
theorem dX14_take_2 : decode cX14_take 2 = .ok (.invokevirtual 138, 3) := by decide +kernel
theorem dX14_take_5 : decode cX14_take 5 = .ok (.ifCond .eq 16, 3) := by decide +kernel
theorem dX14_take_8 : decode cX14_take 8 = .ok (.aload_n 0, 1) := by decide +kernel
theorem dX14_take_9 : decode cX14_take 9 = .ok (.dup, 1) := by decide +kernel
theorem dX14_take_10 : decode cX14_take 10 = .ok (.getfield 129, 3) := by decide +kernel
theorem dX14_take_13 : decode cX14_take 13 = .ok (.iconst 1, 1) := by decide +kernel
theorem dX14_take_14 : decode cX14_take 14 = .ok (.iadd, 1) := by decide +kernel
theorem dX14_take_15 : decode cX14_take 15 = .ok (.putfield 129, 3) := by decide +kernel
theorem dX14_take_18 : decode cX14_take 18 = .ok (.goto 7, 3) := by decide +kernel
theorem dX14_take_21 : decode cX14_take 21 = .ok (.aload_n 0, 1) := by decide +kernel
theorem dX14_take_22 : decode cX14_take 22 = .ok (.invokevirtual 141, 3) := by decide +kernel
theorem dX14_take_25 : decode cX14_take 25 = .ok (.return_, 1) := by decide +kernel
theorem dX14_takes_0 : decode cX14_takes 0 = .ok (.aload_n 0, 1) := by decide +kernel
theorem dX14_takes_1 : decode cX14_takes 1 = .ok (.iload_n 1, 1) := by decide +kernel
theorem dX14_takes_2 : decode cX14_takes 2 = .ok (.invokevirtual 138, 3) := by decide +kernel
theorem dX14_takes_5 : decode cX14_takes 5 = .ok (.ifCond .ne 5, 3) := by decide +kernel
theorem dX14_takes_8 : decode cX14_takes 8 = .ok (.iconst 0, 1) := by decide +kernel
theorem dX14_takes_9 : decode cX14_takes 9 = .ok (.ireturn, 1) := by decide +kernel
theorem dX14_takes_10 : decode cX14_takes 10 = .ok (.aload_n 0, 1) := by decide +kernel
theorem dX14_takes_11 : decode cX14_takes 11 = .ok (.dup, 1) := by decide +kernel
theorem dX14_takes_12 : decode cX14_takes 12 = .ok (.getfield 129, 3) := by decide +kernel
theorem dX14_takes_15 : decode cX14_takes 15 = .ok (.iconst 1, 1) := by decide +kernel
theorem dX14_takes_16 : decode cX14_takes 16 = .ok (.iadd, 1) := by decide +kernel
theorem dX14_takes_17 : decode cX14_takes 17 = .ok (.putfield 129, 3) := by decide +kernel
theorem dX14_takes_20 : decode cX14_takes 20 = .ok (.iconst 1, 1) := by decide +kernel
theorem dX14_takes_21 : decode cX14_takes 21 = .ok (.ireturn, 1) := by decide +kernel
theorem dX14_deeper_0 : decode cX14_deeper 0 = .ok (.aload_n 0, 1) := by decide +kernel
theorem dX14_deeper_1 : decode cX14_deeper 1 = .ok (.getfield 144, 3) := by decide +kernel
theorem dX14_deeper_4 : decode cX14_deeper 4 = .ok (.bipush 8, 2) := by decide +kernel
theorem dX14_deeper_6 : decode cX14_deeper 6 = .ok (.if_icmp .ne 10, 3) := by decide +kernel
theorem dX14_deeper_9 : decode cX14_deeper 9 = .ok (.aload_n 0, 1) := by decide +kernel
theorem dX14_deeper_10 : decode cX14_deeper 10 = .ok (.invokevirtual 141, 3) := by decide +kernel
theorem dX14_deeper_13 : decode cX14_deeper 13 = .ok (.goto 13, 3) := by decide +kernel
theorem dX14_deeper_16 : decode cX14_deeper 16 = .ok (.aload_n 0, 1) := by decide +kernel
theorem dX14_deeper_17 : decode cX14_deeper 17 = .ok (.dup, 1) := by decide +kernel
theorem dX14_deeper_18 : decode cX14_deeper 18 = .ok (.getfield 129, 3) := by decide +kernel
theorem dX14_deeper_21 : decode cX14_deeper 21 = .ok (.iconst 1, 1) := by decide +kernel
theorem dX14_deeper_22 : decode cX14_deeper 22 = .ok (.iadd, 1) := by decide +kernel
theorem dX14_deeper_23 : decode cX14_deeper 23 = .ok (.putfield 129, 3) := by decide +kernel
theorem dX14_deeper_26 : decode cX14_deeper 26 = .ok (.aload_n 0, 1) := by decide +kernel
theorem dX14_deeper_27 : decode cX14_deeper 27 = .ok (.dup, 1) := by decide +kernel
theorem dX14_deeper_28 : decode cX14_deeper 28 = .ok (.getfield 144, 3) := by decide +kernel
theorem dX14_deeper_31 : decode cX14_deeper 31 = .ok (.iconst 1, 1) := by decide +kernel
theorem dX14_deeper_32 : decode cX14_deeper 32 = .ok (.iadd, 1) := by decide +kernel
theorem dX14_deeper_33 : decode cX14_deeper 33 = .ok (.putfield 144, 3) := by decide +kernel
theorem dX14_deeper_36 : decode cX14_deeper 36 = .ok (.return_, 1) := by decide +kernel
theorem dX14_mark_0 : decode cX14_mark 0 = .ok (.aload_n 0, 1) := by decide +kernel
theorem dX14_mark_1 : decode cX14_mark 1 = .ok (.getfield 125, 3) := by decide +kernel
theorem dX14_mark_4 : decode cX14_mark 4 = .ok (.ifCond .ne 10, 3) := by decide +kernel
theorem dX14_mark_7 : decode cX14_mark 7 = .ok (.aload_n 0, 1) := by decide +kernel
theorem dX14_mark_8 : decode cX14_mark 8 = .ok (.getfield 132, 3) := by decide +kernel
theorem dX14_mark_11 : decode cX14_mark 11 = .ok (.ifCond .eq 4, 3) := by decide +kernel
theorem dX14_mark_14 : decode cX14_mark 14 = .ok (.return_, 1) := by decide +kernel
theorem dX14_mark_15 : decode cX14_mark 15 = .ok (.aload_n 0, 1) := by decide +kernel
theorem dX14_mark_16 : decode cX14_mark 16 = .ok (.iload_n 1, 1) := by decide +kernel
theorem dX14_mark_17 : decode cX14_mark 17 = .ok (.putfield 132, 3) := by decide +kernel
theorem dX14_mark_20 : decode cX14_mark 20 = .ok (.aload_n 0, 1) := by decide +kernel
theorem dX14_mark_21 : decode cX14_mark 21 = .ok (.aload_n 0, 1) := by decide +kernel
theorem dX14_mark_22 : decode cX14_mark 22 = .ok (.getfield 129, 3) := by decide +kernel
theorem dX14_mark_25 : decode cX14_mark 25 = .ok (.putfield 135, 3) := by decide +kernel
theorem dX14_mark_28 : decode cX14_mark 28 = .ok (.return_, 1) := by decide +kernel
theorem dX14_node_0 : decode cX14_node 0 = .ok (.aload_n 0, 1) := by decide +kernel
theorem dX14_node_1 : decode cX14_node 1 = .ok (.getfield 33, 3) := by decide +kernel
theorem dX14_node_4 : decode cX14_node 4 = .ok (.getfield 147, 3) := by decide +kernel
theorem dX14_node_7 : decode cX14_node 7 = .ok (.istore 4, 2) := by decide +kernel
theorem dX14_node_9 : decode cX14_node 9 = .ok (.aload_n 0, 1) := by decide +kernel
theorem dX14_node_10 : decode cX14_node 10 = .ok (.getfield 33, 3) := by decide +kernel
theorem dX14_node_13 : decode cX14_node 13 = .ok (.getfield 150, 3) := by decide +kernel
theorem dX14_node_16 : decode cX14_node 16 = .ok (.iload 4, 2) := by decide +kernel
theorem dX14_node_18 : decode cX14_node 18 = .ok (.iload_n 1, 1) := by decide +kernel
theorem dX14_node_19 : decode cX14_node 19 = .ok (.iastore, 1) := by decide +kernel
theorem dX14_node_20 : decode cX14_node 20 = .ok (.aload_n 0, 1) := by decide +kernel
theorem dX14_node_21 : decode cX14_node 21 = .ok (.getfield 33, 3) := by decide +kernel
theorem dX14_node_24 : decode cX14_node 24 = .ok (.getfield 153, 3) := by decide +kernel
theorem dX14_node_27 : decode cX14_node 27 = .ok (.iload 4, 2) := by decide +kernel
theorem dX14_node_29 : decode cX14_node 29 = .ok (.iload_n 2, 1) := by decide +kernel
theorem dX14_node_30 : decode cX14_node 30 = .ok (.iastore, 1) := by decide +kernel
theorem dX14_node_31 : decode cX14_node 31 = .ok (.aload_n 0, 1) := by decide +kernel
theorem dX14_node_32 : decode cX14_node 32 = .ok (.getfield 33, 3) := by decide +kernel
theorem dX14_node_35 : decode cX14_node 35 = .ok (.getfield 156, 3) := by decide +kernel
theorem dX14_node_38 : decode cX14_node 38 = .ok (.iload 4, 2) := by decide +kernel
theorem dX14_node_40 : decode cX14_node 40 = .ok (.iload_n 3, 1) := by decide +kernel
theorem dX14_node_41 : decode cX14_node 41 = .ok (.iastore, 1) := by decide +kernel
theorem dX14_node_42 : decode cX14_node 42 = .ok (.aload_n 0, 1) := by decide +kernel
theorem dX14_node_43 : decode cX14_node 43 = .ok (.getfield 33, 3) := by decide +kernel
