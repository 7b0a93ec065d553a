theorem dX1_init_0 : decode cX1_init 0 = .ok (.aload_n 0, 1) := by decide +kernel
theorem dX1_init_1 : decode cX1_init 1 = .ok (.invokespecial 3, 3) := by decide +kernel
theorem dX1_init_4 : decode cX1_init 4 = .ok (.aload_n 0, 1) := by decide +kernel
theorem dX1_init_5 : decode cX1_init 5 = .ok (.iconst 2, 1) := by decide +kernel
theorem dX1_init_6 : decode cX1_init 6 = .ok (.newarray .int, 2) := by decide +kernel
theorem dX1_init_8 : decode cX1_init 8 = .ok (.putfield 9, 3) := by decide +kernel
theorem dX1_init_11 : decode cX1_init 11 = .ok (.aload_n 0, 1) := by decide +kernel
theorem dX1_init_12 : decode cX1_init 12 = .ok (.iconst 2, 1) := by decide +kernel
theorem dX1_init_13 : decode cX1_init 13 = .ok (.newarray .int, 2) := by decide +kernel
theorem dX1_init_15 : decode cX1_init 15 = .ok (.putfield 15, 3) := by decide +kernel
theorem dX1_init_18 : decode cX1_init 18 = .ok (.aload_n 0, 1) := by decide +kernel
theorem dX1_init_19 : decode cX1_init 19 = .ok (.iconst 2, 1) := by decide +kernel
theorem dX1_init_20 : decode cX1_init 20 = .ok (.newarray .int, 2) := by decide +kernel
theorem dX1_init_22 : decode cX1_init 22 = .ok (.putfield 18, 3) := by decide +kernel
theorem dX1_init_25 : decode cX1_init 25 = .ok (.aload_n 0, 1) := by decide +kernel
theorem dX1_init_26 : decode cX1_init 26 = .ok (.iconst (-1), 1) := by decide +kernel
theorem dX1_init_27 : decode cX1_init 27 = .ok (.putfield 21, 3) := by decide +kernel
theorem dX1_init_30 : decode cX1_init 30 = .ok (.aload_n 0, 1) := by decide +kernel
theorem dX1_init_31 : decode cX1_init 31 = .ok (.aload_n 1, 1) := by decide +kernel
theorem dX1_init_32 : decode cX1_init 32 = .ok (.putfield 25, 3) := by decide +kernel
theorem dX1_init_35 : decode cX1_init 35 = .ok (.return_, 1) := by decide +kernel
theorem dX1_isWhole_0 : decode cX1_isWhole 0 = .ok (.iconst 0, 1) := by decide +kernel
theorem dX1_isWhole_1 : decode cX1_isWhole 1 = .ok (.istore_n 3, 1) := by decide +kernel
theorem dX1_isWhole_2 : decode cX1_isWhole 2 = .ok (.iload_n 3, 1) := by decide +kernel
theorem dX1_isWhole_3 : decode cX1_isWhole 3 = .ok (.bipush 6, 2) := by decide +kernel
theorem dX1_isWhole_5 : decode cX1_isWhole 5 = .ok (.if_icmp .ge 40, 3) := by decide +kernel
theorem dX1_isWhole_8 : decode cX1_isWhole 8 = .ok (.aload_n 0, 1) := by decide +kernel
theorem dX1_isWhole_9 : decode cX1_isWhole 9 = .ok (.iload_n 1, 1) := by decide +kernel
theorem dX1_isWhole_10 : decode cX1_isWhole 10 = .ok (.iload_n 3, 1) := by decide +kernel
theorem dX1_isWhole_11 : decode cX1_isWhole 11 = .ok (.invokevirtual 29, 3) := by decide +kernel
theorem dX1_isWhole_14 : decode cX1_isWhole 14 = .ok (.iload_n 2, 1) := by decide +kernel
theorem dX1_isWhole_15 : decode cX1_isWhole 15 = .ok (.if_icmp .ne 24, 3) := by decide +kernel
theorem dX1_isWhole_18 : decode cX1_isWhole 18 = .ok (.iload_n 2, 1) := by decide +kernel
theorem dX1_isWhole_19 : decode cX1_isWhole 19 = .ok (.iconst (-1), 1) := by decide +kernel
theorem dX1_isWhole_20 : decode cX1_isWhole 20 = .ok (.if_icmp .eq 19, 3) := by decide +kernel
theorem dX1_isWhole_23 : decode cX1_isWhole 23 = .ok (.aload_n 0, 1) := by decide +kernel
theorem dX1_isWhole_24 : decode cX1_isWhole 24 = .ok (.iload_n 1, 1) := by decide +kernel
theorem dX1_isWhole_25 : decode cX1_isWhole 25 = .ok (.iload_n 3, 1) := by decide +kernel
theorem dX1_isWhole_26 : decode cX1_isWhole 26 = .ok (.invokevirtual 33, 3) := by decide +kernel
theorem dX1_isWhole_29 : decode cX1_isWhole 29 = .ok (.iconst 1, 1) := by decide +kernel
theorem dX1_isWhole_30 : decode cX1_isWhole 30 = .ok (.if_icmp .ne 7, 3) := by decide +kernel
theorem dX1_isWhole_33 : decode cX1_isWhole 33 = .ok (.iconst 1, 1) := by decide +kernel
theorem dX1_isWhole_34 : decode cX1_isWhole 34 = .ok (.goto 4, 3) := by decide +kernel
theorem dX1_isWhole_37 : decode cX1_isWhole 37 = .ok (.iconst 0, 1) := by decide +kernel
theorem dX1_isWhole_38 : decode cX1_isWhole 38 = .ok (.ireturn, 1) := by decide +kernel
theorem dX1_isWhole_39 : decode cX1_isWhole 39 = .ok (.iinc 3 1, 3) := by decide +kernel
theorem dX1_isWhole_42 : decode cX1_isWhole 42 = .ok (.goto (-40), 3) := by decide +kernel
theorem dX1_isWhole_45 : decode cX1_isWhole 45 = .ok (.iconst 0, 1) := by decide +kernel
theorem dX1_isWhole_46 : decode cX1_isWhole 46 = .ok (.ireturn, 1) := by decide +kernel
theorem dX1_look_0 : decode cX1_look 0 = .ok (.aload_n 0, 1) := by decide +kernel
theorem dX1_look_1 : decode cX1_look 1 = .ok (.getfield 21, 3) := by decide +kernel
theorem dX1_look_4 : decode cX1_look 4 = .ok (.aload_n 0, 1) := by decide +kernel
theorem dX1_look_5 : decode cX1_look 5 = .ok (.getfield 25, 3) := by decide +kernel
theorem dX1_look_8 : decode cX1_look 8 = .ok (.invokevirtual 36, 3) := by decide +kernel
theorem dX1_look_11 : decode cX1_look 11 = .ok (.if_icmp .ne 4, 3) := by decide +kernel
theorem dX1_look_14 : decode cX1_look 14 = .ok (.return_, 1) := by decide +kernel
theorem dX1_look_15 : decode cX1_look 15 = .ok (.aload_n 0, 1) := by decide +kernel
theorem dX1_look_16 : decode cX1_look 16 = .ok (.aload_n 0, 1) := by decide +kernel
theorem dX1_look_17 : decode cX1_look 17 = .ok (.getfield 25, 3) := by decide +kernel
theorem dX1_look_20 : decode cX1_look 20 = .ok (.invokevirtual 36, 3) := by decide +kernel
theorem dX1_look_23 : decode cX1_look 23 = .ok (.putfield 21, 3) := by decide +kernel
theorem dX1_look_26 : decode cX1_look 26 = .ok (.aload_n 0, 1) := by decide +kernel
theorem dX1_look_27 : decode cX1_look 27 = .ok (.getfield 9, 3) := by decide +kernel
theorem dX1_look_30 : decode cX1_look 30 = .ok (.iconst 0, 1) := by decide +kernel
theorem dX1_look_31 : decode cX1_look 31 = .ok (.invokestatic 42, 3) := by decide +kernel
theorem dX1_look_34 : decode cX1_look 34 = .ok (.aload_n 0, 1) := by decide +kernel
theorem dX1_look_35 : decode cX1_look 35 = .ok (.getfield 15, 3) := by decide +kernel
theorem dX1_look_38 : decode cX1_look 38 = .ok (.iconst 0, 1) := by decide +kernel
theorem dX1_look_39 : decode cX1_look 39 = .ok (.invokestatic 42, 3) := by decide +kernel
theorem dX1_look_42 : decode cX1_look 42 = .ok (.aload_n 0, 1) := by decide +kernel
theorem dX1_look_43 : decode cX1_look 43 = .ok (.getfield 18, 3) := by decide +kernel
theorem dX1_look_46 : decode cX1_look 46 = .ok (.iconst (-1), 1) := by decide +kernel
theorem dX1_look_47 : decode cX1_look 47 = .ok (.invokestatic 42, 3) := by decide +kernel
theorem dX1_look_50 : decode cX1_look 50 = .ok (.iconst 0, 1) := by decide +kernel
theorem dX1_look_51 : decode cX1_look 51 = .ok (.istore_n 1, 1) := by decide +kernel
theorem dX1_look_52 : decode cX1_look 52 = .ok (.iload_n 1, 1) := by decide +kernel
theorem dX1_look_53 : decode cX1_look 53 = .ok (.aload_n 0, 1) := by decide +kernel
theorem dX1_look_54 : decode cX1_look 54 = .ok (.getfield 25, 3) := by decide +kernel
theorem dX1_look_57 : decode cX1_look 57 = .ok (.invokevirtual 48, 3) := by decide +kernel
theorem dX1_look_60 : decode cX1_look 60 = .ok (.if_icmp .ge 34, 3) := by decide +kernel
theorem dX1_look_63 : decode cX1_look 63 = .ok (.iconst 0, 1) := by decide +kernel
theorem dX1_look_64 : decode cX1_look 64 = .ok (.istore_n 2, 1) := by decide +kernel
theorem dX1_look_65 : decode cX1_look 65 = .ok (.iload_n 2, 1) := by decide +kernel
theorem dX1_look_66 : decode cX1_look 66 = .ok (.iconst 3, 1) := by decide +kernel
theorem dX1_look_67 : decode cX1_look 67 = .ok (.if_icmp .ge 21, 3) := by decide +kernel
theorem dX1_look_70 : decode cX1_look 70 = .ok (.aload_n 0, 1) := by decide +kernel
theorem dX1_look_71 : decode cX1_look 71 = .ok (.iload_n 1, 1) := by decide +kernel
theorem dX1_look_72 : decode cX1_look 72 = .ok (.iload_n 2, 1) := by decide +kernel
theorem dX1_look_73 : decode cX1_look 73 = .ok (.aload_n 0, 1) := by decide +kernel
theorem dX1_look_74 : decode cX1_look 74 = .ok (.iload_n 1, 1) := by decide +kernel
theorem dX1_look_75 : decode cX1_look 75 = .ok (.iload_n 2, 1) := by decide +kernel
theorem dX1_look_76 : decode cX1_look 76 = .ok (.invokevirtual 33, 3) := by decide +kernel
theorem dX1_look_79 : decode cX1_look 79 = .ok (.invokevirtual 51, 3) := by decide +kernel
theorem dX1_look_82 : decode cX1_look 82 = .ok (.iinc 2 1, 3) := by decide +kernel
theorem dX1_look_85 : decode cX1_look 85 = .ok (.goto (-20), 3) := by decide +kernel
theorem dX1_look_88 : decode cX1_look 88 = .ok (.iinc 1 1, 3) := by decide +kernel
theorem dX1_look_91 : decode cX1_look 91 = .ok (.goto (-39), 3) := by decide +kernel
theorem dX1_look_94 : decode cX1_look 94 = .ok (.return_, 1) := by decide +kernel
theorem dX1_whole_0 : decode cX1_whole 0 = .ok (.iload_n 1, 1) := by decide +kernel
theorem dX1_whole_1 : decode cX1_whole 1 = .ok (.ifCond .lt 21, 3) := by decide +kernel
theorem dX1_whole_4 : decode cX1_whole 4 = .ok (.iload_n 1, 1) := by decide +kernel
theorem dX1_whole_5 : decode cX1_whole 5 = .ok (.aload_n 0, 1) := by decide +kernel
theorem dX1_whole_6 : decode cX1_whole 6 = .ok (.getfield 9, 3) := by decide +kernel
theorem dX1_whole_9 : decode cX1_whole 9 = .ok (.arraylength, 1) := by decide +kernel
theorem dX1_whole_10 : decode cX1_whole 10 = .ok (.if_icmp .ge 12, 3) := by decide +kernel
theorem dX1_whole_13 : decode cX1_whole 13 = .ok (.aload_n 0, 1) := by decide +kernel
theorem dX1_whole_14 : decode cX1_whole 14 = .ok (.getfield 9, 3) := by decide +kernel
theorem dX1_whole_17 : decode cX1_whole 17 = .ok (.iload_n 1, 1) := by decide +kernel
theorem dX1_whole_18 : decode cX1_whole 18 = .ok (.iaload, 1) := by decide +kernel
theorem dX1_whole_19 : decode cX1_whole 19 = .ok (.goto 4, 3) := by decide +kernel
theorem dX1_whole_22 : decode cX1_whole 22 = .ok (.iconst 0, 1) := by decide +kernel
theorem dX1_whole_23 : decode cX1_whole 23 = .ok (.ireturn, 1) := by decide +kernel
theorem dX1_broken_0 : decode cX1_broken 0 = .ok (.iload_n 1, 1) := by decide +kernel
theorem dX1_broken_1 : decode cX1_broken 1 = .ok (.ifCond .lt 21, 3) := by decide +kernel
theorem dX1_broken_4 : decode cX1_broken 4 = .ok (.iload_n 1, 1) := by decide +kernel
theorem dX1_broken_5 : decode cX1_broken 5 = .ok (.aload_n 0, 1) := by decide +kernel
theorem dX1_broken_6 : decode cX1_broken 6 = .ok (.getfield 15, 3) := by decide +kernel
theorem dX1_broken_9 : decode cX1_broken 9 = .ok (.arraylength, 1) := by decide +kernel
theorem dX1_broken_10 : decode cX1_broken 10 = .ok (.if_icmp .ge 12, 3) := by decide +kernel
theorem dX1_broken_13 : decode cX1_broken 13 = .ok (.aload_n 0, 1) := by decide +kernel
theorem dX1_broken_14 : decode cX1_broken 14 = .ok (.getfield 15, 3) := by decide +kernel
theorem dX1_broken_17 : decode cX1_broken 17 = .ok (.iload_n 1, 1) := by decide +kernel
theorem dX1_broken_18 : decode cX1_broken 18 = .ok (.iaload, 1) := by decide +kernel
theorem dX1_broken_19 : decode cX1_broken 19 = .ok (.goto 4, 3) := by decide +kernel
theorem dX1_broken_22 : decode cX1_broken 22 = .ok (.iconst 0, 1) := by decide +kernel
theorem dX1_broken_23 : decode cX1_broken 23 = .ok (.ireturn, 1) := by decide +kernel
theorem dX1_saving_0 : decode cX1_saving 0 = .ok (.iload_n 1, 1) := by decide +kernel
theorem dX1_saving_1 : decode cX1_saving 1 = .ok (.ifCond .lt 21, 3) := by decide +kernel
theorem dX1_saving_4 : decode cX1_saving 4 = .ok (.iload_n 1, 1) := by decide +kernel
theorem dX1_saving_5 : decode cX1_saving 5 = .ok (.aload_n 0, 1) := by decide +kernel
theorem dX1_saving_6 : decode cX1_saving 6 = .ok (.getfield 18, 3) := by decide +kernel
theorem dX1_saving_9 : decode cX1_saving 9 = .ok (.arraylength, 1) := by decide +kernel
theorem dX1_saving_10 : decode cX1_saving 10 = .ok (.if_icmp .ge 12, 3) := by decide +kernel
theorem dX1_saving_13 : decode cX1_saving 13 = .ok (.aload_n 0, 1) := by decide +kernel
theorem dX1_saving_14 : decode cX1_saving 14 = .ok (.getfield 18, 3) := by decide +kernel
theorem dX1_saving_17 : decode cX1_saving 17 = .ok (.iload_n 1, 1) := by decide +kernel
theorem dX1_saving_18 : decode cX1_saving 18 = .ok (.iaload, 1) := by decide +kernel
theorem dX1_saving_19 : decode cX1_saving 19 = .ok (.goto 4, 3) := by decide +kernel
theorem dX1_saving_22 : decode cX1_saving 22 = .ok (.iconst (-1), 1) := by decide +kernel
theorem dX1_saving_23 : decode cX1_saving 23 = .ok (.ireturn, 1) := by decide +kernel
theorem dX1_note_0 : decode cX1_note 0 = .ok (.aload_n 0, 1) := by decide +kernel
theorem dX1_note_1 : decode cX1_note 1 = .ok (.getfield 25, 3) := by decide +kernel
theorem dX1_note_4 : decode cX1_note 4 = .ok (.iload_n 1, 1) := by decide +kernel
theorem dX1_note_5 : decode cX1_note 5 = .ok (.invokevirtual 55, 3) := by decide +kernel
theorem dX1_note_8 : decode cX1_note 8 = .ok (.iconst 1, 1) := by decide +kernel
theorem dX1_note_9 : decode cX1_note 9 = .ok (.isub, 1) := by decide +kernel
theorem dX1_note_10 : decode cX1_note 10 = .ok (.istore 4, 2) := by decide +kernel
theorem dX1_note_12 : decode cX1_note 12 = .ok (.iload_n 3, 1) := by decide +kernel
theorem dX1_note_13 : decode cX1_note 13 = .ok (.ifCond .eq 14, 3) := by decide +kernel
theorem dX1_note_16 : decode cX1_note 16 = .ok (.iload 4, 2) := by decide +kernel
theorem dX1_note_18 : decode cX1_note 18 = .ok (.ifCond .lt 9, 3) := by decide +kernel
theorem dX1_note_21 : decode cX1_note 21 = .ok (.iload 4, 2) := by decide +kernel
theorem dX1_note_23 : decode cX1_note 23 = .ok (.iconst 2, 1) := by decide +kernel
theorem dX1_note_24 : decode cX1_note 24 = .ok (.if_icmp .lt 4, 3) := by decide +kernel
theorem dX1_note_27 : decode cX1_note 27 = .ok (.return_, 1) := by decide +kernel
theorem dX1_note_28 : decode cX1_note 28 = .ok (.iload_n 3, 1) := by decide +kernel
theorem dX1_note_29 : decode cX1_note 29 = .ok (.iconst 1, 1) := by decide +kernel
theorem dX1_note_30 : decode cX1_note 30 = .ok (.if_icmp .ne 15, 3) := by decide +kernel
theorem dX1_note_33 : decode cX1_note 33 = .ok (.aload_n 0, 1) := by decide +kernel
theorem dX1_note_34 : decode cX1_note 34 = .ok (.getfield 9, 3) := by decide +kernel
theorem dX1_note_37 : decode cX1_note 37 = .ok (.iload 4, 2) := by decide +kernel
theorem dX1_note_39 : decode cX1_note 39 = .ok (.dup2, 1) := by decide +kernel
theorem dX1_note_40 : decode cX1_note 40 = .ok (.iaload, 1) := by decide +kernel
theorem dX1_note_41 : decode cX1_note 41 = .ok (.iconst 1, 1) := by decide +kernel
theorem dX1_note_42 : decode cX1_note 42 = .ok (.iadd, 1) := by decide +kernel
theorem dX1_note_43 : decode cX1_note 43 = .ok (.iastore, 1) := by decide +kernel
theorem dX1_note_44 : decode cX1_note 44 = .ok (.return_, 1) := by decide +kernel
theorem dX1_note_45 : decode cX1_note 45 = .ok (.aload_n 0, 1) := by decide +kernel
theorem dX1_note_46 : decode cX1_note 46 = .ok (.getfield 15, 3) := by decide +kernel
theorem dX1_note_49 : decode cX1_note 49 = .ok (.iload 4, 2) := by decide +kernel
theorem dX1_note_51 : decode cX1_note 51 = .ok (.dup2, 1) := by decide +kernel
theorem dX1_note_52 : decode cX1_note 52 = .ok (.iaload, 1) := by decide +kernel
theorem dX1_note_53 : decode cX1_note 53 = .ok (.iconst 1, 1) := by decide +kernel
theorem dX1_note_54 : decode cX1_note 54 = .ok (.iadd, 1) := by decide +kernel
theorem dX1_note_55 : decode cX1_note 55 = .ok (.iastore, 1) := by decide +kernel
theorem dX1_note_56 : decode cX1_note 56 = .ok (.aload_n 0, 1) := by decide +kernel
theorem dX1_note_57 : decode cX1_note 57 = .ok (.getfield 25, 3) := by decide +kernel
theorem dX1_note_60 : decode cX1_note 60 = .ok (.iload_n 1, 1) := by decide +kernel
theorem dX1_note_61 : decode cX1_note 61 = .ok (.iload_n 2, 1) := by decide +kernel
theorem dX1_note_62 : decode cX1_note 62 = .ok (.invokevirtual 59, 3) := by decide +kernel
theorem dX1_note_65 : decode cX1_note 65 = .ok (.istore 5, 2) := by decide +kernel
theorem dX1_note_67 : decode cX1_note 67 = .ok (.aload_n 0, 1) := by decide +kernel
theorem dX1_note_68 : decode cX1_note 68 = .ok (.getfield 25, 3) := by decide +kernel
theorem dX1_note_71 : decode cX1_note 71 = .ok (.iload 5, 2) := by decide +kernel
theorem dX1_note_73 : decode cX1_note 73 = .ok (.invokevirtual 55, 3) := by decide +kernel
theorem dX1_note_76 : decode cX1_note 76 = .ok (.ifCond .ne 8, 3) := by decide +kernel
theorem dX1_note_79 : decode cX1_note 79 = .ok (.iload 5, 2) := by decide +kernel
theorem dX1_note_81 : decode cX1_note 81 = .ok (.goto 15, 3) := by decide +kernel
theorem dX1_note_84 : decode cX1_note 84 = .ok (.aload_n 0, 1) := by decide +kernel
theorem dX1_note_85 : decode cX1_note 85 = .ok (.getfield 25, 3) := by decide +kernel
theorem dX1_note_88 : decode cX1_note 88 = .ok (.iload_n 1, 1) := by decide +kernel
theorem dX1_note_89 : decode cX1_note 89 = .ok (.iload_n 2, 1) := by decide +kernel
theorem dX1_note_90 : decode cX1_note 90 = .ok (.invokestatic 62, 3) := by decide +kernel
theorem dX1_note_93 : decode cX1_note 93 = .ok (.invokevirtual 59, 3) := by decide +kernel
theorem dX1_note_96 : decode cX1_note 96 = .ok (.istore 6, 2) := by decide +kernel
theorem dX1_note_98 : decode cX1_note 98 = .ok (.aload_n 0, 1) := by decide +kernel
theorem dX1_note_99 : decode cX1_note 99 = .ok (.getfield 18, 3) := by decide +kernel
theorem dX1_note_102 : decode cX1_note 102 = .ok (.iload 4, 2) := by decide +kernel
theorem dX1_note_104 : decode cX1_note 104 = .ok (.iaload, 1) := by decide +kernel
theorem dX1_note_105 : decode cX1_note 105 = .ok (.iconst (-1), 1) := by decide +kernel
theorem dX1_note_106 : decode cX1_note 106 = .ok (.if_icmp .eq 15, 3) := by decide +kernel
theorem dX1_note_109 : decode cX1_note 109 = .ok (.iload 6, 2) := by decide +kernel
theorem dX1_note_111 : decode cX1_note 111 = .ok (.aload_n 0, 1) := by decide +kernel
theorem dX1_note_112 : decode cX1_note 112 = .ok (.getfield 18, 3) := by decide +kernel
theorem dX1_note_115 : decode cX1_note 115 = .ok (.iload 4, 2) := by decide +kernel
theorem dX1_note_117 : decode cX1_note 117 = .ok (.iaload, 1) := by decide +kernel
theorem dX1_note_118 : decode cX1_note 118 = .ok (.if_icmp .ge 12, 3) := by decide +kernel
theorem dX1_note_121 : decode cX1_note 121 = .ok (.aload_n 0, 1) := by decide +kernel
theorem dX1_note_122 : decode cX1_note 122 = .ok (.getfield 18, 3) := by decide +kernel
theorem dX1_note_125 : decode cX1_note 125 = .ok (.iload 4, 2) := by decide +kernel
theorem dX1_note_127 : decode cX1_note 127 = .ok (.iload 6, 2) := by decide +kernel
theorem dX1_note_129 : decode cX1_note 129 = .ok (.iastore, 1) := by decide +kernel
theorem dX1_note_130 : decode cX1_note 130 = .ok (.return_, 1) := by decide +kernel
theorem dX1_stateAt_0 : decode cX1_stateAt 0 = .ok (.aload_n 0, 1) := by decide +kernel
theorem dX1_stateAt_1 : decode cX1_stateAt 1 = .ok (.getfield 25, 3) := by decide +kernel
theorem dX1_stateAt_4 : decode cX1_stateAt 4 = .ok (.iload_n 1, 1) := by decide +kernel
theorem dX1_stateAt_5 : decode cX1_stateAt 5 = .ok (.invokevirtual 55, 3) := by decide +kernel
theorem dX1_stateAt_8 : decode cX1_stateAt 8 = .ok (.istore_n 3, 1) := by decide +kernel
theorem dX1_stateAt_9 : decode cX1_stateAt 9 = .ok (.aload_n 0, 1) := by decide +kernel
theorem dX1_stateAt_10 : decode cX1_stateAt 10 = .ok (.iload_n 1, 1) := by decide +kernel
theorem dX1_stateAt_11 : decode cX1_stateAt 11 = .ok (.iload_n 2, 1) := by decide +kernel
theorem dX1_stateAt_12 : decode cX1_stateAt 12 = .ok (.invokevirtual 29, 3) := by decide +kernel
theorem dX1_stateAt_15 : decode cX1_stateAt 15 = .ok (.istore 4, 2) := by decide +kernel
theorem dX1_stateAt_17 : decode cX1_stateAt 17 = .ok (.iload_n 3, 1) := by decide +kernel
theorem dX1_stateAt_18 : decode cX1_stateAt 18 = .ok (.ifCond .eq 22, 3) := by decide +kernel
theorem dX1_stateAt_21 : decode cX1_stateAt 21 = .ok (.iload 4, 2) := by decide +kernel
theorem dX1_stateAt_23 : decode cX1_stateAt 23 = .ok (.iconst (-1), 1) := by decide +kernel
theorem dX1_stateAt_24 : decode cX1_stateAt 24 = .ok (.if_icmp .eq 16, 3) := by decide +kernel
theorem dX1_stateAt_27 : decode cX1_stateAt 27 = .ok (.aload_n 0, 1) := by decide +kernel
theorem dX1_stateAt_28 : decode cX1_stateAt 28 = .ok (.getfield 25, 3) := by decide +kernel
theorem dX1_stateAt_31 : decode cX1_stateAt 31 = .ok (.iload 4, 2) := by decide +kernel
theorem dX1_stateAt_33 : decode cX1_stateAt 33 = .ok (.invokevirtual 55, 3) := by decide +kernel
theorem dX1_stateAt_36 : decode cX1_stateAt 36 = .ok (.iload_n 3, 1) := by decide +kernel
theorem dX1_stateAt_37 : decode cX1_stateAt 37 = .ok (.if_icmp .eq 5, 3) := by decide +kernel
theorem dX1_stateAt_40 : decode cX1_stateAt 40 = .ok (.iconst 0, 1) := by decide +kernel
theorem dX1_stateAt_41 : decode cX1_stateAt 41 = .ok (.ireturn, 1) := by decide +kernel
theorem dX1_stateAt_42 : decode cX1_stateAt 42 = .ok (.aload_n 0, 1) := by decide +kernel
theorem dX1_stateAt_43 : decode cX1_stateAt 43 = .ok (.getfield 25, 3) := by decide +kernel
theorem dX1_stateAt_46 : decode cX1_stateAt 46 = .ok (.aload_n 0, 1) := by decide +kernel
theorem dX1_stateAt_47 : decode cX1_stateAt 47 = .ok (.getfield 25, 3) := by decide +kernel
theorem dX1_stateAt_50 : decode cX1_stateAt 50 = .ok (.iload_n 1, 1) := by decide +kernel
theorem dX1_stateAt_51 : decode cX1_stateAt 51 = .ok (.iload_n 2, 1) := by decide +kernel
theorem dX1_stateAt_52 : decode cX1_stateAt 52 = .ok (.invokevirtual 59, 3) := by decide +kernel
theorem dX1_stateAt_55 : decode cX1_stateAt 55 = .ok (.invokevirtual 55, 3) := by decide +kernel
theorem dX1_stateAt_58 : decode cX1_stateAt 58 = .ok (.istore 5, 2) := by decide +kernel
theorem dX1_stateAt_60 : decode cX1_stateAt 60 = .ok (.aload_n 0, 1) := by decide +kernel
theorem dX1_stateAt_61 : decode cX1_stateAt 61 = .ok (.getfield 25, 3) := by decide +kernel
theorem dX1_stateAt_64 : decode cX1_stateAt 64 = .ok (.aload_n 0, 1) := by decide +kernel
theorem dX1_stateAt_65 : decode cX1_stateAt 65 = .ok (.getfield 25, 3) := by decide +kernel
theorem dX1_stateAt_68 : decode cX1_stateAt 68 = .ok (.iload_n 1, 1) := by decide +kernel
theorem dX1_stateAt_69 : decode cX1_stateAt 69 = .ok (.iload_n 2, 1) := by decide +kernel
theorem dX1_stateAt_70 : decode cX1_stateAt 70 = .ok (.invokestatic 62, 3) := by decide +kernel
theorem dX1_stateAt_73 : decode cX1_stateAt 73 = .ok (.invokevirtual 59, 3) := by decide +kernel
theorem dX1_stateAt_76 : decode cX1_stateAt 76 = .ok (.invokevirtual 55, 3) := by decide +kernel
theorem dX1_stateAt_79 : decode cX1_stateAt 79 = .ok (.istore 6, 2) := by decide +kernel
theorem dX1_stateAt_81 : decode cX1_stateAt 81 = .ok (.iload 5, 2) := by decide +kernel
theorem dX1_stateAt_83 : decode cX1_stateAt 83 = .ok (.iload_n 3, 1) := by decide +kernel
theorem dX1_stateAt_84 : decode cX1_stateAt 84 = .ok (.if_icmp .eq 9, 3) := by decide +kernel
theorem dX1_stateAt_87 : decode cX1_stateAt 87 = .ok (.iload 6, 2) := by decide +kernel
theorem dX1_stateAt_89 : decode cX1_stateAt 89 = .ok (.iload_n 3, 1) := by decide +kernel
theorem dX1_stateAt_90 : decode cX1_stateAt 90 = .ok (.if_icmp .ne 5, 3) := by decide +kernel
theorem dX1_stateAt_93 : decode cX1_stateAt 93 = .ok (.iconst 0, 1) := by decide +kernel
theorem dX1_stateAt_94 : decode cX1_stateAt 94 = .ok (.ireturn, 1) := by decide +kernel
theorem dX1_stateAt_95 : decode cX1_stateAt 95 = .ok (.iload 5, 2) := by decide +kernel
theorem dX1_stateAt_97 : decode cX1_stateAt 97 = .ok (.ifCond .ne 10, 3) := by decide +kernel
theorem dX1_stateAt_100 : decode cX1_stateAt 100 = .ok (.iload 6, 2) := by decide +kernel
theorem dX1_stateAt_102 : decode cX1_stateAt 102 = .ok (.ifCond .ne 5, 3) := by decide +kernel
theorem dX1_stateAt_105 : decode cX1_stateAt 105 = .ok (.iconst 1, 1) := by decide +kernel
theorem dX1_stateAt_106 : decode cX1_stateAt 106 = .ok (.ireturn, 1) := by decide +kernel
theorem dX1_stateAt_107 : decode cX1_stateAt 107 = .ok (.iload 5, 2) := by decide +kernel
theorem dX1_stateAt_109 : decode cX1_stateAt 109 = .ok (.ifCond .eq 8, 3) := by decide +kernel
theorem dX1_stateAt_112 : decode cX1_stateAt 112 = .ok (.iload 6, 2) := by decide +kernel
theorem dX1_stateAt_114 : decode cX1_stateAt 114 = .ok (.ifCond .ne 7, 3) := by decide +kernel
theorem dX1_stateAt_117 : decode cX1_stateAt 117 = .ok (.iconst 2, 1) := by decide +kernel
theorem dX1_stateAt_118 : decode cX1_stateAt 118 = .ok (.goto 4, 3) := by decide +kernel
theorem dX1_stateAt_121 : decode cX1_stateAt 121 = .ok (.iconst 0, 1) := by decide +kernel
theorem dX1_stateAt_122 : decode cX1_stateAt 122 = .ok (.ireturn, 1) := by decide +kernel
theorem dX1_farEnd_0 : decode cX1_farEnd 0 = .ok (.aload_n 0, 1) := by decide +kernel
theorem dX1_farEnd_1 : decode cX1_farEnd 1 = .ok (.getfield 25, 3) := by decide +kernel
theorem dX1_farEnd_4 : decode cX1_farEnd 4 = .ok (.aload_n 0, 1) := by decide +kernel
theorem dX1_farEnd_5 : decode cX1_farEnd 5 = .ok (.getfield 25, 3) := by decide +kernel
theorem dX1_farEnd_8 : decode cX1_farEnd 8 = .ok (.iload_n 1, 1) := by decide +kernel
theorem dX1_farEnd_9 : decode cX1_farEnd 9 = .ok (.iload_n 2, 1) := by decide +kernel
theorem dX1_farEnd_10 : decode cX1_farEnd 10 = .ok (.invokevirtual 59, 3) := by decide +kernel
theorem dX1_farEnd_13 : decode cX1_farEnd 13 = .ok (.iload_n 2, 1) := by decide +kernel
theorem dX1_farEnd_14 : decode cX1_farEnd 14 = .ok (.invokestatic 62, 3) := by decide +kernel
theorem dX1_farEnd_17 : decode cX1_farEnd 17 = .ok (.invokevirtual 59, 3) := by decide +kernel
theorem dX1_farEnd_20 : decode cX1_farEnd 20 = .ok (.ireturn, 1) := by decide +kernel
theorem dX1_nextSide_0 : decode cX1_nextSide 0 = .ok (.iload_n 0, 1) := by decide +kernel
theorem dX1_nextSide_1 : decode cX1_nextSide 1 = .ok (.iconst 1, 1) := by decide +kernel
theorem dX1_nextSide_2 : decode cX1_nextSide 2 = .ok (.iadd, 1) := by decide +kernel
theorem dX1_nextSide_3 : decode cX1_nextSide 3 = .ok (.bipush 6, 2) := by decide +kernel
theorem dX1_nextSide_5 : decode cX1_nextSide 5 = .ok (.if_icmp .ge 9, 3) := by decide +kernel
theorem dX1_nextSide_8 : decode cX1_nextSide 8 = .ok (.iload_n 0, 1) := by decide +kernel
theorem dX1_nextSide_9 : decode cX1_nextSide 9 = .ok (.iconst 1, 1) := by decide +kernel
theorem dX1_nextSide_10 : decode cX1_nextSide 10 = .ok (.iadd, 1) := by decide +kernel
theorem dX1_nextSide_11 : decode cX1_nextSide 11 = .ok (.goto 4, 3) := by decide +kernel
theorem dX1_nextSide_14 : decode cX1_nextSide 14 = .ok (.iconst 0, 1) := by decide +kernel
theorem dX1_nextSide_15 : decode cX1_nextSide 15 = .ok (.ireturn, 1) := by decide +kernel
theorem dX2_init_0 : decode cX2_init 0 = .ok (.aload_n 0, 1) := by decide +kernel
theorem dX2_init_1 : decode cX2_init 1 = .ok (.invokespecial 3, 3) := by decide +kernel
theorem dX2_init_4 : decode cX2_init 4 = .ok (.aload_n 0, 1) := by decide +kernel
theorem dX2_init_5 : decode cX2_init 5 = .ok (.sipush 400, 3) := by decide +kernel
theorem dX2_init_8 : decode cX2_init 8 = .ok (.newarray .int, 2) := by decide +kernel
theorem dX2_init_10 : decode cX2_init 10 = .ok (.putfield 9, 3) := by decide +kernel
theorem dX2_init_13 : decode cX2_init 13 = .ok (.aload_n 0, 1) := by decide +kernel
theorem dX2_init_14 : decode cX2_init 14 = .ok (.aload_n 1, 1) := by decide +kernel
theorem dX2_init_15 : decode cX2_init 15 = .ok (.putfield 15, 3) := by decide +kernel
theorem dX2_init_18 : decode cX2_init 18 = .ok (.aload_n 0, 1) := by decide +kernel
theorem dX2_init_19 : decode cX2_init 19 = .ok (.aload_n 2, 1) := by decide +kernel
theorem dX2_init_20 : decode cX2_init 20 = .ok (.putfield 19, 3) := by decide +kernel
theorem dX2_init_23 : decode cX2_init 23 = .ok (.aload_n 0, 1) := by decide +kernel
theorem dX2_init_24 : decode cX2_init 24 = .ok (.aload_n 3, 1) := by decide +kernel
theorem dX2_init_25 : decode cX2_init 25 = .ok (.putfield 23, 3) := by decide +kernel
theorem dX2_init_28 : decode cX2_init 28 = .ok (.return_, 1) := by decide +kernel
theorem dX2_choose_0 : decode cX2_choose 0 = .ok (.aload_n 0, 1) := by decide +kernel
theorem dX2_choose_1 : decode cX2_choose 1 = .ok (.getfield 19, 3) := by decide +kernel
theorem dX2_choose_4 : decode cX2_choose 4 = .ok (.invokevirtual 27, 3) := by decide +kernel
theorem dX2_choose_7 : decode cX2_choose 7 = .ok (.aload_n 0, 1) := by decide +kernel
theorem dX2_choose_8 : decode cX2_choose 8 = .ok (.getfield 23, 3) := by decide +kernel
theorem dX2_choose_11 : decode cX2_choose 11 = .ok (.invokevirtual 32, 3) := by decide +kernel
theorem dX2_choose_14 : decode cX2_choose 14 = .ok (.iconst 0, 1) := by decide +kernel
theorem dX2_choose_15 : decode cX2_choose 15 = .ok (.istore_n 3, 1) := by decide +kernel
theorem dX2_choose_16 : decode cX2_choose 16 = .ok (.iload_n 3, 1) := by decide +kernel
theorem dX2_choose_17 : decode cX2_choose 17 = .ok (.aload_n 1, 1) := by decide +kernel
theorem dX2_choose_18 : decode cX2_choose 18 = .ok (.invokevirtual 35, 3) := by decide +kernel
theorem dX2_choose_21 : decode cX2_choose 21 = .ok (.if_icmp .ge 44, 3) := by decide +kernel
theorem dX2_choose_24 : decode cX2_choose 24 = .ok (.aload_n 1, 1) := by decide +kernel
theorem dX2_choose_25 : decode cX2_choose 25 = .ok (.iload_n 3, 1) := by decide +kernel
theorem dX2_choose_26 : decode cX2_choose 26 = .ok (.invokevirtual 41, 3) := by decide +kernel
theorem dX2_choose_29 : decode cX2_choose 29 = .ok (.iload_n 2, 1) := by decide +kernel
theorem dX2_choose_30 : decode cX2_choose 30 = .ok (.if_icmp .ne 29, 3) := by decide +kernel
theorem dX2_choose_33 : decode cX2_choose 33 = .ok (.aload_n 0, 1) := by decide +kernel
theorem dX2_choose_34 : decode cX2_choose 34 = .ok (.aload_n 1, 1) := by decide +kernel
theorem dX2_choose_35 : decode cX2_choose 35 = .ok (.iload_n 3, 1) := by decide +kernel
theorem dX2_choose_36 : decode cX2_choose 36 = .ok (.invokevirtual 45, 3) := by decide +kernel
theorem dX2_choose_39 : decode cX2_choose 39 = .ok (.ifCond .eq 20, 3) := by decide +kernel
theorem dX2_choose_42 : decode cX2_choose 42 = .ok (.aload_n 0, 1) := by decide +kernel
theorem dX2_choose_43 : decode cX2_choose 43 = .ok (.aload_n 1, 1) := by decide +kernel
theorem dX2_choose_44 : decode cX2_choose 44 = .ok (.iload_n 3, 1) := by decide +kernel
theorem dX2_choose_45 : decode cX2_choose 45 = .ok (.invokevirtual 49, 3) := by decide +kernel
theorem dX2_choose_48 : decode cX2_choose 48 = .ok (.istore 4, 2) := by decide +kernel
theorem dX2_choose_50 : decode cX2_choose 50 = .ok (.iload 4, 2) := by decide +kernel
theorem dX2_choose_52 : decode cX2_choose 52 = .ok (.iconst (-1), 1) := by decide +kernel
theorem dX2_choose_53 : decode cX2_choose 53 = .ok (.if_icmp .eq 6, 3) := by decide +kernel
theorem dX2_choose_56 : decode cX2_choose 56 = .ok (.iload 4, 2) := by decide +kernel
theorem dX2_choose_58 : decode cX2_choose 58 = .ok (.ireturn, 1) := by decide +kernel
theorem dX2_choose_59 : decode cX2_choose 59 = .ok (.iinc 3 1, 3) := by decide +kernel
theorem dX2_choose_62 : decode cX2_choose 62 = .ok (.goto (-46), 3) := by decide +kernel
theorem dX2_choose_65 : decode cX2_choose 65 = .ok (.iconst (-1), 1) := by decide +kernel
theorem dX2_choose_66 : decode cX2_choose 66 = .ok (.ireturn, 1) := by decide +kernel
theorem dX2_holds_0 : decode cX2_holds 0 = .ok (.aload_n 1, 1) := by decide +kernel
theorem dX2_holds_1 : decode cX2_holds 1 = .ok (.iload_n 2, 1) := by decide +kernel
theorem dX2_holds_2 : decode cX2_holds 2 = .ok (.invokevirtual 53, 3) := by decide +kernel
theorem dX2_holds_5 : decode cX2_holds 5 = .ok (.istore_n 3, 1) := by decide +kernel
theorem dX2_holds_6 : decode cX2_holds 6 = .ok (.aload_n 1, 1) := by decide +kernel
theorem dX2_holds_7 : decode cX2_holds 7 = .ok (.iload_n 2, 1) := by decide +kernel
theorem dX2_holds_8 : decode cX2_holds 8 = .ok (.invokevirtual 56, 3) := by decide +kernel
theorem dX2_holds_11 : decode cX2_holds 11 = .ok (.istore 4, 2) := by decide +kernel
theorem dX2_holds_13 : decode cX2_holds 13 = .ok (.iload_n 3, 1) := by decide +kernel
theorem dX2_holds_14 : decode cX2_holds 14 = .ok (.iload 4, 2) := by decide +kernel
theorem dX2_holds_16 : decode cX2_holds 16 = .ok (.if_icmp .eq 14, 3) := by decide +kernel
theorem dX2_holds_19 : decode cX2_holds 19 = .ok (.aload_n 0, 1) := by decide +kernel
theorem dX2_holds_20 : decode cX2_holds 20 = .ok (.aload_n 1, 1) := by decide +kernel
theorem dX2_holds_21 : decode cX2_holds 21 = .ok (.iload_n 3, 1) := by decide +kernel
theorem dX2_holds_22 : decode cX2_holds 22 = .ok (.iload 4, 2) := by decide +kernel
theorem dX2_holds_24 : decode cX2_holds 24 = .ok (.invokevirtual 59, 3) := by decide +kernel
theorem dX2_holds_27 : decode cX2_holds 27 = .ok (.ifCond .eq 7, 3) := by decide +kernel
theorem dX2_holds_30 : decode cX2_holds 30 = .ok (.iconst 1, 1) := by decide +kernel
theorem dX2_holds_31 : decode cX2_holds 31 = .ok (.goto 4, 3) := by decide +kernel
theorem dX2_holds_34 : decode cX2_holds 34 = .ok (.iconst 0, 1) := by decide +kernel
theorem dX2_holds_35 : decode cX2_holds 35 = .ok (.ireturn, 1) := by decide +kernel
theorem dX2_cellBy_0 : decode cX2_cellBy 0 = .ok (.aload_n 1, 1) := by decide +kernel
theorem dX2_cellBy_1 : decode cX2_cellBy 1 = .ok (.iload_n 2, 1) := by decide +kernel
theorem dX2_cellBy_2 : decode cX2_cellBy 2 = .ok (.invokevirtual 41, 3) := by decide +kernel
theorem dX2_cellBy_5 : decode cX2_cellBy 5 = .ok (.istore_n 3, 1) := by decide +kernel
theorem dX2_cellBy_6 : decode cX2_cellBy 6 = .ok (.getstatic 63, 3) := by decide +kernel
theorem dX2_cellBy_9 : decode cX2_cellBy 9 = .ok (.aload_n 1, 1) := by decide +kernel
theorem dX2_cellBy_10 : decode cX2_cellBy 10 = .ok (.iload_n 2, 1) := by decide +kernel
theorem dX2_cellBy_11 : decode cX2_cellBy 11 = .ok (.invokevirtual 68, 3) := by decide +kernel
theorem dX2_cellBy_14 : decode cX2_cellBy 14 = .ok (.invokevirtual 72, 3) := by decide +kernel
theorem dX2_cellBy_17 : decode cX2_cellBy 17 = .ok (.iaload, 1) := by decide +kernel
theorem dX2_cellBy_18 : decode cX2_cellBy 18 = .ok (.tableswitch 79 1 5 #[34, 43, 54, 63, 72], 34) := by decide +kernel
theorem dX2_cellBy_52 : decode cX2_cellBy 52 = .ok (.aload_n 0, 1) := by decide +kernel
theorem dX2_cellBy_53 : decode cX2_cellBy 53 = .ok (.getfield 23, 3) := by decide +kernel
theorem dX2_cellBy_56 : decode cX2_cellBy 56 = .ok (.iload_n 3, 1) := by decide +kernel
theorem dX2_cellBy_57 : decode cX2_cellBy 57 = .ok (.invokevirtual 77, 3) := by decide +kernel
theorem dX2_cellBy_60 : decode cX2_cellBy 60 = .ok (.ireturn, 1) := by decide +kernel
theorem dX2_cellBy_61 : decode cX2_cellBy 61 = .ok (.aload_n 0, 1) := by decide +kernel
theorem dX2_cellBy_62 : decode cX2_cellBy 62 = .ok (.getfield 23, 3) := by decide +kernel
theorem dX2_cellBy_65 : decode cX2_cellBy 65 = .ok (.iconst 1, 1) := by decide +kernel
theorem dX2_cellBy_66 : decode cX2_cellBy 66 = .ok (.iload_n 3, 1) := by decide +kernel
theorem dX2_cellBy_67 : decode cX2_cellBy 67 = .ok (.isub, 1) := by decide +kernel
theorem dX2_cellBy_68 : decode cX2_cellBy 68 = .ok (.invokevirtual 77, 3) := by decide +kernel
theorem dX2_cellBy_71 : decode cX2_cellBy 71 = .ok (.ireturn, 1) := by decide +kernel
theorem dX2_cellBy_72 : decode cX2_cellBy 72 = .ok (.aload_n 0, 1) := by decide +kernel
theorem dX2_cellBy_73 : decode cX2_cellBy 73 = .ok (.getfield 19, 3) := by decide +kernel
theorem dX2_cellBy_76 : decode cX2_cellBy 76 = .ok (.iload_n 3, 1) := by decide +kernel
theorem dX2_cellBy_77 : decode cX2_cellBy 77 = .ok (.invokevirtual 80, 3) := by decide +kernel
theorem dX2_cellBy_80 : decode cX2_cellBy 80 = .ok (.ireturn, 1) := by decide +kernel
theorem dX2_cellBy_81 : decode cX2_cellBy 81 = .ok (.aload_n 0, 1) := by decide +kernel
theorem dX2_cellBy_82 : decode cX2_cellBy 82 = .ok (.getfield 23, 3) := by decide +kernel
theorem dX2_cellBy_85 : decode cX2_cellBy 85 = .ok (.iload_n 3, 1) := by decide +kernel
theorem dX2_cellBy_86 : decode cX2_cellBy 86 = .ok (.invokevirtual 83, 3) := by decide +kernel
theorem dX2_cellBy_89 : decode cX2_cellBy 89 = .ok (.ireturn, 1) := by decide +kernel
theorem dX2_cellBy_90 : decode cX2_cellBy 90 = .ok (.aload_n 0, 1) := by decide +kernel
theorem dX2_cellBy_91 : decode cX2_cellBy 91 = .ok (.aload_n 1, 1) := by decide +kernel
theorem dX2_cellBy_92 : decode cX2_cellBy 92 = .ok (.iload_n 2, 1) := by decide +kernel
theorem dX2_cellBy_93 : decode cX2_cellBy 93 = .ok (.invokevirtual 86, 3) := by decide +kernel
theorem dX2_cellBy_96 : decode cX2_cellBy 96 = .ok (.ireturn, 1) := by decide +kernel
theorem dX2_cellBy_97 : decode cX2_cellBy 97 = .ok (.iconst (-1), 1) := by decide +kernel
theorem dX2_cellBy_98 : decode cX2_cellBy 98 = .ok (.ireturn, 1) := by decide +kernel
theorem dX2_toldCell_0 : decode cX2_toldCell 0 = .ok (.aload_n 0, 1) := by decide +kernel
theorem dX2_toldCell_1 : decode cX2_toldCell 1 = .ok (.aload_n 1, 1) := by decide +kernel
theorem dX2_toldCell_2 : decode cX2_toldCell 2 = .ok (.aload_n 1, 1) := by decide +kernel
theorem dX2_toldCell_3 : decode cX2_toldCell 3 = .ok (.iload_n 2, 1) := by decide +kernel
theorem dX2_toldCell_4 : decode cX2_toldCell 4 = .ok (.invokevirtual 89, 3) := by decide +kernel
theorem dX2_toldCell_7 : decode cX2_toldCell 7 = .ok (.aload_n 1, 1) := by decide +kernel
theorem dX2_toldCell_8 : decode cX2_toldCell 8 = .ok (.iload_n 2, 1) := by decide +kernel
theorem dX2_toldCell_9 : decode cX2_toldCell 9 = .ok (.invokevirtual 92, 3) := by decide +kernel
theorem dX2_toldCell_12 : decode cX2_toldCell 12 = .ok (.invokevirtual 59, 3) := by decide +kernel
theorem dX2_toldCell_15 : decode cX2_toldCell 15 = .ok (.istore_n 3, 1) := by decide +kernel
theorem dX2_toldCell_16 : decode cX2_toldCell 16 = .ok (.aload_n 0, 1) := by decide +kernel
theorem dX2_toldCell_17 : decode cX2_toldCell 17 = .ok (.aload_n 1, 1) := by decide +kernel
theorem dX2_toldCell_18 : decode cX2_toldCell 18 = .ok (.aload_n 1, 1) := by decide +kernel
theorem dX2_toldCell_19 : decode cX2_toldCell 19 = .ok (.iload_n 2, 1) := by decide +kernel
theorem dX2_toldCell_20 : decode cX2_toldCell 20 = .ok (.invokevirtual 92, 3) := by decide +kernel
theorem dX2_toldCell_23 : decode cX2_toldCell 23 = .ok (.aload_n 1, 1) := by decide +kernel
theorem dX2_toldCell_24 : decode cX2_toldCell 24 = .ok (.iload_n 2, 1) := by decide +kernel
theorem dX2_toldCell_25 : decode cX2_toldCell 25 = .ok (.invokevirtual 53, 3) := by decide +kernel
theorem dX2_toldCell_28 : decode cX2_toldCell 28 = .ok (.invokevirtual 59, 3) := by decide +kernel
theorem dX2_toldCell_31 : decode cX2_toldCell 31 = .ok (.istore 4, 2) := by decide +kernel
theorem dX2_toldCell_33 : decode cX2_toldCell 33 = .ok (.aload_n 0, 1) := by decide +kernel
theorem dX2_toldCell_34 : decode cX2_toldCell 34 = .ok (.getfield 15, 3) := by decide +kernel
theorem dX2_toldCell_37 : decode cX2_toldCell 37 = .ok (.iload_n 3, 1) := by decide +kernel
theorem dX2_toldCell_38 : decode cX2_toldCell 38 = .ok (.aload_n 0, 1) := by decide +kernel
theorem dX2_toldCell_39 : decode cX2_toldCell 39 = .ok (.getfield 15, 3) := by decide +kernel
theorem dX2_toldCell_42 : decode cX2_toldCell 42 = .ok (.invokevirtual 95, 3) := by decide +kernel
theorem dX2_toldCell_45 : decode cX2_toldCell 45 = .ok (.invokestatic 100, 3) := by decide +kernel
theorem dX2_toldCell_48 : decode cX2_toldCell 48 = .ok (.iload 4, 2) := by decide +kernel
theorem dX2_toldCell_50 : decode cX2_toldCell 50 = .ok (.aload_n 0, 1) := by decide +kernel
theorem dX2_toldCell_51 : decode cX2_toldCell 51 = .ok (.getfield 15, 3) := by decide +kernel
theorem dX2_toldCell_54 : decode cX2_toldCell 54 = .ok (.invokevirtual 104, 3) := by decide +kernel
theorem dX2_toldCell_57 : decode cX2_toldCell 57 = .ok (.invokestatic 100, 3) := by decide +kernel
theorem dX2_toldCell_60 : decode cX2_toldCell 60 = .ok (.invokevirtual 107, 3) := by decide +kernel
theorem dX2_toldCell_63 : decode cX2_toldCell 63 = .ok (.istore 5, 2) := by decide +kernel
theorem dX2_toldCell_65 : decode cX2_toldCell 65 = .ok (.aload_n 0, 1) := by decide +kernel
theorem dX2_toldCell_66 : decode cX2_toldCell 66 = .ok (.getfield 15, 3) := by decide +kernel
theorem dX2_toldCell_69 : decode cX2_toldCell 69 = .ok (.iload 5, 2) := by decide +kernel
theorem dX2_toldCell_71 : decode cX2_toldCell 71 = .ok (.invokevirtual 110, 3) := by decide +kernel
theorem dX2_toldCell_74 : decode cX2_toldCell 74 = .ok (.ifCond .ne 8, 3) := by decide +kernel
theorem dX2_toldCell_77 : decode cX2_toldCell 77 = .ok (.iload 5, 2) := by decide +kernel
theorem dX2_toldCell_79 : decode cX2_toldCell 79 = .ok (.goto 4, 3) := by decide +kernel
theorem dX2_toldCell_82 : decode cX2_toldCell 82 = .ok (.iconst (-1), 1) := by decide +kernel
theorem dX2_toldCell_83 : decode cX2_toldCell 83 = .ok (.ireturn, 1) := by decide +kernel
theorem dX2_remainder_0 : decode cX2_remainder 0 = .ok (.iload_n 1, 1) := by decide +kernel
theorem dX2_remainder_1 : decode cX2_remainder 1 = .ok (.ifCond .le 11, 3) := by decide +kernel
theorem dX2_remainder_4 : decode cX2_remainder 4 = .ok (.iload_n 0, 1) := by decide +kernel
theorem dX2_remainder_5 : decode cX2_remainder 5 = .ok (.iload_n 1, 1) := by decide +kernel
theorem dX2_remainder_6 : decode cX2_remainder 6 = .ok (.invokestatic 113, 3) := by decide +kernel
theorem dX2_remainder_9 : decode cX2_remainder 9 = .ok (.goto 4, 3) := by decide +kernel
theorem dX2_remainder_12 : decode cX2_remainder 12 = .ok (.iconst 0, 1) := by decide +kernel
theorem dX2_remainder_13 : decode cX2_remainder 13 = .ok (.ireturn, 1) := by decide +kernel
theorem dX2_reckon_0 : decode cX2_reckon 0 = .ok (.aload_n 0, 1) := by decide +kernel
theorem dX2_reckon_1 : decode cX2_reckon 1 = .ok (.iconst 0, 1) := by decide +kernel
theorem dX2_reckon_2 : decode cX2_reckon 2 = .ok (.putfield 118, 3) := by decide +kernel
theorem dX2_reckon_5 : decode cX2_reckon 5 = .ok (.iload_n 2, 1) := by decide +kernel
theorem dX2_reckon_6 : decode cX2_reckon 6 = .ok (.istore 4, 2) := by decide +kernel
theorem dX2_reckon_8 : decode cX2_reckon 8 = .ok (.iload 4, 2) := by decide +kernel
theorem dX2_reckon_10 : decode cX2_reckon 10 = .ok (.iload_n 3, 1) := by decide +kernel
theorem dX2_reckon_11 : decode cX2_reckon 11 = .ok (.if_icmp .ge 242, 3) := by decide +kernel
theorem dX2_reckon_14 : decode cX2_reckon 14 = .ok (.aload_n 1, 1) := by decide +kernel
theorem dX2_reckon_15 : decode cX2_reckon 15 = .ok (.iload 4, 2) := by decide +kernel
theorem dX2_reckon_17 : decode cX2_reckon 17 = .ok (.invokevirtual 122, 3) := by decide +kernel
theorem dX2_reckon_20 : decode cX2_reckon 20 = .ok (.astore 5, 2) := by decide +kernel
theorem dX2_reckon_22 : decode cX2_reckon 22 = .ok (.aload_n 1, 1) := by decide +kernel
theorem dX2_reckon_23 : decode cX2_reckon 23 = .ok (.iload 4, 2) := by decide +kernel
theorem dX2_reckon_25 : decode cX2_reckon 25 = .ok (.invokevirtual 125, 3) := by decide +kernel
theorem dX2_reckon_28 : decode cX2_reckon 28 = .ok (.istore 6, 2) := by decide +kernel
theorem dX2_reckon_30 : decode cX2_reckon 30 = .ok (.getstatic 63, 3) := by decide +kernel
theorem dX2_reckon_33 : decode cX2_reckon 33 = .ok (.aload 5, 2) := by decide +kernel
theorem dX2_reckon_35 : decode cX2_reckon 35 = .ok (.invokevirtual 72, 3) := by decide +kernel
theorem dX2_reckon_38 : decode cX2_reckon 38 = .ok (.iaload, 1) := by decide +kernel
theorem dX2_reckon_39 : decode cX2_reckon 39 = .ok (.tableswitch 183 6 14 #[49, 58, 72, 86, 102, 118, 134, 158, 170], 49) := by decide +kernel
theorem dX2_reckon_88 : decode cX2_reckon 88 = .ok (.aload_n 0, 1) := by decide +kernel
theorem dX2_reckon_89 : decode cX2_reckon 89 = .ok (.iload 6, 2) := by decide +kernel
theorem dX2_reckon_91 : decode cX2_reckon 91 = .ok (.invokevirtual 128, 3) := by decide +kernel
theorem dX2_reckon_94 : decode cX2_reckon 94 = .ok (.goto 153, 3) := by decide +kernel
theorem dX2_reckon_97 : decode cX2_reckon 97 = .ok (.aload_n 0, 1) := by decide +kernel
theorem dX2_reckon_98 : decode cX2_reckon 98 = .ok (.aload_n 0, 1) := by decide +kernel
theorem dX2_reckon_99 : decode cX2_reckon 99 = .ok (.getfield 15, 3) := by decide +kernel
theorem dX2_reckon_102 : decode cX2_reckon 102 = .ok (.invokevirtual 132, 3) := by decide +kernel
theorem dX2_reckon_105 : decode cX2_reckon 105 = .ok (.invokevirtual 128, 3) := by decide +kernel
theorem dX2_reckon_108 : decode cX2_reckon 108 = .ok (.goto 139, 3) := by decide +kernel
theorem dX2_reckon_111 : decode cX2_reckon 111 = .ok (.aload_n 0, 1) := by decide +kernel
theorem dX2_reckon_112 : decode cX2_reckon 112 = .ok (.aload_n 0, 1) := by decide +kernel
theorem dX2_reckon_113 : decode cX2_reckon 113 = .ok (.getfield 15, 3) := by decide +kernel
theorem dX2_reckon_116 : decode cX2_reckon 116 = .ok (.invokevirtual 135, 3) := by decide +kernel
theorem dX2_reckon_119 : decode cX2_reckon 119 = .ok (.invokevirtual 128, 3) := by decide +kernel
theorem dX2_reckon_122 : decode cX2_reckon 122 = .ok (.goto 125, 3) := by decide +kernel
theorem dX2_reckon_125 : decode cX2_reckon 125 = .ok (.aload_n 0, 1) := by decide +kernel
theorem dX2_reckon_126 : decode cX2_reckon 126 = .ok (.aload_n 0, 1) := by decide +kernel
theorem dX2_reckon_127 : decode cX2_reckon 127 = .ok (.getfield 15, 3) := by decide +kernel
theorem dX2_reckon_130 : decode cX2_reckon 130 = .ok (.iload 6, 2) := by decide +kernel
theorem dX2_reckon_132 : decode cX2_reckon 132 = .ok (.invokevirtual 138, 3) := by decide +kernel
theorem dX2_reckon_135 : decode cX2_reckon 135 = .ok (.invokevirtual 128, 3) := by decide +kernel
theorem dX2_reckon_138 : decode cX2_reckon 138 = .ok (.goto 109, 3) := by decide +kernel
theorem dX2_reckon_141 : decode cX2_reckon 141 = .ok (.aload_n 0, 1) := by decide +kernel
theorem dX2_reckon_142 : decode cX2_reckon 142 = .ok (.aload_n 0, 1) := by decide +kernel
theorem dX2_reckon_143 : decode cX2_reckon 143 = .ok (.getfield 19, 3) := by decide +kernel
theorem dX2_reckon_146 : decode cX2_reckon 146 = .ok (.iload 6, 2) := by decide +kernel
theorem dX2_reckon_148 : decode cX2_reckon 148 = .ok (.invokevirtual 141, 3) := by decide +kernel
theorem dX2_reckon_151 : decode cX2_reckon 151 = .ok (.invokevirtual 128, 3) := by decide +kernel
theorem dX2_reckon_154 : decode cX2_reckon 154 = .ok (.goto 93, 3) := by decide +kernel
theorem dX2_reckon_157 : decode cX2_reckon 157 = .ok (.aload_n 0, 1) := by decide +kernel
theorem dX2_reckon_158 : decode cX2_reckon 158 = .ok (.aload_n 0, 1) := by decide +kernel
theorem dX2_reckon_159 : decode cX2_reckon 159 = .ok (.getfield 23, 3) := by decide +kernel
theorem dX2_reckon_162 : decode cX2_reckon 162 = .ok (.iload 6, 2) := by decide +kernel
theorem dX2_reckon_164 : decode cX2_reckon 164 = .ok (.invokevirtual 144, 3) := by decide +kernel
theorem dX2_reckon_167 : decode cX2_reckon 167 = .ok (.invokevirtual 128, 3) := by decide +kernel
theorem dX2_reckon_170 : decode cX2_reckon 170 = .ok (.goto 77, 3) := by decide +kernel
theorem dX2_reckon_173 : decode cX2_reckon 173 = .ok (.aload_n 0, 1) := by decide +kernel
theorem dX2_reckon_174 : decode cX2_reckon 174 = .ok (.aload_n 0, 1) := by decide +kernel
theorem dX2_reckon_175 : decode cX2_reckon 175 = .ok (.getfield 23, 3) := by decide +kernel
theorem dX2_reckon_178 : decode cX2_reckon 178 = .ok (.iload 6, 2) := by decide +kernel
theorem dX2_reckon_180 : decode cX2_reckon 180 = .ok (.invokevirtual 144, 3) := by decide +kernel
theorem dX2_reckon_183 : decode cX2_reckon 183 = .ok (.ifCond .ne 7, 3) := by decide +kernel
theorem dX2_reckon_186 : decode cX2_reckon 186 = .ok (.iconst 1, 1) := by decide +kernel
theorem dX2_reckon_187 : decode cX2_reckon 187 = .ok (.goto 4, 3) := by decide +kernel
theorem dX2_reckon_190 : decode cX2_reckon 190 = .ok (.iconst 0, 1) := by decide +kernel
theorem dX2_reckon_191 : decode cX2_reckon 191 = .ok (.invokevirtual 128, 3) := by decide +kernel
theorem dX2_reckon_194 : decode cX2_reckon 194 = .ok (.goto 53, 3) := by decide +kernel
theorem dX2_reckon_197 : decode cX2_reckon 197 = .ok (.aload_n 0, 1) := by decide +kernel
theorem dX2_reckon_198 : decode cX2_reckon 198 = .ok (.aload_n 0, 1) := by decide +kernel
theorem dX2_reckon_199 : decode cX2_reckon 199 = .ok (.invokevirtual 147, 3) := by decide +kernel
theorem dX2_reckon_202 : decode cX2_reckon 202 = .ok (.ineg, 1) := by decide +kernel
theorem dX2_reckon_203 : decode cX2_reckon 203 = .ok (.invokevirtual 128, 3) := by decide +kernel
theorem dX2_reckon_206 : decode cX2_reckon 206 = .ok (.goto 41, 3) := by decide +kernel
theorem dX2_reckon_209 : decode cX2_reckon 209 = .ok (.aload_n 0, 1) := by decide +kernel
theorem dX2_reckon_210 : decode cX2_reckon 210 = .ok (.iconst 1, 1) := by decide +kernel
theorem dX2_reckon_211 : decode cX2_reckon 211 = .ok (.aload_n 0, 1) := by decide +kernel
theorem dX2_reckon_212 : decode cX2_reckon 212 = .ok (.invokevirtual 147, 3) := by decide +kernel
theorem dX2_reckon_215 : decode cX2_reckon 215 = .ok (.isub, 1) := by decide +kernel
theorem dX2_reckon_216 : decode cX2_reckon 216 = .ok (.invokevirtual 128, 3) := by decide +kernel
theorem dX2_reckon_219 : decode cX2_reckon 219 = .ok (.goto 28, 3) := by decide +kernel
theorem dX2_reckon_222 : decode cX2_reckon 222 = .ok (.aload_n 0, 1) := by decide +kernel
theorem dX2_reckon_223 : decode cX2_reckon 223 = .ok (.invokevirtual 147, 3) := by decide +kernel
theorem dX2_reckon_226 : decode cX2_reckon 226 = .ok (.istore 7, 2) := by decide +kernel
theorem dX2_reckon_228 : decode cX2_reckon 228 = .ok (.aload_n 0, 1) := by decide +kernel
theorem dX2_reckon_229 : decode cX2_reckon 229 = .ok (.invokevirtual 147, 3) := by decide +kernel
theorem dX2_reckon_232 : decode cX2_reckon 232 = .ok (.istore 8, 2) := by decide +kernel
theorem dX2_reckon_234 : decode cX2_reckon 234 = .ok (.aload_n 0, 1) := by decide +kernel
theorem dX2_reckon_235 : decode cX2_reckon 235 = .ok (.aload 5, 2) := by decide +kernel
theorem dX2_reckon_237 : decode cX2_reckon 237 = .ok (.iload 8, 2) := by decide +kernel
theorem dX2_reckon_239 : decode cX2_reckon 239 = .ok (.iload 7, 2) := by decide +kernel
theorem dX2_reckon_241 : decode cX2_reckon 241 = .ok (.invokestatic 150, 3) := by decide +kernel
theorem dX2_reckon_244 : decode cX2_reckon 244 = .ok (.invokevirtual 128, 3) := by decide +kernel
theorem dX2_reckon_247 : decode cX2_reckon 247 = .ok (.iinc 4 1, 3) := by decide +kernel
theorem dX2_reckon_250 : decode cX2_reckon 250 = .ok (.goto (-242), 3) := by decide +kernel
theorem dX2_reckon_253 : decode cX2_reckon 253 = .ok (.aload_n 0, 1) := by decide +kernel
theorem dX2_reckon_254 : decode cX2_reckon 254 = .ok (.invokevirtual 147, 3) := by decide +kernel
theorem dX2_reckon_257 : decode cX2_reckon 257 = .ok (.ireturn, 1) := by decide +kernel
theorem dX2_joined_0 : decode cX2_joined 0 = .ok (.getstatic 63, 3) := by decide +kernel
theorem dX2_joined_3 : decode cX2_joined 3 = .ok (.aload_n 0, 1) := by decide +kernel
theorem dX2_joined_4 : decode cX2_joined 4 = .ok (.invokevirtual 72, 3) := by decide +kernel
theorem dX2_joined_7 : decode cX2_joined 7 = .ok (.iaload, 1) := by decide +kernel
theorem dX2_joined_8 : decode cX2_joined 8 = .ok (.tableswitch 167 15 27 #[68, 72, 76, 80, 92, 98, 104, 115, 126, 137, 148, 159, 163], 68) := by decide +kernel
theorem dX2_joined_76 : decode cX2_joined 76 = .ok (.iload_n 1, 1) := by decide +kernel
theorem dX2_joined_77 : decode cX2_joined 77 = .ok (.iload_n 2, 1) := by decide +kernel
theorem dX2_joined_78 : decode cX2_joined 78 = .ok (.iadd, 1) := by decide +kernel
theorem dX2_joined_79 : decode cX2_joined 79 = .ok (.ireturn, 1) := by decide +kernel
theorem dX2_joined_80 : decode cX2_joined 80 = .ok (.iload_n 1, 1) := by decide +kernel
theorem dX2_joined_81 : decode cX2_joined 81 = .ok (.iload_n 2, 1) := by decide +kernel
theorem dX2_joined_82 : decode cX2_joined 82 = .ok (.isub, 1) := by decide +kernel
theorem dX2_joined_83 : decode cX2_joined 83 = .ok (.ireturn, 1) := by decide +kernel
theorem dX2_joined_84 : decode cX2_joined 84 = .ok (.iload_n 1, 1) := by decide +kernel
theorem dX2_joined_85 : decode cX2_joined 85 = .ok (.iload_n 2, 1) := by decide +kernel
theorem dX2_joined_86 : decode cX2_joined 86 = .ok (.imul, 1) := by decide +kernel
theorem dX2_joined_87 : decode cX2_joined 87 = .ok (.ireturn, 1) := by decide +kernel
theorem dX2_joined_88 : decode cX2_joined 88 = .ok (.iload_n 2, 1) := by decide +kernel
theorem dX2_joined_89 : decode cX2_joined 89 = .ok (.ifCond .ne 7, 3) := by decide +kernel
theorem dX2_joined_92 : decode cX2_joined 92 = .ok (.iconst 0, 1) := by decide +kernel
theorem dX2_joined_93 : decode cX2_joined 93 = .ok (.goto 6, 3) := by decide +kernel
theorem dX2_joined_96 : decode cX2_joined 96 = .ok (.iload_n 1, 1) := by decide +kernel
theorem dX2_joined_97 : decode cX2_joined 97 = .ok (.iload_n 2, 1) := by decide +kernel
theorem dX2_joined_98 : decode cX2_joined 98 = .ok (.idiv, 1) := by decide +kernel
theorem dX2_joined_99 : decode cX2_joined 99 = .ok (.ireturn, 1) := by decide +kernel
theorem dX2_joined_100 : decode cX2_joined 100 = .ok (.iload_n 1, 1) := by decide +kernel
theorem dX2_joined_101 : decode cX2_joined 101 = .ok (.iload_n 2, 1) := by decide +kernel
theorem dX2_joined_102 : decode cX2_joined 102 = .ok (.invokestatic 154, 3) := by decide +kernel
theorem dX2_joined_105 : decode cX2_joined 105 = .ok (.ireturn, 1) := by decide +kernel
theorem dX2_joined_106 : decode cX2_joined 106 = .ok (.iload_n 1, 1) := by decide +kernel
theorem dX2_joined_107 : decode cX2_joined 107 = .ok (.iload_n 2, 1) := by decide +kernel
theorem dX2_joined_108 : decode cX2_joined 108 = .ok (.invokestatic 157, 3) := by decide +kernel
theorem dX2_joined_111 : decode cX2_joined 111 = .ok (.ireturn, 1) := by decide +kernel
theorem dX2_joined_112 : decode cX2_joined 112 = .ok (.iload_n 1, 1) := by decide +kernel
theorem dX2_joined_113 : decode cX2_joined 113 = .ok (.iload_n 2, 1) := by decide +kernel
theorem dX2_joined_114 : decode cX2_joined 114 = .ok (.if_icmp .ge 7, 3) := by decide +kernel
theorem dX2_joined_117 : decode cX2_joined 117 = .ok (.iconst 1, 1) := by decide +kernel
theorem dX2_joined_118 : decode cX2_joined 118 = .ok (.goto 4, 3) := by decide +kernel
theorem dX2_joined_121 : decode cX2_joined 121 = .ok (.iconst 0, 1) := by decide +kernel
theorem dX2_joined_122 : decode cX2_joined 122 = .ok (.ireturn, 1) := by decide +kernel
theorem dX2_joined_123 : decode cX2_joined 123 = .ok (.iload_n 1, 1) := by decide +kernel
theorem dX2_joined_124 : decode cX2_joined 124 = .ok (.iload_n 2, 1) := by decide +kernel
theorem dX2_joined_125 : decode cX2_joined 125 = .ok (.if_icmp .le 7, 3) := by decide +kernel
theorem dX2_joined_128 : decode cX2_joined 128 = .ok (.iconst 1, 1) := by decide +kernel
theorem dX2_joined_129 : decode cX2_joined 129 = .ok (.goto 4, 3) := by decide +kernel
theorem dX2_joined_132 : decode cX2_joined 132 = .ok (.iconst 0, 1) := by decide +kernel
theorem dX2_joined_133 : decode cX2_joined 133 = .ok (.ireturn, 1) := by decide +kernel
theorem dX2_joined_134 : decode cX2_joined 134 = .ok (.iload_n 1, 1) := by decide +kernel
theorem dX2_joined_135 : decode cX2_joined 135 = .ok (.iload_n 2, 1) := by decide +kernel
theorem dX2_joined_136 : decode cX2_joined 136 = .ok (.if_icmp .ne 7, 3) := by decide +kernel
theorem dX2_joined_139 : decode cX2_joined 139 = .ok (.iconst 1, 1) := by decide +kernel
theorem dX2_joined_140 : decode cX2_joined 140 = .ok (.goto 4, 3) := by decide +kernel
theorem dX2_joined_143 : decode cX2_joined 143 = .ok (.iconst 0, 1) := by decide +kernel
theorem dX2_joined_144 : decode cX2_joined 144 = .ok (.ireturn, 1) := by decide +kernel
theorem dX2_joined_145 : decode cX2_joined 145 = .ok (.iload_n 1, 1) := by decide +kernel
theorem dX2_joined_146 : decode cX2_joined 146 = .ok (.iload_n 2, 1) := by decide +kernel
theorem dX2_joined_147 : decode cX2_joined 147 = .ok (.if_icmp .gt 7, 3) := by decide +kernel
theorem dX2_joined_150 : decode cX2_joined 150 = .ok (.iconst 1, 1) := by decide +kernel
theorem dX2_joined_151 : decode cX2_joined 151 = .ok (.goto 4, 3) := by decide +kernel
theorem dX2_joined_154 : decode cX2_joined 154 = .ok (.iconst 0, 1) := by decide +kernel
theorem dX2_joined_155 : decode cX2_joined 155 = .ok (.ireturn, 1) := by decide +kernel
theorem dX2_joined_156 : decode cX2_joined 156 = .ok (.iload_n 1, 1) := by decide +kernel
theorem dX2_joined_157 : decode cX2_joined 157 = .ok (.iload_n 2, 1) := by decide +kernel
theorem dX2_joined_158 : decode cX2_joined 158 = .ok (.if_icmp .lt 7, 3) := by decide +kernel
theorem dX2_joined_161 : decode cX2_joined 161 = .ok (.iconst 1, 1) := by decide +kernel
theorem dX2_joined_162 : decode cX2_joined 162 = .ok (.goto 4, 3) := by decide +kernel
theorem dX2_joined_165 : decode cX2_joined 165 = .ok (.iconst 0, 1) := by decide +kernel
theorem dX2_joined_166 : decode cX2_joined 166 = .ok (.ireturn, 1) := by decide +kernel
theorem dX2_joined_167 : decode cX2_joined 167 = .ok (.iload_n 1, 1) := by decide +kernel
theorem dX2_joined_168 : decode cX2_joined 168 = .ok (.iload_n 2, 1) := by decide +kernel
theorem dX2_joined_169 : decode cX2_joined 169 = .ok (.iand, 1) := by decide +kernel
theorem dX2_joined_170 : decode cX2_joined 170 = .ok (.ireturn, 1) := by decide +kernel
theorem dX2_joined_171 : decode cX2_joined 171 = .ok (.iload_n 1, 1) := by decide +kernel
theorem dX2_joined_172 : decode cX2_joined 172 = .ok (.iload_n 2, 1) := by decide +kernel
theorem dX2_joined_173 : decode cX2_joined 173 = .ok (.ior, 1) := by decide +kernel
theorem dX2_joined_174 : decode cX2_joined 174 = .ok (.ireturn, 1) := by decide +kernel
theorem dX2_joined_175 : decode cX2_joined 175 = .ok (.iconst 0, 1) := by decide +kernel
theorem dX2_joined_176 : decode cX2_joined 176 = .ok (.ireturn, 1) := by decide +kernel
theorem dX2_push_0 : decode cX2_push 0 = .ok (.aload_n 0, 1) := by decide +kernel
theorem dX2_push_1 : decode cX2_push 1 = .ok (.getfield 118, 3) := by decide +kernel
theorem dX2_push_4 : decode cX2_push 4 = .ok (.ifCond .lt 35, 3) := by decide +kernel
theorem dX2_push_7 : decode cX2_push 7 = .ok (.aload_n 0, 1) := by decide +kernel
theorem dX2_push_8 : decode cX2_push 8 = .ok (.getfield 118, 3) := by decide +kernel
theorem dX2_push_11 : decode cX2_push 11 = .ok (.aload_n 0, 1) := by decide +kernel
theorem dX2_push_12 : decode cX2_push 12 = .ok (.getfield 9, 3) := by decide +kernel
theorem dX2_push_15 : decode cX2_push 15 = .ok (.arraylength, 1) := by decide +kernel
theorem dX2_push_16 : decode cX2_push 16 = .ok (.if_icmp .ge 23, 3) := by decide +kernel
theorem dX2_push_19 : decode cX2_push 19 = .ok (.aload_n 0, 1) := by decide +kernel
theorem dX2_push_20 : decode cX2_push 20 = .ok (.getfield 9, 3) := by decide +kernel
theorem dX2_push_23 : decode cX2_push 23 = .ok (.aload_n 0, 1) := by decide +kernel
theorem dX2_push_24 : decode cX2_push 24 = .ok (.getfield 118, 3) := by decide +kernel
theorem dX2_push_27 : decode cX2_push 27 = .ok (.iload_n 1, 1) := by decide +kernel
theorem dX2_push_28 : decode cX2_push 28 = .ok (.iastore, 1) := by decide +kernel
theorem dX2_push_29 : decode cX2_push 29 = .ok (.aload_n 0, 1) := by decide +kernel
theorem dX2_push_30 : decode cX2_push 30 = .ok (.dup, 1) := by decide +kernel
theorem dX2_push_31 : decode cX2_push 31 = .ok (.getfield 118, 3) := by decide +kernel
theorem dX2_push_34 : decode cX2_push 34 = .ok (.iconst 1, 1) := by decide +kernel
theorem dX2_push_35 : decode cX2_push 35 = .ok (.iadd, 1) := by decide +kernel
theorem dX2_push_36 : decode cX2_push 36 = .ok (.putfield 118, 3) := by decide +kernel
theorem dX2_push_39 : decode cX2_push 39 = .ok (.return_, 1) := by decide +kernel
theorem dX2_pop_0 : decode cX2_pop 0 = .ok (.aload_n 0, 1) := by decide +kernel
theorem dX2_pop_1 : decode cX2_pop 1 = .ok (.getfield 118, 3) := by decide +kernel
theorem dX2_pop_4 : decode cX2_pop 4 = .ok (.ifCond .le 15, 3) := by decide +kernel
theorem dX2_pop_7 : decode cX2_pop 7 = .ok (.aload_n 0, 1) := by decide +kernel
theorem dX2_pop_8 : decode cX2_pop 8 = .ok (.getfield 118, 3) := by decide +kernel
theorem dX2_pop_11 : decode cX2_pop 11 = .ok (.aload_n 0, 1) := by decide +kernel
theorem dX2_pop_12 : decode cX2_pop 12 = .ok (.getfield 9, 3) := by decide +kernel
theorem dX2_pop_15 : decode cX2_pop 15 = .ok (.arraylength, 1) := by decide +kernel
theorem dX2_pop_16 : decode cX2_pop 16 = .ok (.if_icmp .le 5, 3) := by decide +kernel
theorem dX2_pop_19 : decode cX2_pop 19 = .ok (.iconst 0, 1) := by decide +kernel
theorem dX2_pop_20 : decode cX2_pop 20 = .ok (.ireturn, 1) := by decide +kernel
theorem dX2_pop_21 : decode cX2_pop 21 = .ok (.aload_n 0, 1) := by decide +kernel
theorem dX2_pop_22 : decode cX2_pop 22 = .ok (.dup, 1) := by decide +kernel
theorem dX2_pop_23 : decode cX2_pop 23 = .ok (.getfield 118, 3) := by decide +kernel
theorem dX2_pop_26 : decode cX2_pop 26 = .ok (.iconst 1, 1) := by decide +kernel
theorem dX2_pop_27 : decode cX2_pop 27 = .ok (.isub, 1) := by decide +kernel
theorem dX2_pop_28 : decode cX2_pop 28 = .ok (.putfield 118, 3) := by decide +kernel
theorem dX2_pop_31 : decode cX2_pop 31 = .ok (.aload_n 0, 1) := by decide +kernel
theorem dX2_pop_32 : decode cX2_pop 32 = .ok (.getfield 9, 3) := by decide +kernel
theorem dX2_pop_35 : decode cX2_pop 35 = .ok (.aload_n 0, 1) := by decide +kernel
theorem dX2_pop_36 : decode cX2_pop 36 = .ok (.getfield 118, 3) := by decide +kernel
theorem dX2_pop_39 : decode cX2_pop 39 = .ok (.iaload, 1) := by decide +kernel
theorem dX2_pop_40 : decode cX2_pop 40 = .ok (.ireturn, 1) := by decide +kernel
theorem dX3_init_0 : decode cX3_init 0 = .ok (.aload_n 0, 1) := by decide +kernel
theorem dX3_init_1 : decode cX3_init 1 = .ok (.invokespecial 3, 3) := by decide +kernel
theorem dX3_init_4 : decode cX3_init 4 = .ok (.aload_n 0, 1) := by decide +kernel
theorem dX3_init_5 : decode cX3_init 5 = .ok (.aload_n 1, 1) := by decide +kernel
theorem dX3_init_6 : decode cX3_init 6 = .ok (.putfield 9, 3) := by decide +kernel
theorem dX3_init_9 : decode cX3_init 9 = .ok (.aload_n 0, 1) := by decide +kernel
theorem dX3_init_10 : decode cX3_init 10 = .ok (.aload_n 2, 1) := by decide +kernel
theorem dX3_init_11 : decode cX3_init 11 = .ok (.putfield 15, 3) := by decide +kernel
theorem dX3_init_14 : decode cX3_init 14 = .ok (.return_, 1) := by decide +kernel
theorem dX3_firstWrong_0 : decode cX3_firstWrong 0 = .ok (.aload_n 0, 1) := by decide +kernel
theorem dX3_firstWrong_1 : decode cX3_firstWrong 1 = .ok (.aload_n 1, 1) := by decide +kernel
theorem dX3_firstWrong_2 : decode cX3_firstWrong 2 = .ok (.putfield 15, 3) := by decide +kernel
theorem dX3_firstWrong_5 : decode cX3_firstWrong 5 = .ok (.aload_n 0, 1) := by decide +kernel
theorem dX3_firstWrong_6 : decode cX3_firstWrong 6 = .ok (.getfield 15, 3) := by decide +kernel
theorem dX3_firstWrong_9 : decode cX3_firstWrong 9 = .ok (.invokevirtual 19, 3) := by decide +kernel
theorem dX3_firstWrong_12 : decode cX3_firstWrong 12 = .ok (.aload_n 0, 1) := by decide +kernel
theorem dX3_firstWrong_13 : decode cX3_firstWrong 13 = .ok (.iconst 0, 1) := by decide +kernel
theorem dX3_firstWrong_14 : decode cX3_firstWrong 14 = .ok (.putfield 24, 3) := by decide +kernel
theorem dX3_firstWrong_17 : decode cX3_firstWrong 17 = .ok (.aload_n 0, 1) := by decide +kernel
theorem dX3_firstWrong_18 : decode cX3_firstWrong 18 = .ok (.iconst 0, 1) := by decide +kernel
theorem dX3_firstWrong_19 : decode cX3_firstWrong 19 = .ok (.putfield 28, 3) := by decide +kernel
theorem dX3_firstWrong_22 : decode cX3_firstWrong 22 = .ok (.aload_n 0, 1) := by decide +kernel
theorem dX3_firstWrong_23 : decode cX3_firstWrong 23 = .ok (.getstatic 32, 3) := by decide +kernel
theorem dX3_firstWrong_26 : decode cX3_firstWrong 26 = .ok (.invokevirtual 38, 3) := by decide +kernel
theorem dX3_firstWrong_29 : decode cX3_firstWrong 29 = .ok (.ifCond .eq 31, 3) := by decide +kernel
theorem dX3_firstWrong_32 : decode cX3_firstWrong 32 = .ok (.aload_n 0, 1) := by decide +kernel
theorem dX3_firstWrong_33 : decode cX3_firstWrong 33 = .ok (.getstatic 42, 3) := by decide +kernel
theorem dX3_firstWrong_36 : decode cX3_firstWrong 36 = .ok (.invokevirtual 45, 3) := by decide +kernel
theorem dX3_firstWrong_39 : decode cX3_firstWrong 39 = .ok (.aload_n 0, 1) := by decide +kernel
theorem dX3_firstWrong_40 : decode cX3_firstWrong 40 = .ok (.getstatic 49, 3) := by decide +kernel
theorem dX3_firstWrong_43 : decode cX3_firstWrong 43 = .ok (.invokevirtual 45, 3) := by decide +kernel
theorem dX3_firstWrong_46 : decode cX3_firstWrong 46 = .ok (.aload_n 0, 1) := by decide +kernel
theorem dX3_firstWrong_47 : decode cX3_firstWrong 47 = .ok (.getstatic 42, 3) := by decide +kernel
theorem dX3_firstWrong_50 : decode cX3_firstWrong 50 = .ok (.invokevirtual 45, 3) := by decide +kernel
theorem dX3_firstWrong_53 : decode cX3_firstWrong 53 = .ok (.aload_n 0, 1) := by decide +kernel
theorem dX3_firstWrong_54 : decode cX3_firstWrong 54 = .ok (.getstatic 52, 3) := by decide +kernel
theorem dX3_firstWrong_57 : decode cX3_firstWrong 57 = .ok (.invokevirtual 45, 3) := by decide +kernel
theorem dX3_firstWrong_60 : decode cX3_firstWrong 60 = .ok (.iconst 0, 1) := by decide +kernel
theorem dX3_firstWrong_61 : decode cX3_firstWrong 61 = .ok (.istore_n 2, 1) := by decide +kernel
theorem dX3_firstWrong_62 : decode cX3_firstWrong 62 = .ok (.iload_n 2, 1) := by decide +kernel
theorem dX3_firstWrong_63 : decode cX3_firstWrong 63 = .ok (.sipush 400, 3) := by decide +kernel
theorem dX3_firstWrong_66 : decode cX3_firstWrong 66 = .ok (.if_icmp .ge 61, 3) := by decide +kernel
theorem dX3_firstWrong_69 : decode cX3_firstWrong 69 = .ok (.aload_n 0, 1) := by decide +kernel
theorem dX3_firstWrong_70 : decode cX3_firstWrong 70 = .ok (.getfield 28, 3) := by decide +kernel
theorem dX3_firstWrong_73 : decode cX3_firstWrong 73 = .ok (.ifCond .ne 54, 3) := by decide +kernel
theorem dX3_firstWrong_76 : decode cX3_firstWrong 76 = .ok (.aload_n 0, 1) := by decide +kernel
theorem dX3_firstWrong_77 : decode cX3_firstWrong 77 = .ok (.getstatic 55, 3) := by decide +kernel
theorem dX3_firstWrong_80 : decode cX3_firstWrong 80 = .ok (.invokevirtual 58, 3) := by decide +kernel
theorem dX3_firstWrong_83 : decode cX3_firstWrong 83 = .ok (.ifCond .ne 44, 3) := by decide +kernel
theorem dX3_firstWrong_86 : decode cX3_firstWrong 86 = .ok (.aload_n 0, 1) := by decide +kernel
theorem dX3_firstWrong_87 : decode cX3_firstWrong 87 = .ok (.getstatic 61, 3) := by decide +kernel
theorem dX3_firstWrong_90 : decode cX3_firstWrong 90 = .ok (.invokevirtual 38, 3) := by decide +kernel
theorem dX3_firstWrong_93 : decode cX3_firstWrong 93 = .ok (.ifCond .eq 10, 3) := by decide +kernel
theorem dX3_firstWrong_96 : decode cX3_firstWrong 96 = .ok (.aload_n 0, 1) := by decide +kernel
theorem dX3_firstWrong_97 : decode cX3_firstWrong 97 = .ok (.invokevirtual 64, 3) := by decide +kernel
theorem dX3_firstWrong_100 : decode cX3_firstWrong 100 = .ok (.goto 14, 3) := by decide +kernel
theorem dX3_firstWrong_103 : decode cX3_firstWrong 103 = .ok (.aload_n 0, 1) := by decide +kernel
theorem dX3_firstWrong_104 : decode cX3_firstWrong 104 = .ok (.getstatic 67, 3) := by decide +kernel
theorem dX3_firstWrong_107 : decode cX3_firstWrong 107 = .ok (.invokevirtual 45, 3) := by decide +kernel
theorem dX3_firstWrong_110 : decode cX3_firstWrong 110 = .ok (.aload_n 0, 1) := by decide +kernel
theorem dX3_firstWrong_111 : decode cX3_firstWrong 111 = .ok (.invokevirtual 70, 3) := by decide +kernel
theorem dX3_firstWrong_114 : decode cX3_firstWrong 114 = .ok (.aload_n 0, 1) := by decide +kernel
theorem dX3_firstWrong_115 : decode cX3_firstWrong 115 = .ok (.getstatic 52, 3) := by decide +kernel
theorem dX3_firstWrong_118 : decode cX3_firstWrong 118 = .ok (.invokevirtual 45, 3) := by decide +kernel
theorem dX3_firstWrong_121 : decode cX3_firstWrong 121 = .ok (.iinc 2 1, 3) := by decide +kernel
theorem dX3_firstWrong_124 : decode cX3_firstWrong 124 = .ok (.goto (-62), 3) := by decide +kernel
theorem dX3_firstWrong_127 : decode cX3_firstWrong 127 = .ok (.aload_n 0, 1) := by decide +kernel
theorem dX3_firstWrong_128 : decode cX3_firstWrong 128 = .ok (.getfield 28, 3) := by decide +kernel
theorem dX3_firstWrong_131 : decode cX3_firstWrong 131 = .ok (.ifCond .eq 10, 3) := by decide +kernel
theorem dX3_firstWrong_134 : decode cX3_firstWrong 134 = .ok (.aload_n 0, 1) := by decide +kernel
theorem dX3_firstWrong_135 : decode cX3_firstWrong 135 = .ok (.getfield 24, 3) := by decide +kernel
theorem dX3_firstWrong_138 : decode cX3_firstWrong 138 = .ok (.goto 4, 3) := by decide +kernel
theorem dX3_firstWrong_141 : decode cX3_firstWrong 141 = .ok (.iconst (-1), 1) := by decide +kernel
theorem dX3_firstWrong_142 : decode cX3_firstWrong 142 = .ok (.ireturn, 1) := by decide +kernel
theorem dX3_readStone_0 : decode cX3_readStone 0 = .ok (.aload_n 0, 1) := by decide +kernel
theorem dX3_readStone_1 : decode cX3_readStone 1 = .ok (.invokevirtual 73, 3) := by decide +kernel
theorem dX3_readStone_4 : decode cX3_readStone 4 = .ok (.pop, 1) := by decide +kernel
theorem dX3_readStone_5 : decode cX3_readStone 5 = .ok (.aload_n 0, 1) := by decide +kernel
theorem dX3_readStone_6 : decode cX3_readStone 6 = .ok (.getstatic 42, 3) := by decide +kernel
theorem dX3_readStone_9 : decode cX3_readStone 9 = .ok (.invokevirtual 45, 3) := by decide +kernel
theorem dX3_readStone_12 : decode cX3_readStone 12 = .ok (.aload_n 0, 1) := by decide +kernel
theorem dX3_readStone_13 : decode cX3_readStone 13 = .ok (.getstatic 77, 3) := by decide +kernel
theorem dX3_readStone_16 : decode cX3_readStone 16 = .ok (.invokevirtual 45, 3) := by decide +kernel
theorem dX3_readStone_19 : decode cX3_readStone 19 = .ok (.aload_n 0, 1) := by decide +kernel
theorem dX3_readStone_20 : decode cX3_readStone 20 = .ok (.getstatic 42, 3) := by decide +kernel
theorem dX3_readStone_23 : decode cX3_readStone 23 = .ok (.invokevirtual 45, 3) := by decide +kernel
theorem dX3_readStone_26 : decode cX3_readStone 26 = .ok (.return_, 1) := by decide +kernel
theorem dX3_readPlan_0 : decode cX3_readPlan 0 = .ok (.aload_n 0, 1) := by decide +kernel
theorem dX3_readPlan_1 : decode cX3_readPlan 1 = .ok (.invokevirtual 73, 3) := by decide +kernel
theorem dX3_readPlan_4 : decode cX3_readPlan 4 = .ok (.istore_n 1, 1) := by decide +kernel
theorem dX3_readPlan_5 : decode cX3_readPlan 5 = .ok (.aload_n 0, 1) := by decide +kernel
theorem dX3_readPlan_6 : decode cX3_readPlan 6 = .ok (.getfield 15, 3) := by decide +kernel
theorem dX3_readPlan_9 : decode cX3_readPlan 9 = .ok (.invokevirtual 80, 3) := by decide +kernel
theorem dX3_readPlan_12 : decode cX3_readPlan 12 = .ok (.istore_n 2, 1) := by decide +kernel
theorem dX3_readPlan_13 : decode cX3_readPlan 13 = .ok (.iload_n 2, 1) := by decide +kernel
theorem dX3_readPlan_14 : decode cX3_readPlan 14 = .ok (.istore_n 3, 1) := by decide +kernel
theorem dX3_readPlan_15 : decode cX3_readPlan 15 = .ok (.aload_n 0, 1) := by decide +kernel
theorem dX3_readPlan_16 : decode cX3_readPlan 16 = .ok (.invokevirtual 83, 3) := by decide +kernel
theorem dX3_readPlan_19 : decode cX3_readPlan 19 = .ok (.astore 4, 2) := by decide +kernel
theorem dX3_readPlan_21 : decode cX3_readPlan 21 = .ok (.aload 4, 2) := by decide +kernel
theorem dX3_readPlan_23 : decode cX3_readPlan 23 = .ok (.getstatic 87, 3) := by decide +kernel
theorem dX3_readPlan_26 : decode cX3_readPlan 26 = .ok (.if_acmp .ne 28, 3) := by decide +kernel
theorem dX3_readPlan_29 : decode cX3_readPlan 29 = .ok (.aload_n 0, 1) := by decide +kernel
theorem dX3_readPlan_30 : decode cX3_readPlan 30 = .ok (.iconst 0, 1) := by decide +kernel
theorem dX3_readPlan_31 : decode cX3_readPlan 31 = .ok (.invokevirtual 90, 3) := by decide +kernel
theorem dX3_readPlan_34 : decode cX3_readPlan 34 = .ok (.aload_n 0, 1) := by decide +kernel
theorem dX3_readPlan_35 : decode cX3_readPlan 35 = .ok (.getfield 15, 3) := by decide +kernel
theorem dX3_readPlan_38 : decode cX3_readPlan 38 = .ok (.invokevirtual 80, 3) := by decide +kernel
theorem dX3_readPlan_41 : decode cX3_readPlan 41 = .ok (.istore_n 3, 1) := by decide +kernel
theorem dX3_readPlan_42 : decode cX3_readPlan 42 = .ok (.aload_n 0, 1) := by decide +kernel
theorem dX3_readPlan_43 : decode cX3_readPlan 43 = .ok (.getstatic 77, 3) := by decide +kernel
theorem dX3_readPlan_46 : decode cX3_readPlan 46 = .ok (.invokevirtual 45, 3) := by decide +kernel
theorem dX3_readPlan_49 : decode cX3_readPlan 49 = .ok (.aload_n 0, 1) := by decide +kernel
theorem dX3_readPlan_50 : decode cX3_readPlan 50 = .ok (.iconst 0, 1) := by decide +kernel
theorem dX3_readPlan_51 : decode cX3_readPlan 51 = .ok (.invokevirtual 90, 3) := by decide +kernel
theorem dX3_readPlan_54 : decode cX3_readPlan 54 = .ok (.aload_n 0, 1) := by decide +kernel
theorem dX3_readPlan_55 : decode cX3_readPlan 55 = .ok (.getfield 15, 3) := by decide +kernel
theorem dX3_readPlan_58 : decode cX3_readPlan 58 = .ok (.invokevirtual 80, 3) := by decide +kernel
theorem dX3_readPlan_61 : decode cX3_readPlan 61 = .ok (.istore 5, 2) := by decide +kernel
theorem dX3_readPlan_63 : decode cX3_readPlan 63 = .ok (.aload_n 0, 1) := by decide +kernel
theorem dX3_readPlan_64 : decode cX3_readPlan 64 = .ok (.getstatic 94, 3) := by decide +kernel
theorem dX3_readPlan_67 : decode cX3_readPlan 67 = .ok (.invokevirtual 38, 3) := by decide +kernel
theorem dX3_readPlan_70 : decode cX3_readPlan 70 = .ok (.ifCond .eq 8, 3) := by decide +kernel
theorem dX3_readPlan_73 : decode cX3_readPlan 73 = .ok (.aload_n 0, 1) := by decide +kernel
theorem dX3_readPlan_74 : decode cX3_readPlan 74 = .ok (.iconst 0, 1) := by decide +kernel
theorem dX3_readPlan_75 : decode cX3_readPlan 75 = .ok (.invokevirtual 97, 3) := by decide +kernel
theorem dX3_readPlan_78 : decode cX3_readPlan 78 = .ok (.aload_n 0, 1) := by decide +kernel
theorem dX3_readPlan_79 : decode cX3_readPlan 79 = .ok (.getfield 15, 3) := by decide +kernel
theorem dX3_readPlan_82 : decode cX3_readPlan 82 = .ok (.iload_n 1, 1) := by decide +kernel
theorem dX3_readPlan_83 : decode cX3_readPlan 83 = .ok (.aload 4, 2) := by decide +kernel
theorem dX3_readPlan_85 : decode cX3_readPlan 85 = .ok (.iload_n 2, 1) := by decide +kernel
theorem dX3_readPlan_86 : decode cX3_readPlan 86 = .ok (.iload_n 3, 1) := by decide +kernel
theorem dX3_readPlan_87 : decode cX3_readPlan 87 = .ok (.iload 5, 2) := by decide +kernel
theorem dX3_readPlan_89 : decode cX3_readPlan 89 = .ok (.invokevirtual 100, 3) := by decide +kernel
theorem dX3_readPlan_92 : decode cX3_readPlan 92 = .ok (.return_, 1) := by decide +kernel
theorem dX3_readMove_0 : decode cX3_readMove 0 = .ok (.aload_n 0, 1) := by decide +kernel
theorem dX3_readMove_1 : decode cX3_readMove 1 = .ok (.getfield 9, 3) := by decide +kernel
theorem dX3_readMove_4 : decode cX3_readMove 4 = .ok (.aload_n 0, 1) := by decide +kernel
theorem dX3_readMove_5 : decode cX3_readMove 5 = .ok (.getfield 24, 3) := by decide +kernel
theorem dX3_readMove_8 : decode cX3_readMove 8 = .ok (.invokevirtual 104, 3) := by decide +kernel
theorem dX3_readMove_11 : decode cX3_readMove 11 = .ok (.astore_n 1, 1) := by decide +kernel
theorem dX3_readMove_12 : decode cX3_readMove 12 = .ok (.aload_n 1, 1) := by decide +kernel
theorem dX3_readMove_13 : decode cX3_readMove 13 = .ok (.getstatic 110, 3) := by decide +kernel
theorem dX3_readMove_16 : decode cX3_readMove 16 = .ok (.if_acmp .eq 31, 3) := by decide +kernel
theorem dX3_readMove_19 : decode cX3_readMove 19 = .ok (.aload_n 1, 1) := by decide +kernel
theorem dX3_readMove_20 : decode cX3_readMove 20 = .ok (.getstatic 113, 3) := by decide +kernel
theorem dX3_readMove_23 : decode cX3_readMove 23 = .ok (.if_acmp .eq 24, 3) := by decide +kernel
theorem dX3_readMove_26 : decode cX3_readMove 26 = .ok (.aload_n 1, 1) := by decide +kernel
theorem dX3_readMove_27 : decode cX3_readMove 27 = .ok (.getstatic 116, 3) := by decide +kernel
theorem dX3_readMove_30 : decode cX3_readMove 30 = .ok (.if_acmp .eq 17, 3) := by decide +kernel
theorem dX3_readMove_33 : decode cX3_readMove 33 = .ok (.aload_n 1, 1) := by decide +kernel
theorem dX3_readMove_34 : decode cX3_readMove 34 = .ok (.getstatic 119, 3) := by decide +kernel
theorem dX3_readMove_37 : decode cX3_readMove 37 = .ok (.if_acmp .eq 10, 3) := by decide +kernel
theorem dX3_readMove_40 : decode cX3_readMove 40 = .ok (.aload_n 1, 1) := by decide +kernel
theorem dX3_readMove_41 : decode cX3_readMove 41 = .ok (.getstatic 87, 3) := by decide +kernel
theorem dX3_readMove_44 : decode cX3_readMove 44 = .ok (.if_acmp .ne 7, 3) := by decide +kernel
theorem dX3_readMove_47 : decode cX3_readMove 47 = .ok (.iconst 1, 1) := by decide +kernel
theorem dX3_readMove_48 : decode cX3_readMove 48 = .ok (.goto 4, 3) := by decide +kernel
theorem dX3_readMove_51 : decode cX3_readMove 51 = .ok (.iconst 0, 1) := by decide +kernel
theorem dX3_readMove_52 : decode cX3_readMove 52 = .ok (.istore_n 2, 1) := by decide +kernel
theorem dX3_readMove_53 : decode cX3_readMove 53 = .ok (.aload_n 0, 1) := by decide +kernel
theorem dX3_readMove_54 : decode cX3_readMove 54 = .ok (.iload_n 2, 1) := by decide +kernel
theorem dX3_readMove_55 : decode cX3_readMove 55 = .ok (.ifCond .eq 7, 3) := by decide +kernel
theorem dX3_readMove_58 : decode cX3_readMove 58 = .ok (.aload_n 1, 1) := by decide +kernel
theorem dX3_readMove_59 : decode cX3_readMove 59 = .ok (.goto 6, 3) := by decide +kernel
theorem dX3_readMove_62 : decode cX3_readMove 62 = .ok (.getstatic 110, 3) := by decide +kernel
theorem dX3_readMove_65 : decode cX3_readMove 65 = .ok (.invokevirtual 45, 3) := by decide +kernel
theorem dX3_readMove_68 : decode cX3_readMove 68 = .ok (.aload_n 1, 1) := by decide +kernel
theorem dX3_readMove_69 : decode cX3_readMove 69 = .ok (.areturn, 1) := by decide +kernel
theorem dX3_readPlayer_0 : decode cX3_readPlayer 0 = .ok (.aload_n 0, 1) := by decide +kernel
theorem dX3_readPlayer_1 : decode cX3_readPlayer 1 = .ok (.getstatic 122, 3) := by decide +kernel
theorem dX3_readPlayer_4 : decode cX3_readPlayer 4 = .ok (.invokevirtual 38, 3) := by decide +kernel
theorem dX3_readPlayer_7 : decode cX3_readPlayer 7 = .ok (.ifCond .eq 5, 3) := by decide +kernel
theorem dX3_readPlayer_10 : decode cX3_readPlayer 10 = .ok (.iconst 0, 1) := by decide +kernel
theorem dX3_readPlayer_11 : decode cX3_readPlayer 11 = .ok (.ireturn, 1) := by decide +kernel
theorem dX3_readPlayer_12 : decode cX3_readPlayer 12 = .ok (.aload_n 0, 1) := by decide +kernel
theorem dX3_readPlayer_13 : decode cX3_readPlayer 13 = .ok (.getstatic 125, 3) := by decide +kernel
theorem dX3_readPlayer_16 : decode cX3_readPlayer 16 = .ok (.invokevirtual 45, 3) := by decide +kernel
theorem dX3_readPlayer_19 : decode cX3_readPlayer 19 = .ok (.iconst 1, 1) := by decide +kernel
theorem dX3_readPlayer_20 : decode cX3_readPlayer 20 = .ok (.ireturn, 1) := by decide +kernel
theorem dX3_readTest_0 : decode cX3_readTest 0 = .ok (.aload_n 0, 1) := by decide +kernel
theorem dX3_readTest_1 : decode cX3_readTest 1 = .ok (.iload_n 1, 1) := by decide +kernel
theorem dX3_readTest_2 : decode cX3_readTest 2 = .ok (.invokevirtual 128, 3) := by decide +kernel
theorem dX3_readTest_5 : decode cX3_readTest 5 = .ok (.iconst 0, 1) := by decide +kernel
theorem dX3_readTest_6 : decode cX3_readTest 6 = .ok (.istore_n 2, 1) := by decide +kernel
theorem dX3_readTest_7 : decode cX3_readTest 7 = .ok (.iload_n 2, 1) := by decide +kernel
theorem dX3_readTest_8 : decode cX3_readTest 8 = .ok (.sipush 400, 3) := by decide +kernel
theorem dX3_readTest_11 : decode cX3_readTest 11 = .ok (.if_icmp .ge 35, 3) := by decide +kernel
theorem dX3_readTest_14 : decode cX3_readTest 14 = .ok (.aload_n 0, 1) := by decide +kernel
theorem dX3_readTest_15 : decode cX3_readTest 15 = .ok (.getstatic 131, 3) := by decide +kernel
theorem dX3_readTest_18 : decode cX3_readTest 18 = .ok (.invokevirtual 38, 3) := by decide +kernel
theorem dX3_readTest_21 : decode cX3_readTest 21 = .ok (.ifCond .eq 25, 3) := by decide +kernel
theorem dX3_readTest_24 : decode cX3_readTest 24 = .ok (.aload_n 0, 1) := by decide +kernel
theorem dX3_readTest_25 : decode cX3_readTest 25 = .ok (.iload_n 1, 1) := by decide +kernel
theorem dX3_readTest_26 : decode cX3_readTest 26 = .ok (.invokevirtual 128, 3) := by decide +kernel
theorem dX3_readTest_29 : decode cX3_readTest 29 = .ok (.aload_n 0, 1) := by decide +kernel
theorem dX3_readTest_30 : decode cX3_readTest 30 = .ok (.getfield 15, 3) := by decide +kernel
theorem dX3_readTest_33 : decode cX3_readTest 33 = .ok (.getstatic 131, 3) := by decide +kernel
theorem dX3_readTest_36 : decode cX3_readTest 36 = .ok (.iconst 0, 1) := by decide +kernel
theorem dX3_readTest_37 : decode cX3_readTest 37 = .ok (.invokevirtual 134, 3) := by decide +kernel
theorem dX3_readTest_40 : decode cX3_readTest 40 = .ok (.iinc 2 1, 3) := by decide +kernel
theorem dX3_readTest_43 : decode cX3_readTest 43 = .ok (.goto (-36), 3) := by decide +kernel
theorem dX3_readTest_46 : decode cX3_readTest 46 = .ok (.return_, 1) := by decide +kernel
theorem dX3_readBoth_0 : decode cX3_readBoth 0 = .ok (.aload_n 0, 1) := by decide +kernel
theorem dX3_readBoth_1 : decode cX3_readBoth 1 = .ok (.iload_n 1, 1) := by decide +kernel
theorem dX3_readBoth_2 : decode cX3_readBoth 2 = .ok (.invokevirtual 138, 3) := by decide +kernel
theorem dX3_readBoth_5 : decode cX3_readBoth 5 = .ok (.iconst 0, 1) := by decide +kernel
theorem dX3_readBoth_6 : decode cX3_readBoth 6 = .ok (.istore_n 2, 1) := by decide +kernel
theorem dX3_readBoth_7 : decode cX3_readBoth 7 = .ok (.iload_n 2, 1) := by decide +kernel
theorem dX3_readBoth_8 : decode cX3_readBoth 8 = .ok (.sipush 400, 3) := by decide +kernel
theorem dX3_readBoth_11 : decode cX3_readBoth 11 = .ok (.if_icmp .ge 35, 3) := by decide +kernel
theorem dX3_readBoth_14 : decode cX3_readBoth 14 = .ok (.aload_n 0, 1) := by decide +kernel
theorem dX3_readBoth_15 : decode cX3_readBoth 15 = .ok (.getstatic 141, 3) := by decide +kernel
theorem dX3_readBoth_18 : decode cX3_readBoth 18 = .ok (.invokevirtual 38, 3) := by decide +kernel
theorem dX3_readBoth_21 : decode cX3_readBoth 21 = .ok (.ifCond .eq 25, 3) := by decide +kernel
theorem dX3_readBoth_24 : decode cX3_readBoth 24 = .ok (.aload_n 0, 1) := by decide +kernel
theorem dX3_readBoth_25 : decode cX3_readBoth 25 = .ok (.iload_n 1, 1) := by decide +kernel
theorem dX3_readBoth_26 : decode cX3_readBoth 26 = .ok (.invokevirtual 138, 3) := by decide +kernel
theorem dX3_readBoth_29 : decode cX3_readBoth 29 = .ok (.aload_n 0, 1) := by decide +kernel
theorem dX3_readBoth_30 : decode cX3_readBoth 30 = .ok (.getfield 15, 3) := by decide +kernel
theorem dX3_readBoth_33 : decode cX3_readBoth 33 = .ok (.getstatic 141, 3) := by decide +kernel
theorem dX3_readBoth_36 : decode cX3_readBoth 36 = .ok (.iconst 0, 1) := by decide +kernel
theorem dX3_readBoth_37 : decode cX3_readBoth 37 = .ok (.invokevirtual 134, 3) := by decide +kernel
theorem dX3_readBoth_40 : decode cX3_readBoth 40 = .ok (.iinc 2 1, 3) := by decide +kernel
theorem dX3_readBoth_43 : decode cX3_readBoth 43 = .ok (.goto (-36), 3) := by decide +kernel
theorem dX3_readBoth_46 : decode cX3_readBoth 46 = .ok (.return_, 1) := by decide +kernel
theorem dX3_readSingle_0 : decode cX3_readSingle 0 = .ok (.iload_n 1, 1) := by decide +kernel
theorem dX3_readSingle_1 : decode cX3_readSingle 1 = .ok (.bipush 8, 2) := by decide +kernel
theorem dX3_readSingle_3 : decode cX3_readSingle 3 = .ok (.if_icmp .ge 34, 3) := by decide +kernel
theorem dX3_readSingle_6 : decode cX3_readSingle 6 = .ok (.aload_n 0, 1) := by decide +kernel
theorem dX3_readSingle_7 : decode cX3_readSingle 7 = .ok (.getstatic 144, 3) := by decide +kernel
theorem dX3_readSingle_10 : decode cX3_readSingle 10 = .ok (.invokevirtual 38, 3) := by decide +kernel
theorem dX3_readSingle_13 : decode cX3_readSingle 13 = .ok (.ifCond .eq 24, 3) := by decide +kernel
theorem dX3_readSingle_16 : decode cX3_readSingle 16 = .ok (.aload_n 0, 1) := by decide +kernel
theorem dX3_readSingle_17 : decode cX3_readSingle 17 = .ok (.iload_n 1, 1) := by decide +kernel
theorem dX3_readSingle_18 : decode cX3_readSingle 18 = .ok (.iconst 1, 1) := by decide +kernel
theorem dX3_readSingle_19 : decode cX3_readSingle 19 = .ok (.iadd, 1) := by decide +kernel
theorem dX3_readSingle_20 : decode cX3_readSingle 20 = .ok (.invokevirtual 138, 3) := by decide +kernel
theorem dX3_readSingle_23 : decode cX3_readSingle 23 = .ok (.aload_n 0, 1) := by decide +kernel
theorem dX3_readSingle_24 : decode cX3_readSingle 24 = .ok (.getfield 15, 3) := by decide +kernel
theorem dX3_readSingle_27 : decode cX3_readSingle 27 = .ok (.getstatic 144, 3) := by decide +kernel
theorem dX3_readSingle_30 : decode cX3_readSingle 30 = .ok (.iconst 0, 1) := by decide +kernel
theorem dX3_readSingle_31 : decode cX3_readSingle 31 = .ok (.invokevirtual 134, 3) := by decide +kernel
theorem dX3_readSingle_34 : decode cX3_readSingle 34 = .ok (.goto 87, 3) := by decide +kernel
theorem dX3_readSingle_37 : decode cX3_readSingle 37 = .ok (.iload_n 1, 1) := by decide +kernel
theorem dX3_readSingle_38 : decode cX3_readSingle 38 = .ok (.bipush 8, 2) := by decide +kernel
theorem dX3_readSingle_40 : decode cX3_readSingle 40 = .ok (.if_icmp .ge 30, 3) := by decide +kernel
theorem dX3_readSingle_43 : decode cX3_readSingle 43 = .ok (.aload_n 0, 1) := by decide +kernel
theorem dX3_readSingle_44 : decode cX3_readSingle 44 = .ok (.getstatic 147, 3) := by decide +kernel
theorem dX3_readSingle_47 : decode cX3_readSingle 47 = .ok (.invokevirtual 38, 3) := by decide +kernel
theorem dX3_readSingle_50 : decode cX3_readSingle 50 = .ok (.ifCond .eq 20, 3) := by decide +kernel
theorem dX3_readSingle_53 : decode cX3_readSingle 53 = .ok (.aload_n 0, 1) := by decide +kernel
theorem dX3_readSingle_54 : decode cX3_readSingle 54 = .ok (.iload_n 1, 1) := by decide +kernel
theorem dX3_readSingle_55 : decode cX3_readSingle 55 = .ok (.iconst 1, 1) := by decide +kernel
theorem dX3_readSingle_56 : decode cX3_readSingle 56 = .ok (.iadd, 1) := by decide +kernel
theorem dX3_readSingle_57 : decode cX3_readSingle 57 = .ok (.invokevirtual 97, 3) := by decide +kernel
theorem dX3_readSingle_60 : decode cX3_readSingle 60 = .ok (.aload_n 0, 1) := by decide +kernel
theorem dX3_readSingle_61 : decode cX3_readSingle 61 = .ok (.getstatic 150, 3) := by decide +kernel
theorem dX3_readSingle_64 : decode cX3_readSingle 64 = .ok (.invokevirtual 45, 3) := by decide +kernel
theorem dX3_readSingle_67 : decode cX3_readSingle 67 = .ok (.goto 54, 3) := by decide +kernel
theorem dX3_readSingle_70 : decode cX3_readSingle 70 = .ok (.aload_n 0, 1) := by decide +kernel
theorem dX3_readSingle_71 : decode cX3_readSingle 71 = .ok (.getstatic 153, 3) := by decide +kernel
theorem dX3_readSingle_74 : decode cX3_readSingle 74 = .ok (.invokevirtual 38, 3) := by decide +kernel
theorem dX3_readSingle_77 : decode cX3_readSingle 77 = .ok (.ifCond .eq 20, 3) := by decide +kernel
theorem dX3_readSingle_80 : decode cX3_readSingle 80 = .ok (.aload_n 0, 1) := by decide +kernel
theorem dX3_readSingle_81 : decode cX3_readSingle 81 = .ok (.getfield 15, 3) := by decide +kernel
theorem dX3_readSingle_84 : decode cX3_readSingle 84 = .ok (.getstatic 153, 3) := by decide +kernel
theorem dX3_readSingle_87 : decode cX3_readSingle 87 = .ok (.aload_n 0, 1) := by decide +kernel
theorem dX3_readSingle_88 : decode cX3_readSingle 88 = .ok (.invokevirtual 73, 3) := by decide +kernel
theorem dX3_readSingle_91 : decode cX3_readSingle 91 = .ok (.invokevirtual 134, 3) := by decide +kernel
theorem dX3_readSingle_94 : decode cX3_readSingle 94 = .ok (.goto 27, 3) := by decide +kernel
theorem dX3_readSingle_97 : decode cX3_readSingle 97 = .ok (.aload_n 0, 1) := by decide +kernel
theorem dX3_readSingle_98 : decode cX3_readSingle 98 = .ok (.iload_n 1, 1) := by decide +kernel
theorem dX3_readSingle_99 : decode cX3_readSingle 99 = .ok (.invokevirtual 90, 3) := by decide +kernel
theorem dX3_readSingle_102 : decode cX3_readSingle 102 = .ok (.aload_n 0, 1) := by decide +kernel
theorem dX3_readSingle_103 : decode cX3_readSingle 103 = .ok (.invokevirtual 156, 3) := by decide +kernel
theorem dX3_readSingle_106 : decode cX3_readSingle 106 = .ok (.astore_n 2, 1) := by decide +kernel
theorem dX3_readSingle_107 : decode cX3_readSingle 107 = .ok (.aload_n 0, 1) := by decide +kernel
theorem dX3_readSingle_108 : decode cX3_readSingle 108 = .ok (.iload_n 1, 1) := by decide +kernel
theorem dX3_readSingle_109 : decode cX3_readSingle 109 = .ok (.invokevirtual 90, 3) := by decide +kernel
theorem dX3_readSingle_112 : decode cX3_readSingle 112 = .ok (.aload_n 0, 1) := by decide +kernel
theorem dX3_readSingle_113 : decode cX3_readSingle 113 = .ok (.getfield 15, 3) := by decide +kernel
theorem dX3_readSingle_116 : decode cX3_readSingle 116 = .ok (.aload_n 2, 1) := by decide +kernel
theorem dX3_readSingle_117 : decode cX3_readSingle 117 = .ok (.iconst 0, 1) := by decide +kernel
theorem dX3_readSingle_118 : decode cX3_readSingle 118 = .ok (.invokevirtual 134, 3) := by decide +kernel
theorem dX3_readSingle_121 : decode cX3_readSingle 121 = .ok (.return_, 1) := by decide +kernel
theorem dX3_readRelation_0 : decode cX3_readRelation 0 = .ok (.aload_n 0, 1) := by decide +kernel
theorem dX3_readRelation_1 : decode cX3_readRelation 1 = .ok (.getfield 9, 3) := by decide +kernel
theorem dX3_readRelation_4 : decode cX3_readRelation 4 = .ok (.aload_n 0, 1) := by decide +kernel
theorem dX3_readRelation_5 : decode cX3_readRelation 5 = .ok (.getfield 24, 3) := by decide +kernel
theorem dX3_readRelation_8 : decode cX3_readRelation 8 = .ok (.invokevirtual 104, 3) := by decide +kernel
theorem dX3_readRelation_11 : decode cX3_readRelation 11 = .ok (.astore_n 1, 1) := by decide +kernel
theorem dX3_readRelation_12 : decode cX3_readRelation 12 = .ok (.aload_n 1, 1) := by decide +kernel
theorem dX3_readRelation_13 : decode cX3_readRelation 13 = .ok (.getstatic 159, 3) := by decide +kernel
theorem dX3_readRelation_16 : decode cX3_readRelation 16 = .ok (.if_acmp .eq 31, 3) := by decide +kernel
theorem dX3_readRelation_19 : decode cX3_readRelation 19 = .ok (.aload_n 1, 1) := by decide +kernel
theorem dX3_readRelation_20 : decode cX3_readRelation 20 = .ok (.getstatic 162, 3) := by decide +kernel
theorem dX3_readRelation_23 : decode cX3_readRelation 23 = .ok (.if_acmp .eq 24, 3) := by decide +kernel
theorem dX3_readRelation_26 : decode cX3_readRelation 26 = .ok (.aload_n 1, 1) := by decide +kernel
theorem dX3_readRelation_27 : decode cX3_readRelation 27 = .ok (.getstatic 165, 3) := by decide +kernel
theorem dX3_readRelation_30 : decode cX3_readRelation 30 = .ok (.if_acmp .eq 17, 3) := by decide +kernel
theorem dX3_readRelation_33 : decode cX3_readRelation 33 = .ok (.aload_n 1, 1) := by decide +kernel
theorem dX3_readRelation_34 : decode cX3_readRelation 34 = .ok (.getstatic 168, 3) := by decide +kernel
theorem dX3_readRelation_37 : decode cX3_readRelation 37 = .ok (.if_acmp .eq 10, 3) := by decide +kernel
theorem dX3_readRelation_40 : decode cX3_readRelation 40 = .ok (.aload_n 1, 1) := by decide +kernel
theorem dX3_readRelation_41 : decode cX3_readRelation 41 = .ok (.getstatic 171, 3) := by decide +kernel
theorem dX3_readRelation_44 : decode cX3_readRelation 44 = .ok (.if_acmp .ne 7, 3) := by decide +kernel
theorem dX3_readRelation_47 : decode cX3_readRelation 47 = .ok (.iconst 1, 1) := by decide +kernel
theorem dX3_readRelation_48 : decode cX3_readRelation 48 = .ok (.goto 4, 3) := by decide +kernel
theorem dX3_readRelation_51 : decode cX3_readRelation 51 = .ok (.iconst 0, 1) := by decide +kernel
theorem dX3_readRelation_52 : decode cX3_readRelation 52 = .ok (.istore_n 2, 1) := by decide +kernel
theorem dX3_readRelation_53 : decode cX3_readRelation 53 = .ok (.aload_n 0, 1) := by decide +kernel
theorem dX3_readRelation_54 : decode cX3_readRelation 54 = .ok (.iload_n 2, 1) := by decide +kernel
theorem dX3_readRelation_55 : decode cX3_readRelation 55 = .ok (.ifCond .eq 7, 3) := by decide +kernel
theorem dX3_readRelation_58 : decode cX3_readRelation 58 = .ok (.aload_n 1, 1) := by decide +kernel
theorem dX3_readRelation_59 : decode cX3_readRelation 59 = .ok (.goto 6, 3) := by decide +kernel
theorem dX3_readRelation_62 : decode cX3_readRelation 62 = .ok (.getstatic 159, 3) := by decide +kernel
theorem dX3_readRelation_65 : decode cX3_readRelation 65 = .ok (.invokevirtual 45, 3) := by decide +kernel
theorem dX3_readRelation_68 : decode cX3_readRelation 68 = .ok (.aload_n 1, 1) := by decide +kernel
theorem dX3_readRelation_69 : decode cX3_readRelation 69 = .ok (.areturn, 1) := by decide +kernel
theorem dX3_readSum_0 : decode cX3_readSum 0 = .ok (.aload_n 0, 1) := by decide +kernel
theorem dX3_readSum_1 : decode cX3_readSum 1 = .ok (.iload_n 1, 1) := by decide +kernel
theorem dX3_readSum_2 : decode cX3_readSum 2 = .ok (.invokevirtual 174, 3) := by decide +kernel
theorem dX3_readSum_5 : decode cX3_readSum 5 = .ok (.iconst 0, 1) := by decide +kernel
theorem dX3_readSum_6 : decode cX3_readSum 6 = .ok (.istore_n 2, 1) := by decide +kernel
theorem dX3_readSum_7 : decode cX3_readSum 7 = .ok (.iload_n 2, 1) := by decide +kernel
theorem dX3_readSum_8 : decode cX3_readSum 8 = .ok (.sipush 400, 3) := by decide +kernel
theorem dX3_readSum_11 : decode cX3_readSum 11 = .ok (.if_icmp .ge 60, 3) := by decide +kernel
theorem dX3_readSum_14 : decode cX3_readSum 14 = .ok (.aload_n 0, 1) := by decide +kernel
theorem dX3_readSum_15 : decode cX3_readSum 15 = .ok (.getstatic 177, 3) := by decide +kernel
theorem dX3_readSum_18 : decode cX3_readSum 18 = .ok (.invokevirtual 58, 3) := by decide +kernel
theorem dX3_readSum_21 : decode cX3_readSum 21 = .ok (.ifCond .ne 13, 3) := by decide +kernel
theorem dX3_readSum_24 : decode cX3_readSum 24 = .ok (.aload_n 0, 1) := by decide +kernel
theorem dX3_readSum_25 : decode cX3_readSum 25 = .ok (.getstatic 180, 3) := by decide +kernel
theorem dX3_readSum_28 : decode cX3_readSum 28 = .ok (.invokevirtual 58, 3) := by decide +kernel
theorem dX3_readSum_31 : decode cX3_readSum 31 = .ok (.ifCond .eq 40, 3) := by decide +kernel
theorem dX3_readSum_34 : decode cX3_readSum 34 = .ok (.aload_n 0, 1) := by decide +kernel
theorem dX3_readSum_35 : decode cX3_readSum 35 = .ok (.getfield 9, 3) := by decide +kernel
theorem dX3_readSum_38 : decode cX3_readSum 38 = .ok (.aload_n 0, 1) := by decide +kernel
theorem dX3_readSum_39 : decode cX3_readSum 39 = .ok (.getfield 24, 3) := by decide +kernel
theorem dX3_readSum_42 : decode cX3_readSum 42 = .ok (.invokevirtual 104, 3) := by decide +kernel
theorem dX3_readSum_45 : decode cX3_readSum 45 = .ok (.astore_n 3, 1) := by decide +kernel
theorem dX3_readSum_46 : decode cX3_readSum 46 = .ok (.aload_n 0, 1) := by decide +kernel
theorem dX3_readSum_47 : decode cX3_readSum 47 = .ok (.aload_n 3, 1) := by decide +kernel
theorem dX3_readSum_48 : decode cX3_readSum 48 = .ok (.invokevirtual 45, 3) := by decide +kernel
theorem dX3_readSum_51 : decode cX3_readSum 51 = .ok (.aload_n 0, 1) := by decide +kernel
theorem dX3_readSum_52 : decode cX3_readSum 52 = .ok (.iload_n 1, 1) := by decide +kernel
theorem dX3_readSum_53 : decode cX3_readSum 53 = .ok (.invokevirtual 174, 3) := by decide +kernel
theorem dX3_readSum_56 : decode cX3_readSum 56 = .ok (.aload_n 0, 1) := by decide +kernel
theorem dX3_readSum_57 : decode cX3_readSum 57 = .ok (.getfield 15, 3) := by decide +kernel
theorem dX3_readSum_60 : decode cX3_readSum 60 = .ok (.aload_n 3, 1) := by decide +kernel
theorem dX3_readSum_61 : decode cX3_readSum 61 = .ok (.iconst 0, 1) := by decide +kernel
theorem dX3_readSum_62 : decode cX3_readSum 62 = .ok (.invokevirtual 134, 3) := by decide +kernel
theorem dX3_readSum_65 : decode cX3_readSum 65 = .ok (.iinc 2 1, 3) := by decide +kernel
theorem dX3_readSum_68 : decode cX3_readSum 68 = .ok (.goto (-61), 3) := by decide +kernel
theorem dX3_readSum_71 : decode cX3_readSum 71 = .ok (.return_, 1) := by decide +kernel
theorem dX3_readProduct_0 : decode cX3_readProduct 0 = .ok (.aload_n 0, 1) := by decide +kernel
theorem dX3_readProduct_1 : decode cX3_readProduct 1 = .ok (.iload_n 1, 1) := by decide +kernel
theorem dX3_readProduct_2 : decode cX3_readProduct 2 = .ok (.invokevirtual 183, 3) := by decide +kernel
theorem dX3_readProduct_5 : decode cX3_readProduct 5 = .ok (.iconst 0, 1) := by decide +kernel
theorem dX3_readProduct_6 : decode cX3_readProduct 6 = .ok (.istore_n 2, 1) := by decide +kernel
theorem dX3_readProduct_7 : decode cX3_readProduct 7 = .ok (.iload_n 2, 1) := by decide +kernel
theorem dX3_readProduct_8 : decode cX3_readProduct 8 = .ok (.sipush 400, 3) := by decide +kernel
theorem dX3_readProduct_11 : decode cX3_readProduct 11 = .ok (.if_icmp .ge 60, 3) := by decide +kernel
theorem dX3_readProduct_14 : decode cX3_readProduct 14 = .ok (.aload_n 0, 1) := by decide +kernel
theorem dX3_readProduct_15 : decode cX3_readProduct 15 = .ok (.getstatic 186, 3) := by decide +kernel
theorem dX3_readProduct_18 : decode cX3_readProduct 18 = .ok (.invokevirtual 58, 3) := by decide +kernel
theorem dX3_readProduct_21 : decode cX3_readProduct 21 = .ok (.ifCond .ne 13, 3) := by decide +kernel
theorem dX3_readProduct_24 : decode cX3_readProduct 24 = .ok (.aload_n 0, 1) := by decide +kernel
theorem dX3_readProduct_25 : decode cX3_readProduct 25 = .ok (.getstatic 189, 3) := by decide +kernel
theorem dX3_readProduct_28 : decode cX3_readProduct 28 = .ok (.invokevirtual 58, 3) := by decide +kernel
theorem dX3_readProduct_31 : decode cX3_readProduct 31 = .ok (.ifCond .eq 40, 3) := by decide +kernel
theorem dX3_readProduct_34 : decode cX3_readProduct 34 = .ok (.aload_n 0, 1) := by decide +kernel
theorem dX3_readProduct_35 : decode cX3_readProduct 35 = .ok (.getfield 9, 3) := by decide +kernel
theorem dX3_readProduct_38 : decode cX3_readProduct 38 = .ok (.aload_n 0, 1) := by decide +kernel
theorem dX3_readProduct_39 : decode cX3_readProduct 39 = .ok (.getfield 24, 3) := by decide +kernel
theorem dX3_readProduct_42 : decode cX3_readProduct 42 = .ok (.invokevirtual 104, 3) := by decide +kernel
theorem dX3_readProduct_45 : decode cX3_readProduct 45 = .ok (.astore_n 3, 1) := by decide +kernel
theorem dX3_readProduct_46 : decode cX3_readProduct 46 = .ok (.aload_n 0, 1) := by decide +kernel
theorem dX3_readProduct_47 : decode cX3_readProduct 47 = .ok (.aload_n 3, 1) := by decide +kernel
theorem dX3_readProduct_48 : decode cX3_readProduct 48 = .ok (.invokevirtual 45, 3) := by decide +kernel
theorem dX3_readProduct_51 : decode cX3_readProduct 51 = .ok (.aload_n 0, 1) := by decide +kernel
theorem dX3_readProduct_52 : decode cX3_readProduct 52 = .ok (.iload_n 1, 1) := by decide +kernel
theorem dX3_readProduct_53 : decode cX3_readProduct 53 = .ok (.invokevirtual 183, 3) := by decide +kernel
theorem dX3_readProduct_56 : decode cX3_readProduct 56 = .ok (.aload_n 0, 1) := by decide +kernel
theorem dX3_readProduct_57 : decode cX3_readProduct 57 = .ok (.getfield 15, 3) := by decide +kernel
theorem dX3_readProduct_60 : decode cX3_readProduct 60 = .ok (.aload_n 3, 1) := by decide +kernel
theorem dX3_readProduct_61 : decode cX3_readProduct 61 = .ok (.iconst 0, 1) := by decide +kernel
theorem dX3_readProduct_62 : decode cX3_readProduct 62 = .ok (.invokevirtual 134, 3) := by decide +kernel
theorem dX3_readProduct_65 : decode cX3_readProduct 65 = .ok (.iinc 2 1, 3) := by decide +kernel
theorem dX3_readProduct_68 : decode cX3_readProduct 68 = .ok (.goto (-61), 3) := by decide +kernel
theorem dX3_readProduct_71 : decode cX3_readProduct 71 = .ok (.return_, 1) := by decide +kernel
theorem dX3_readValue_0 : decode cX3_readValue 0 = .ok (.aload_n 0, 1) := by decide +kernel
theorem dX3_readValue_1 : decode cX3_readValue 1 = .ok (.getfield 9, 3) := by decide +kernel
theorem dX3_readValue_4 : decode cX3_readValue 4 = .ok (.aload_n 0, 1) := by decide +kernel
theorem dX3_readValue_5 : decode cX3_readValue 5 = .ok (.getfield 24, 3) := by decide +kernel
theorem dX3_readValue_8 : decode cX3_readValue 8 = .ok (.invokevirtual 104, 3) := by decide +kernel
theorem dX3_readValue_11 : decode cX3_readValue 11 = .ok (.astore_n 2, 1) := by decide +kernel
theorem dX3_readValue_12 : decode cX3_readValue 12 = .ok (.aload_n 0, 1) := by decide +kernel
theorem dX3_readValue_13 : decode cX3_readValue 13 = .ok (.getstatic 42, 3) := by decide +kernel
theorem dX3_readValue_16 : decode cX3_readValue 16 = .ok (.invokevirtual 38, 3) := by decide +kernel
theorem dX3_readValue_19 : decode cX3_readValue 19 = .ok (.ifCond .eq 27, 3) := by decide +kernel
theorem dX3_readValue_22 : decode cX3_readValue 22 = .ok (.aload_n 0, 1) := by decide +kernel
theorem dX3_readValue_23 : decode cX3_readValue 23 = .ok (.getfield 15, 3) := by decide +kernel
theorem dX3_readValue_26 : decode cX3_readValue 26 = .ok (.aload_n 2, 1) := by decide +kernel
theorem dX3_readValue_27 : decode cX3_readValue 27 = .ok (.aload_n 0, 1) := by decide +kernel
theorem dX3_readValue_28 : decode cX3_readValue 28 = .ok (.getfield 9, 3) := by decide +kernel
theorem dX3_readValue_31 : decode cX3_readValue 31 = .ok (.aload_n 0, 1) := by decide +kernel
theorem dX3_readValue_32 : decode cX3_readValue 32 = .ok (.getfield 24, 3) := by decide +kernel
theorem dX3_readValue_35 : decode cX3_readValue 35 = .ok (.iconst 1, 1) := by decide +kernel
theorem dX3_readValue_36 : decode cX3_readValue 36 = .ok (.isub, 1) := by decide +kernel
theorem dX3_readValue_37 : decode cX3_readValue 37 = .ok (.invokevirtual 192, 3) := by decide +kernel
theorem dX3_readValue_40 : decode cX3_readValue 40 = .ok (.invokevirtual 134, 3) := by decide +kernel
theorem dX3_readValue_43 : decode cX3_readValue 43 = .ok (.goto 184, 3) := by decide +kernel
theorem dX3_readValue_46 : decode cX3_readValue 46 = .ok (.aload_n 0, 1) := by decide +kernel
theorem dX3_readValue_47 : decode cX3_readValue 47 = .ok (.getstatic 196, 3) := by decide +kernel
theorem dX3_readValue_50 : decode cX3_readValue 50 = .ok (.invokevirtual 38, 3) := by decide +kernel
theorem dX3_readValue_53 : decode cX3_readValue 53 = .ok (.ifCond .ne 13, 3) := by decide +kernel
theorem dX3_readValue_56 : decode cX3_readValue 56 = .ok (.aload_n 0, 1) := by decide +kernel
theorem dX3_readValue_57 : decode cX3_readValue 57 = .ok (.getstatic 199, 3) := by decide +kernel
theorem dX3_readValue_60 : decode cX3_readValue 60 = .ok (.invokevirtual 38, 3) := by decide +kernel
theorem dX3_readValue_63 : decode cX3_readValue 63 = .ok (.ifCond .eq 15, 3) := by decide +kernel
theorem dX3_readValue_66 : decode cX3_readValue 66 = .ok (.aload_n 0, 1) := by decide +kernel
theorem dX3_readValue_67 : decode cX3_readValue 67 = .ok (.getfield 15, 3) := by decide +kernel
theorem dX3_readValue_70 : decode cX3_readValue 70 = .ok (.aload_n 2, 1) := by decide +kernel
theorem dX3_readValue_71 : decode cX3_readValue 71 = .ok (.iconst 0, 1) := by decide +kernel
theorem dX3_readValue_72 : decode cX3_readValue 72 = .ok (.invokevirtual 134, 3) := by decide +kernel
theorem dX3_readValue_75 : decode cX3_readValue 75 = .ok (.goto 152, 3) := by decide +kernel
theorem dX3_readValue_78 : decode cX3_readValue 78 = .ok (.aload_n 0, 1) := by decide +kernel
theorem dX3_readValue_79 : decode cX3_readValue 79 = .ok (.getstatic 202, 3) := by decide +kernel
theorem dX3_readValue_82 : decode cX3_readValue 82 = .ok (.invokevirtual 38, 3) := by decide +kernel
theorem dX3_readValue_85 : decode cX3_readValue 85 = .ok (.ifCond .ne 23, 3) := by decide +kernel
theorem dX3_readValue_88 : decode cX3_readValue 88 = .ok (.aload_n 0, 1) := by decide +kernel
theorem dX3_readValue_89 : decode cX3_readValue 89 = .ok (.getstatic 205, 3) := by decide +kernel
theorem dX3_readValue_92 : decode cX3_readValue 92 = .ok (.invokevirtual 38, 3) := by decide +kernel
theorem dX3_readValue_95 : decode cX3_readValue 95 = .ok (.ifCond .ne 13, 3) := by decide +kernel
theorem dX3_readValue_98 : decode cX3_readValue 98 = .ok (.aload_n 0, 1) := by decide +kernel
theorem dX3_readValue_99 : decode cX3_readValue 99 = .ok (.getstatic 208, 3) := by decide +kernel
theorem dX3_readValue_102 : decode cX3_readValue 102 = .ok (.invokevirtual 38, 3) := by decide +kernel
theorem dX3_readValue_105 : decode cX3_readValue 105 = .ok (.ifCond .eq 18, 3) := by decide +kernel
theorem dX3_readValue_108 : decode cX3_readValue 108 = .ok (.aload_n 0, 1) := by decide +kernel
theorem dX3_readValue_109 : decode cX3_readValue 109 = .ok (.getfield 15, 3) := by decide +kernel
theorem dX3_readValue_112 : decode cX3_readValue 112 = .ok (.aload_n 2, 1) := by decide +kernel
theorem dX3_readValue_113 : decode cX3_readValue 113 = .ok (.aload_n 0, 1) := by decide +kernel
theorem dX3_readValue_114 : decode cX3_readValue 114 = .ok (.invokevirtual 73, 3) := by decide +kernel
theorem dX3_readValue_117 : decode cX3_readValue 117 = .ok (.invokevirtual 134, 3) := by decide +kernel
theorem dX3_readValue_120 : decode cX3_readValue 120 = .ok (.goto 107, 3) := by decide +kernel
theorem dX3_readValue_123 : decode cX3_readValue 123 = .ok (.iload_n 1, 1) := by decide +kernel
theorem dX3_readValue_124 : decode cX3_readValue 124 = .ok (.bipush 8, 2) := by decide +kernel
theorem dX3_readValue_126 : decode cX3_readValue 126 = .ok (.if_icmp .ge 34, 3) := by decide +kernel
theorem dX3_readValue_129 : decode cX3_readValue 129 = .ok (.aload_n 0, 1) := by decide +kernel
theorem dX3_readValue_130 : decode cX3_readValue 130 = .ok (.getstatic 180, 3) := by decide +kernel
theorem dX3_readValue_133 : decode cX3_readValue 133 = .ok (.invokevirtual 38, 3) := by decide +kernel
theorem dX3_readValue_136 : decode cX3_readValue 136 = .ok (.ifCond .eq 24, 3) := by decide +kernel
theorem dX3_readValue_139 : decode cX3_readValue 139 = .ok (.aload_n 0, 1) := by decide +kernel
theorem dX3_readValue_140 : decode cX3_readValue 140 = .ok (.iload_n 1, 1) := by decide +kernel
theorem dX3_readValue_141 : decode cX3_readValue 141 = .ok (.iconst 1, 1) := by decide +kernel
theorem dX3_readValue_142 : decode cX3_readValue 142 = .ok (.iadd, 1) := by decide +kernel
theorem dX3_readValue_143 : decode cX3_readValue 143 = .ok (.invokevirtual 183, 3) := by decide +kernel
theorem dX3_readValue_146 : decode cX3_readValue 146 = .ok (.aload_n 0, 1) := by decide +kernel
theorem dX3_readValue_147 : decode cX3_readValue 147 = .ok (.getfield 15, 3) := by decide +kernel
theorem dX3_readValue_150 : decode cX3_readValue 150 = .ok (.getstatic 211, 3) := by decide +kernel
theorem dX3_readValue_153 : decode cX3_readValue 153 = .ok (.iconst 0, 1) := by decide +kernel
theorem dX3_readValue_154 : decode cX3_readValue 154 = .ok (.invokevirtual 134, 3) := by decide +kernel
theorem dX3_readValue_157 : decode cX3_readValue 157 = .ok (.goto 70, 3) := by decide +kernel
theorem dX3_readValue_160 : decode cX3_readValue 160 = .ok (.aload_n 0, 1) := by decide +kernel
theorem dX3_readValue_161 : decode cX3_readValue 161 = .ok (.getstatic 214, 3) := by decide +kernel
theorem dX3_readValue_164 : decode cX3_readValue 164 = .ok (.invokevirtual 38, 3) := by decide +kernel
theorem dX3_readValue_167 : decode cX3_readValue 167 = .ok (.ifCond .ne 13, 3) := by decide +kernel
theorem dX3_readValue_170 : decode cX3_readValue 170 = .ok (.aload_n 0, 1) := by decide +kernel
theorem dX3_readValue_171 : decode cX3_readValue 171 = .ok (.getstatic 217, 3) := by decide +kernel
theorem dX3_readValue_174 : decode cX3_readValue 174 = .ok (.invokevirtual 38, 3) := by decide +kernel
theorem dX3_readValue_177 : decode cX3_readValue 177 = .ok (.ifCond .eq 12, 3) := by decide +kernel
theorem dX3_readValue_180 : decode cX3_readValue 180 = .ok (.aload_n 0, 1) := by decide +kernel
theorem dX3_readValue_181 : decode cX3_readValue 181 = .ok (.aload_n 2, 1) := by decide +kernel
theorem dX3_readValue_182 : decode cX3_readValue 182 = .ok (.iload_n 1, 1) := by decide +kernel
theorem dX3_readValue_183 : decode cX3_readValue 183 = .ok (.invokevirtual 220, 3) := by decide +kernel
theorem dX3_readValue_186 : decode cX3_readValue 186 = .ok (.goto 41, 3) := by decide +kernel
theorem dX3_readValue_189 : decode cX3_readValue 189 = .ok (.iload_n 1, 1) := by decide +kernel
theorem dX3_readValue_190 : decode cX3_readValue 190 = .ok (.bipush 8, 2) := by decide +kernel
theorem dX3_readValue_192 : decode cX3_readValue 192 = .ok (.if_icmp .ge 30, 3) := by decide +kernel
theorem dX3_readValue_195 : decode cX3_readValue 195 = .ok (.aload_n 0, 1) := by decide +kernel
theorem dX3_readValue_196 : decode cX3_readValue 196 = .ok (.getstatic 223, 3) := by decide +kernel
theorem dX3_readValue_199 : decode cX3_readValue 199 = .ok (.invokevirtual 38, 3) := by decide +kernel
theorem dX3_readValue_202 : decode cX3_readValue 202 = .ok (.ifCond .eq 20, 3) := by decide +kernel
theorem dX3_readValue_205 : decode cX3_readValue 205 = .ok (.aload_n 0, 1) := by decide +kernel
theorem dX3_readValue_206 : decode cX3_readValue 206 = .ok (.iload_n 1, 1) := by decide +kernel
theorem dX3_readValue_207 : decode cX3_readValue 207 = .ok (.iconst 1, 1) := by decide +kernel
theorem dX3_readValue_208 : decode cX3_readValue 208 = .ok (.iadd, 1) := by decide +kernel
theorem dX3_readValue_209 : decode cX3_readValue 209 = .ok (.invokevirtual 90, 3) := by decide +kernel
theorem dX3_readValue_212 : decode cX3_readValue 212 = .ok (.aload_n 0, 1) := by decide +kernel
theorem dX3_readValue_213 : decode cX3_readValue 213 = .ok (.getstatic 226, 3) := by decide +kernel
theorem dX3_readValue_216 : decode cX3_readValue 216 = .ok (.invokevirtual 45, 3) := by decide +kernel
theorem dX3_readValue_219 : decode cX3_readValue 219 = .ok (.goto 8, 3) := by decide +kernel
theorem dX3_readValue_222 : decode cX3_readValue 222 = .ok (.aload_n 0, 1) := by decide +kernel
theorem dX3_readValue_223 : decode cX3_readValue 223 = .ok (.iconst 1, 1) := by decide +kernel
theorem dX3_readValue_224 : decode cX3_readValue 224 = .ok (.putfield 28, 3) := by decide +kernel
theorem dX3_readValue_227 : decode cX3_readValue 227 = .ok (.return_, 1) := by decide +kernel
theorem dX3_readPair_0 : decode cX3_readPair 0 = .ok (.iload_n 2, 1) := by decide +kernel
theorem dX3_readPair_1 : decode cX3_readPair 1 = .ok (.bipush 8, 2) := by decide +kernel
theorem dX3_readPair_3 : decode cX3_readPair 3 = .ok (.if_icmp .ge 53, 3) := by decide +kernel
theorem dX3_readPair_6 : decode cX3_readPair 6 = .ok (.aload_n 0, 1) := by decide +kernel
theorem dX3_readPair_7 : decode cX3_readPair 7 = .ok (.getstatic 223, 3) := by decide +kernel
theorem dX3_readPair_10 : decode cX3_readPair 10 = .ok (.invokevirtual 38, 3) := by decide +kernel
theorem dX3_readPair_13 : decode cX3_readPair 13 = .ok (.ifCond .eq 43, 3) := by decide +kernel
theorem dX3_readPair_16 : decode cX3_readPair 16 = .ok (.aload_n 0, 1) := by decide +kernel
theorem dX3_readPair_17 : decode cX3_readPair 17 = .ok (.iload_n 2, 1) := by decide +kernel
theorem dX3_readPair_18 : decode cX3_readPair 18 = .ok (.iconst 1, 1) := by decide +kernel
theorem dX3_readPair_19 : decode cX3_readPair 19 = .ok (.iadd, 1) := by decide +kernel
theorem dX3_readPair_20 : decode cX3_readPair 20 = .ok (.invokevirtual 90, 3) := by decide +kernel
theorem dX3_readPair_23 : decode cX3_readPair 23 = .ok (.aload_n 0, 1) := by decide +kernel
theorem dX3_readPair_24 : decode cX3_readPair 24 = .ok (.getstatic 77, 3) := by decide +kernel
theorem dX3_readPair_27 : decode cX3_readPair 27 = .ok (.invokevirtual 45, 3) := by decide +kernel
theorem dX3_readPair_30 : decode cX3_readPair 30 = .ok (.aload_n 0, 1) := by decide +kernel
theorem dX3_readPair_31 : decode cX3_readPair 31 = .ok (.iload_n 2, 1) := by decide +kernel
theorem dX3_readPair_32 : decode cX3_readPair 32 = .ok (.iconst 1, 1) := by decide +kernel
theorem dX3_readPair_33 : decode cX3_readPair 33 = .ok (.iadd, 1) := by decide +kernel
theorem dX3_readPair_34 : decode cX3_readPair 34 = .ok (.invokevirtual 90, 3) := by decide +kernel
theorem dX3_readPair_37 : decode cX3_readPair 37 = .ok (.aload_n 0, 1) := by decide +kernel
theorem dX3_readPair_38 : decode cX3_readPair 38 = .ok (.getstatic 226, 3) := by decide +kernel
theorem dX3_readPair_41 : decode cX3_readPair 41 = .ok (.invokevirtual 45, 3) := by decide +kernel
theorem dX3_readPair_44 : decode cX3_readPair 44 = .ok (.aload_n 0, 1) := by decide +kernel
theorem dX3_readPair_45 : decode cX3_readPair 45 = .ok (.getfield 15, 3) := by decide +kernel
theorem dX3_readPair_48 : decode cX3_readPair 48 = .ok (.aload_n 1, 1) := by decide +kernel
theorem dX3_readPair_49 : decode cX3_readPair 49 = .ok (.iconst 0, 1) := by decide +kernel
theorem dX3_readPair_50 : decode cX3_readPair 50 = .ok (.invokevirtual 134, 3) := by decide +kernel
theorem dX3_readPair_53 : decode cX3_readPair 53 = .ok (.goto 8, 3) := by decide +kernel
theorem dX3_readPair_56 : decode cX3_readPair 56 = .ok (.aload_n 0, 1) := by decide +kernel
theorem dX3_readPair_57 : decode cX3_readPair 57 = .ok (.iconst 1, 1) := by decide +kernel
theorem dX3_readPair_58 : decode cX3_readPair 58 = .ok (.putfield 28, 3) := by decide +kernel
theorem dX3_readPair_61 : decode cX3_readPair 61 = .ok (.return_, 1) := by decide +kernel
theorem dX3_sees_0 : decode cX3_sees 0 = .ok (.aload_n 0, 1) := by decide +kernel
theorem dX3_sees_1 : decode cX3_sees 1 = .ok (.getfield 28, 3) := by decide +kernel
theorem dX3_sees_4 : decode cX3_sees 4 = .ok (.ifCond .ne 22, 3) := by decide +kernel
theorem dX3_sees_7 : decode cX3_sees 7 = .ok (.aload_n 0, 1) := by decide +kernel
theorem dX3_sees_8 : decode cX3_sees 8 = .ok (.getfield 9, 3) := by decide +kernel
theorem dX3_sees_11 : decode cX3_sees 11 = .ok (.aload_n 0, 1) := by decide +kernel
theorem dX3_sees_12 : decode cX3_sees 12 = .ok (.getfield 24, 3) := by decide +kernel
theorem dX3_sees_15 : decode cX3_sees 15 = .ok (.invokevirtual 104, 3) := by decide +kernel
theorem dX3_sees_18 : decode cX3_sees 18 = .ok (.aload_n 1, 1) := by decide +kernel
theorem dX3_sees_19 : decode cX3_sees 19 = .ok (.if_acmp .ne 7, 3) := by decide +kernel
theorem dX3_sees_22 : decode cX3_sees 22 = .ok (.iconst 1, 1) := by decide +kernel
theorem dX3_sees_23 : decode cX3_sees 23 = .ok (.goto 4, 3) := by decide +kernel
theorem dX3_sees_26 : decode cX3_sees 26 = .ok (.iconst 0, 1) := by decide +kernel
theorem dX3_sees_27 : decode cX3_sees 27 = .ok (.ireturn, 1) := by decide +kernel
theorem dX3_take_0 : decode cX3_take 0 = .ok (.aload_n 0, 1) := by decide +kernel
theorem dX3_take_1 : decode cX3_take 1 = .ok (.getfield 28, 3) := by decide +kernel
theorem dX3_take_4 : decode cX3_take 4 = .ok (.ifCond .ne 22, 3) := by decide +kernel
theorem dX3_take_7 : decode cX3_take 7 = .ok (.aload_n 0, 1) := by decide +kernel
theorem dX3_take_8 : decode cX3_take 8 = .ok (.getfield 9, 3) := by decide +kernel
theorem dX3_take_11 : decode cX3_take 11 = .ok (.aload_n 0, 1) := by decide +kernel
theorem dX3_take_12 : decode cX3_take 12 = .ok (.getfield 24, 3) := by decide +kernel
theorem dX3_take_15 : decode cX3_take 15 = .ok (.invokevirtual 104, 3) := by decide +kernel
theorem dX3_take_18 : decode cX3_take 18 = .ok (.aload_n 1, 1) := by decide +kernel
theorem dX3_take_19 : decode cX3_take 19 = .ok (.if_acmp .ne 7, 3) := by decide +kernel
theorem dX3_take_22 : decode cX3_take 22 = .ok (.iconst 1, 1) := by decide +kernel
theorem dX3_take_23 : decode cX3_take 23 = .ok (.goto 4, 3) := by decide +kernel
theorem dX3_take_26 : decode cX3_take 26 = .ok (.iconst 0, 1) := by decide +kernel
theorem dX3_take_27 : decode cX3_take 27 = .ok (.istore_n 2, 1) := by decide +kernel
theorem dX3_take_28 : decode cX3_take 28 = .ok (.iload_n 2, 1) := by decide +kernel
theorem dX3_take_29 : decode cX3_take 29 = .ok (.ifCond .eq 13, 3) := by decide +kernel
theorem dX3_take_32 : decode cX3_take 32 = .ok (.aload_n 0, 1) := by decide +kernel
theorem dX3_take_33 : decode cX3_take 33 = .ok (.dup, 1) := by decide +kernel
theorem dX3_take_34 : decode cX3_take 34 = .ok (.getfield 24, 3) := by decide +kernel
theorem dX3_take_37 : decode cX3_take 37 = .ok (.iconst 1, 1) := by decide +kernel
theorem dX3_take_38 : decode cX3_take 38 = .ok (.iadd, 1) := by decide +kernel
theorem dX3_take_39 : decode cX3_take 39 = .ok (.putfield 24, 3) := by decide +kernel
theorem dX3_take_42 : decode cX3_take 42 = .ok (.iload_n 2, 1) := by decide +kernel
theorem dX3_take_43 : decode cX3_take 43 = .ok (.ireturn, 1) := by decide +kernel
theorem dX3_need_0 : decode cX3_need 0 = .ok (.aload_n 0, 1) := by decide +kernel
theorem dX3_need_1 : decode cX3_need 1 = .ok (.getfield 28, 3) := by decide +kernel
theorem dX3_need_4 : decode cX3_need 4 = .ok (.ifCond .ne 31, 3) := by decide +kernel
theorem dX3_need_7 : decode cX3_need 7 = .ok (.aload_n 0, 1) := by decide +kernel
theorem dX3_need_8 : decode cX3_need 8 = .ok (.getfield 9, 3) := by decide +kernel
theorem dX3_need_11 : decode cX3_need 11 = .ok (.aload_n 0, 1) := by decide +kernel
theorem dX3_need_12 : decode cX3_need 12 = .ok (.getfield 24, 3) := by decide +kernel
theorem dX3_need_15 : decode cX3_need 15 = .ok (.invokevirtual 104, 3) := by decide +kernel
theorem dX3_need_18 : decode cX3_need 18 = .ok (.aload_n 1, 1) := by decide +kernel
theorem dX3_need_19 : decode cX3_need 19 = .ok (.if_acmp .ne 16, 3) := by decide +kernel
theorem dX3_need_22 : decode cX3_need 22 = .ok (.aload_n 0, 1) := by decide +kernel
theorem dX3_need_23 : decode cX3_need 23 = .ok (.dup, 1) := by decide +kernel
theorem dX3_need_24 : decode cX3_need 24 = .ok (.getfield 24, 3) := by decide +kernel
theorem dX3_need_27 : decode cX3_need 27 = .ok (.iconst 1, 1) := by decide +kernel
theorem dX3_need_28 : decode cX3_need 28 = .ok (.iadd, 1) := by decide +kernel
theorem dX3_need_29 : decode cX3_need 29 = .ok (.putfield 24, 3) := by decide +kernel
theorem dX3_need_32 : decode cX3_need 32 = .ok (.goto 8, 3) := by decide +kernel
theorem dX3_need_35 : decode cX3_need 35 = .ok (.aload_n 0, 1) := by decide +kernel
theorem dX3_need_36 : decode cX3_need 36 = .ok (.iconst 1, 1) := by decide +kernel
theorem dX3_need_37 : decode cX3_need 37 = .ok (.putfield 28, 3) := by decide +kernel
theorem dX3_need_40 : decode cX3_need 40 = .ok (.return_, 1) := by decide +kernel
theorem dX4_init_0 : decode cX4_init 0 = .ok (.aload_n 0, 1) := by decide +kernel
theorem dX4_init_1 : decode cX4_init 1 = .ok (.invokespecial 3, 3) := by decide +kernel
theorem dX4_init_4 : decode cX4_init 4 = .ok (.aload_n 0, 1) := by decide +kernel
theorem dX4_init_5 : decode cX4_init 5 = .ok (.bipush 81, 2) := by decide +kernel
theorem dX4_init_7 : decode cX4_init 7 = .ok (.newarray .int, 2) := by decide +kernel
theorem dX4_init_9 : decode cX4_init 9 = .ok (.putfield 9, 3) := by decide +kernel
theorem dX4_init_12 : decode cX4_init 12 = .ok (.aload_n 0, 1) := by decide +kernel
theorem dX4_init_13 : decode cX4_init 13 = .ok (.bipush 81, 2) := by decide +kernel
theorem dX4_init_15 : decode cX4_init 15 = .ok (.newarray .int, 2) := by decide +kernel
theorem dX4_init_17 : decode cX4_init 17 = .ok (.putfield 15, 3) := by decide +kernel
theorem dX4_init_20 : decode cX4_init 20 = .ok (.aload_n 0, 1) := by decide +kernel
theorem dX4_init_21 : decode cX4_init 21 = .ok (.aload_n 1, 1) := by decide +kernel
theorem dX4_init_22 : decode cX4_init 22 = .ok (.putfield 18, 3) := by decide +kernel
theorem dX4_init_25 : decode cX4_init 25 = .ok (.return_, 1) := by decide +kernel
theorem dX4_sizeAt_0 : decode cX4_sizeAt 0 = .ok (.aload_n 0, 1) := by decide +kernel
theorem dX4_sizeAt_1 : decode cX4_sizeAt 1 = .ok (.getfield 9, 3) := by decide +kernel
theorem dX4_sizeAt_4 : decode cX4_sizeAt 4 = .ok (.iconst 0, 1) := by decide +kernel
theorem dX4_sizeAt_5 : decode cX4_sizeAt 5 = .ok (.invokestatic 22, 3) := by decide +kernel
theorem dX4_sizeAt_8 : decode cX4_sizeAt 8 = .ok (.aload_n 0, 1) := by decide +kernel
theorem dX4_sizeAt_9 : decode cX4_sizeAt 9 = .ok (.iload_n 1, 1) := by decide +kernel
theorem dX4_sizeAt_10 : decode cX4_sizeAt 10 = .ok (.invokevirtual 28, 3) := by decide +kernel
theorem dX4_sizeAt_13 : decode cX4_sizeAt 13 = .ok (.aload_n 0, 1) := by decide +kernel
theorem dX4_sizeAt_14 : decode cX4_sizeAt 14 = .ok (.getfield 32, 3) := by decide +kernel
theorem dX4_sizeAt_17 : decode cX4_sizeAt 17 = .ok (.ireturn, 1) := by decide +kernel
theorem dX4_shoresAt_0 : decode cX4_shoresAt 0 = .ok (.aload_n 0, 1) := by decide +kernel
theorem dX4_shoresAt_1 : decode cX4_shoresAt 1 = .ok (.getfield 9, 3) := by decide +kernel
theorem dX4_shoresAt_4 : decode cX4_shoresAt 4 = .ok (.iconst 0, 1) := by decide +kernel
theorem dX4_shoresAt_5 : decode cX4_shoresAt 5 = .ok (.invokestatic 22, 3) := by decide +kernel
theorem dX4_shoresAt_8 : decode cX4_shoresAt 8 = .ok (.aload_n 0, 1) := by decide +kernel
theorem dX4_shoresAt_9 : decode cX4_shoresAt 9 = .ok (.iload_n 1, 1) := by decide +kernel
theorem dX4_shoresAt_10 : decode cX4_shoresAt 10 = .ok (.invokevirtual 28, 3) := by decide +kernel
theorem dX4_shoresAt_13 : decode cX4_shoresAt 13 = .ok (.aload_n 0, 1) := by decide +kernel
theorem dX4_shoresAt_14 : decode cX4_shoresAt 14 = .ok (.getfield 18, 3) := by decide +kernel
theorem dX4_shoresAt_17 : decode cX4_shoresAt 17 = .ok (.iload_n 1, 1) := by decide +kernel
theorem dX4_shoresAt_18 : decode cX4_shoresAt 18 = .ok (.invokevirtual 36, 3) := by decide +kernel
theorem dX4_shoresAt_21 : decode cX4_shoresAt 21 = .ok (.iconst 1, 1) := by decide +kernel
theorem dX4_shoresAt_22 : decode cX4_shoresAt 22 = .ok (.isub, 1) := by decide +kernel
theorem dX4_shoresAt_23 : decode cX4_shoresAt 23 = .ok (.istore_n 2, 1) := by decide +kernel
theorem dX4_shoresAt_24 : decode cX4_shoresAt 24 = .ok (.iconst 0, 1) := by decide +kernel
theorem dX4_shoresAt_25 : decode cX4_shoresAt 25 = .ok (.istore_n 3, 1) := by decide +kernel
theorem dX4_shoresAt_26 : decode cX4_shoresAt 26 = .ok (.iconst 0, 1) := by decide +kernel
theorem dX4_shoresAt_27 : decode cX4_shoresAt 27 = .ok (.istore 4, 2) := by decide +kernel
theorem dX4_shoresAt_29 : decode cX4_shoresAt 29 = .ok (.iload 4, 2) := by decide +kernel
theorem dX4_shoresAt_31 : decode cX4_shoresAt 31 = .ok (.iconst 2, 1) := by decide +kernel
theorem dX4_shoresAt_32 : decode cX4_shoresAt 32 = .ok (.if_icmp .ge 22, 3) := by decide +kernel
theorem dX4_shoresAt_35 : decode cX4_shoresAt 35 = .ok (.aload_n 0, 1) := by decide +kernel
theorem dX4_shoresAt_36 : decode cX4_shoresAt 36 = .ok (.iload_n 2, 1) := by decide +kernel
theorem dX4_shoresAt_37 : decode cX4_shoresAt 37 = .ok (.iload 4, 2) := by decide +kernel
theorem dX4_shoresAt_39 : decode cX4_shoresAt 39 = .ok (.invokevirtual 42, 3) := by decide +kernel
theorem dX4_shoresAt_42 : decode cX4_shoresAt 42 = .ok (.ifCond .eq 6, 3) := by decide +kernel
theorem dX4_shoresAt_45 : decode cX4_shoresAt 45 = .ok (.iinc 3 1, 3) := by decide +kernel
theorem dX4_shoresAt_48 : decode cX4_shoresAt 48 = .ok (.iinc 4 1, 3) := by decide +kernel
theorem dX4_shoresAt_51 : decode cX4_shoresAt 51 = .ok (.goto (-22), 3) := by decide +kernel
theorem dX4_shoresAt_54 : decode cX4_shoresAt 54 = .ok (.iload_n 3, 1) := by decide +kernel
theorem dX4_shoresAt_55 : decode cX4_shoresAt 55 = .ok (.ireturn, 1) := by decide +kernel
theorem dX4_hasGatheredAt_0 : decode cX4_hasGatheredAt 0 = .ok (.iconst 0, 1) := by decide +kernel
theorem dX4_hasGatheredAt_1 : decode cX4_hasGatheredAt 1 = .ok (.istore_n 3, 1) := by decide +kernel
theorem dX4_hasGatheredAt_2 : decode cX4_hasGatheredAt 2 = .ok (.iload_n 3, 1) := by decide +kernel
theorem dX4_hasGatheredAt_3 : decode cX4_hasGatheredAt 3 = .ok (.aload_n 0, 1) := by decide +kernel
theorem dX4_hasGatheredAt_4 : decode cX4_hasGatheredAt 4 = .ok (.getfield 32, 3) := by decide +kernel
theorem dX4_hasGatheredAt_7 : decode cX4_hasGatheredAt 7 = .ok (.if_icmp .ge 38, 3) := by decide +kernel
theorem dX4_hasGatheredAt_10 : decode cX4_hasGatheredAt 10 = .ok (.iload_n 3, 1) := by decide +kernel
theorem dX4_hasGatheredAt_11 : decode cX4_hasGatheredAt 11 = .ok (.aload_n 0, 1) := by decide +kernel
theorem dX4_hasGatheredAt_12 : decode cX4_hasGatheredAt 12 = .ok (.getfield 15, 3) := by decide +kernel
theorem dX4_hasGatheredAt_15 : decode cX4_hasGatheredAt 15 = .ok (.arraylength, 1) := by decide +kernel
theorem dX4_hasGatheredAt_16 : decode cX4_hasGatheredAt 16 = .ok (.if_icmp .ge 29, 3) := by decide +kernel
theorem dX4_hasGatheredAt_19 : decode cX4_hasGatheredAt 19 = .ok (.aload_n 0, 1) := by decide +kernel
theorem dX4_hasGatheredAt_20 : decode cX4_hasGatheredAt 20 = .ok (.getfield 18, 3) := by decide +kernel
theorem dX4_hasGatheredAt_23 : decode cX4_hasGatheredAt 23 = .ok (.iload_n 1, 1) := by decide +kernel
theorem dX4_hasGatheredAt_24 : decode cX4_hasGatheredAt 24 = .ok (.iload_n 2, 1) := by decide +kernel
theorem dX4_hasGatheredAt_25 : decode cX4_hasGatheredAt 25 = .ok (.aload_n 0, 1) := by decide +kernel
theorem dX4_hasGatheredAt_26 : decode cX4_hasGatheredAt 26 = .ok (.getfield 15, 3) := by decide +kernel
theorem dX4_hasGatheredAt_29 : decode cX4_hasGatheredAt 29 = .ok (.iload_n 3, 1) := by decide +kernel
theorem dX4_hasGatheredAt_30 : decode cX4_hasGatheredAt 30 = .ok (.iaload, 1) := by decide +kernel
theorem dX4_hasGatheredAt_31 : decode cX4_hasGatheredAt 31 = .ok (.invokevirtual 46, 3) := by decide +kernel
theorem dX4_hasGatheredAt_34 : decode cX4_hasGatheredAt 34 = .ok (.ifCond .eq 5, 3) := by decide +kernel
theorem dX4_hasGatheredAt_37 : decode cX4_hasGatheredAt 37 = .ok (.iconst 1, 1) := by decide +kernel
theorem dX4_hasGatheredAt_38 : decode cX4_hasGatheredAt 38 = .ok (.ireturn, 1) := by decide +kernel
theorem dX4_hasGatheredAt_39 : decode cX4_hasGatheredAt 39 = .ok (.iinc 3 1, 3) := by decide +kernel
theorem dX4_hasGatheredAt_42 : decode cX4_hasGatheredAt 42 = .ok (.goto (-40), 3) := by decide +kernel
theorem dX4_hasGatheredAt_45 : decode cX4_hasGatheredAt 45 = .ok (.iconst 0, 1) := by decide +kernel
theorem dX4_hasGatheredAt_46 : decode cX4_hasGatheredAt 46 = .ok (.ireturn, 1) := by decide +kernel
theorem dX4_look_0 : decode cX4_look 0 = .ok (.aload_n 0, 1) := by decide +kernel
theorem dX4_look_1 : decode cX4_look 1 = .ok (.getfield 9, 3) := by decide +kernel
theorem dX4_look_4 : decode cX4_look 4 = .ok (.iconst 0, 1) := by decide +kernel
theorem dX4_look_5 : decode cX4_look 5 = .ok (.invokestatic 22, 3) := by decide +kernel
theorem dX4_look_8 : decode cX4_look 8 = .ok (.aload_n 0, 1) := by decide +kernel
theorem dX4_look_9 : decode cX4_look 9 = .ok (.iconst 0, 1) := by decide +kernel
theorem dX4_look_10 : decode cX4_look 10 = .ok (.putfield 50, 3) := by decide +kernel
theorem dX4_look_13 : decode cX4_look 13 = .ok (.aload_n 0, 1) := by decide +kernel
theorem dX4_look_14 : decode cX4_look 14 = .ok (.iconst 0, 1) := by decide +kernel
theorem dX4_look_15 : decode cX4_look 15 = .ok (.putfield 53, 3) := by decide +kernel
theorem dX4_look_18 : decode cX4_look 18 = .ok (.iconst 0, 1) := by decide +kernel
theorem dX4_look_19 : decode cX4_look 19 = .ok (.istore_n 2, 1) := by decide +kernel
theorem dX4_look_20 : decode cX4_look 20 = .ok (.iload_n 2, 1) := by decide +kernel
theorem dX4_look_21 : decode cX4_look 21 = .ok (.aload_n 0, 1) := by decide +kernel
theorem dX4_look_22 : decode cX4_look 22 = .ok (.getfield 18, 3) := by decide +kernel
theorem dX4_look_25 : decode cX4_look 25 = .ok (.invokevirtual 56, 3) := by decide +kernel
theorem dX4_look_28 : decode cX4_look 28 = .ok (.if_icmp .ge 71, 3) := by decide +kernel
theorem dX4_look_31 : decode cX4_look 31 = .ok (.iload_n 2, 1) := by decide +kernel
theorem dX4_look_32 : decode cX4_look 32 = .ok (.aload_n 0, 1) := by decide +kernel
theorem dX4_look_33 : decode cX4_look 33 = .ok (.getfield 9, 3) := by decide +kernel
theorem dX4_look_36 : decode cX4_look 36 = .ok (.arraylength, 1) := by decide +kernel
theorem dX4_look_37 : decode cX4_look 37 = .ok (.if_icmp .ge 62, 3) := by decide +kernel
theorem dX4_look_40 : decode cX4_look 40 = .ok (.aload_n 0, 1) := by decide +kernel
theorem dX4_look_41 : decode cX4_look 41 = .ok (.getfield 18, 3) := by decide +kernel
theorem dX4_look_44 : decode cX4_look 44 = .ok (.iload_n 2, 1) := by decide +kernel
theorem dX4_look_45 : decode cX4_look 45 = .ok (.invokevirtual 36, 3) := by decide +kernel
theorem dX4_look_48 : decode cX4_look 48 = .ok (.iload_n 1, 1) := by decide +kernel
theorem dX4_look_49 : decode cX4_look 49 = .ok (.iconst 1, 1) := by decide +kernel
theorem dX4_look_50 : decode cX4_look 50 = .ok (.iadd, 1) := by decide +kernel
theorem dX4_look_51 : decode cX4_look 51 = .ok (.if_icmp .ne 42, 3) := by decide +kernel
theorem dX4_look_54 : decode cX4_look 54 = .ok (.aload_n 0, 1) := by decide +kernel
theorem dX4_look_55 : decode cX4_look 55 = .ok (.getfield 9, 3) := by decide +kernel
theorem dX4_look_58 : decode cX4_look 58 = .ok (.iload_n 2, 1) := by decide +kernel
theorem dX4_look_59 : decode cX4_look 59 = .ok (.iaload, 1) := by decide +kernel
theorem dX4_look_60 : decode cX4_look 60 = .ok (.ifCond .ne 33, 3) := by decide +kernel
theorem dX4_look_63 : decode cX4_look 63 = .ok (.aload_n 0, 1) := by decide +kernel
theorem dX4_look_64 : decode cX4_look 64 = .ok (.iload_n 2, 1) := by decide +kernel
theorem dX4_look_65 : decode cX4_look 65 = .ok (.invokevirtual 28, 3) := by decide +kernel
theorem dX4_look_68 : decode cX4_look 68 = .ok (.aload_n 0, 1) := by decide +kernel
theorem dX4_look_69 : decode cX4_look 69 = .ok (.dup, 1) := by decide +kernel
theorem dX4_look_70 : decode cX4_look 70 = .ok (.getfield 50, 3) := by decide +kernel
theorem dX4_look_73 : decode cX4_look 73 = .ok (.iconst 1, 1) := by decide +kernel
theorem dX4_look_74 : decode cX4_look 74 = .ok (.iadd, 1) := by decide +kernel
theorem dX4_look_75 : decode cX4_look 75 = .ok (.putfield 50, 3) := by decide +kernel
theorem dX4_look_78 : decode cX4_look 78 = .ok (.aload_n 0, 1) := by decide +kernel
theorem dX4_look_79 : decode cX4_look 79 = .ok (.aload_n 0, 1) := by decide +kernel
theorem dX4_look_80 : decode cX4_look 80 = .ok (.getfield 53, 3) := by decide +kernel
theorem dX4_look_83 : decode cX4_look 83 = .ok (.aload_n 0, 1) := by decide +kernel
theorem dX4_look_84 : decode cX4_look 84 = .ok (.getfield 32, 3) := by decide +kernel
theorem dX4_look_87 : decode cX4_look 87 = .ok (.invokestatic 60, 3) := by decide +kernel
theorem dX4_look_90 : decode cX4_look 90 = .ok (.putfield 53, 3) := by decide +kernel
theorem dX4_look_93 : decode cX4_look 93 = .ok (.iinc 2 1, 3) := by decide +kernel
theorem dX4_look_96 : decode cX4_look 96 = .ok (.goto (-76), 3) := by decide +kernel
theorem dX4_look_99 : decode cX4_look 99 = .ok (.return_, 1) := by decide +kernel
theorem dX4_count_0 : decode cX4_count 0 = .ok (.aload_n 0, 1) := by decide +kernel
theorem dX4_count_1 : decode cX4_count 1 = .ok (.getfield 50, 3) := by decide +kernel
theorem dX4_count_4 : decode cX4_count 4 = .ok (.ireturn, 1) := by decide +kernel
theorem dX4_greatest_0 : decode cX4_greatest 0 = .ok (.aload_n 0, 1) := by decide +kernel
theorem dX4_greatest_1 : decode cX4_greatest 1 = .ok (.getfield 53, 3) := by decide +kernel
theorem dX4_greatest_4 : decode cX4_greatest 4 = .ok (.ireturn, 1) := by decide +kernel
theorem dX4_gather_0 : decode cX4_gather 0 = .ok (.aload_n 0, 1) := by decide +kernel
theorem dX4_gather_1 : decode cX4_gather 1 = .ok (.getfield 18, 3) := by decide +kernel
theorem dX4_gather_4 : decode cX4_gather 4 = .ok (.iload_n 1, 1) := by decide +kernel
theorem dX4_gather_5 : decode cX4_gather 5 = .ok (.invokevirtual 36, 3) := by decide +kernel
theorem dX4_gather_8 : decode cX4_gather 8 = .ok (.istore_n 2, 1) := by decide +kernel
theorem dX4_gather_9 : decode cX4_gather 9 = .ok (.aload_n 0, 1) := by decide +kernel
theorem dX4_gather_10 : decode cX4_gather 10 = .ok (.iconst 0, 1) := by decide +kernel
theorem dX4_gather_11 : decode cX4_gather 11 = .ok (.putfield 32, 3) := by decide +kernel
theorem dX4_gather_14 : decode cX4_gather 14 = .ok (.aload_n 0, 1) := by decide +kernel
theorem dX4_gather_15 : decode cX4_gather 15 = .ok (.iload_n 1, 1) := by decide +kernel
theorem dX4_gather_16 : decode cX4_gather 16 = .ok (.invokevirtual 66, 3) := by decide +kernel
theorem dX4_gather_19 : decode cX4_gather 19 = .ok (.iconst 0, 1) := by decide +kernel
theorem dX4_gather_20 : decode cX4_gather 20 = .ok (.istore_n 3, 1) := by decide +kernel
theorem dX4_gather_21 : decode cX4_gather 21 = .ok (.iload_n 3, 1) := by decide +kernel
theorem dX4_gather_22 : decode cX4_gather 22 = .ok (.aload_n 0, 1) := by decide +kernel
theorem dX4_gather_23 : decode cX4_gather 23 = .ok (.getfield 32, 3) := by decide +kernel
theorem dX4_gather_26 : decode cX4_gather 26 = .ok (.if_icmp .ge 70, 3) := by decide +kernel
theorem dX4_gather_29 : decode cX4_gather 29 = .ok (.iload_n 3, 1) := by decide +kernel
theorem dX4_gather_30 : decode cX4_gather 30 = .ok (.aload_n 0, 1) := by decide +kernel
theorem dX4_gather_31 : decode cX4_gather 31 = .ok (.getfield 15, 3) := by decide +kernel
theorem dX4_gather_34 : decode cX4_gather 34 = .ok (.arraylength, 1) := by decide +kernel
theorem dX4_gather_35 : decode cX4_gather 35 = .ok (.if_icmp .ge 61, 3) := by decide +kernel
theorem dX4_gather_38 : decode cX4_gather 38 = .ok (.iconst 0, 1) := by decide +kernel
theorem dX4_gather_39 : decode cX4_gather 39 = .ok (.istore 4, 2) := by decide +kernel
theorem dX4_gather_41 : decode cX4_gather 41 = .ok (.iload 4, 2) := by decide +kernel
theorem dX4_gather_43 : decode cX4_gather 43 = .ok (.bipush 6, 2) := by decide +kernel
theorem dX4_gather_45 : decode cX4_gather 45 = .ok (.if_icmp .ge 45, 3) := by decide +kernel
theorem dX4_gather_48 : decode cX4_gather 48 = .ok (.aload_n 0, 1) := by decide +kernel
theorem dX4_gather_49 : decode cX4_gather 49 = .ok (.getfield 18, 3) := by decide +kernel
theorem dX4_gather_52 : decode cX4_gather 52 = .ok (.aload_n 0, 1) := by decide +kernel
theorem dX4_gather_53 : decode cX4_gather 53 = .ok (.getfield 15, 3) := by decide +kernel
theorem dX4_gather_56 : decode cX4_gather 56 = .ok (.iload_n 3, 1) := by decide +kernel
theorem dX4_gather_57 : decode cX4_gather 57 = .ok (.iaload, 1) := by decide +kernel
theorem dX4_gather_58 : decode cX4_gather 58 = .ok (.iload 4, 2) := by decide +kernel
theorem dX4_gather_60 : decode cX4_gather 60 = .ok (.invokevirtual 69, 3) := by decide +kernel
theorem dX4_gather_63 : decode cX4_gather 63 = .ok (.istore 5, 2) := by decide +kernel
theorem dX4_gather_65 : decode cX4_gather 65 = .ok (.aload_n 0, 1) := by decide +kernel
theorem dX4_gather_66 : decode cX4_gather 66 = .ok (.getfield 18, 3) := by decide +kernel
theorem dX4_gather_69 : decode cX4_gather 69 = .ok (.iload 5, 2) := by decide +kernel
theorem dX4_gather_71 : decode cX4_gather 71 = .ok (.invokevirtual 36, 3) := by decide +kernel
theorem dX4_gather_74 : decode cX4_gather 74 = .ok (.iload_n 2, 1) := by decide +kernel
theorem dX4_gather_75 : decode cX4_gather 75 = .ok (.if_icmp .ne 9, 3) := by decide +kernel
theorem dX4_gather_78 : decode cX4_gather 78 = .ok (.aload_n 0, 1) := by decide +kernel
theorem dX4_gather_79 : decode cX4_gather 79 = .ok (.iload 5, 2) := by decide +kernel
theorem dX4_gather_81 : decode cX4_gather 81 = .ok (.invokevirtual 66, 3) := by decide +kernel
theorem dX4_gather_84 : decode cX4_gather 84 = .ok (.iinc 4 1, 3) := by decide +kernel
theorem dX4_gather_87 : decode cX4_gather 87 = .ok (.goto (-46), 3) := by decide +kernel
theorem dX4_gather_90 : decode cX4_gather 90 = .ok (.iinc 3 1, 3) := by decide +kernel
theorem dX4_gather_93 : decode cX4_gather 93 = .ok (.goto (-72), 3) := by decide +kernel
theorem dX4_gather_96 : decode cX4_gather 96 = .ok (.return_, 1) := by decide +kernel
theorem dX4_join_0 : decode cX4_join 0 = .ok (.iload_n 1, 1) := by decide +kernel
theorem dX4_join_1 : decode cX4_join 1 = .ok (.ifCond .lt 25, 3) := by decide +kernel
theorem dX4_join_4 : decode cX4_join 4 = .ok (.iload_n 1, 1) := by decide +kernel
theorem dX4_join_5 : decode cX4_join 5 = .ok (.aload_n 0, 1) := by decide +kernel
theorem dX4_join_6 : decode cX4_join 6 = .ok (.getfield 9, 3) := by decide +kernel
theorem dX4_join_9 : decode cX4_join 9 = .ok (.arraylength, 1) := by decide +kernel
theorem dX4_join_10 : decode cX4_join 10 = .ok (.if_icmp .ge 16, 3) := by decide +kernel
theorem dX4_join_13 : decode cX4_join 13 = .ok (.aload_n 0, 1) := by decide +kernel
theorem dX4_join_14 : decode cX4_join 14 = .ok (.getfield 9, 3) := by decide +kernel
theorem dX4_join_17 : decode cX4_join 17 = .ok (.iload_n 1, 1) := by decide +kernel
theorem dX4_join_18 : decode cX4_join 18 = .ok (.iaload, 1) := by decide +kernel
theorem dX4_join_19 : decode cX4_join 19 = .ok (.ifCond .ne 7, 3) := by decide +kernel
theorem dX4_join_22 : decode cX4_join 22 = .ok (.iconst 1, 1) := by decide +kernel
theorem dX4_join_23 : decode cX4_join 23 = .ok (.goto 4, 3) := by decide +kernel
theorem dX4_join_26 : decode cX4_join 26 = .ok (.iconst 0, 1) := by decide +kernel
theorem dX4_join_27 : decode cX4_join 27 = .ok (.istore_n 2, 1) := by decide +kernel
theorem dX4_join_28 : decode cX4_join 28 = .ok (.iload_n 2, 1) := by decide +kernel
theorem dX4_join_29 : decode cX4_join 29 = .ok (.ifCond .eq 49, 3) := by decide +kernel
theorem dX4_join_32 : decode cX4_join 32 = .ok (.aload_n 0, 1) := by decide +kernel
theorem dX4_join_33 : decode cX4_join 33 = .ok (.getfield 32, 3) := by decide +kernel
theorem dX4_join_36 : decode cX4_join 36 = .ok (.ifCond .lt 42, 3) := by decide +kernel
theorem dX4_join_39 : decode cX4_join 39 = .ok (.aload_n 0, 1) := by decide +kernel
theorem dX4_join_40 : decode cX4_join 40 = .ok (.getfield 32, 3) := by decide +kernel
theorem dX4_join_43 : decode cX4_join 43 = .ok (.aload_n 0, 1) := by decide +kernel
theorem dX4_join_44 : decode cX4_join 44 = .ok (.getfield 15, 3) := by decide +kernel
theorem dX4_join_47 : decode cX4_join 47 = .ok (.arraylength, 1) := by decide +kernel
theorem dX4_join_48 : decode cX4_join 48 = .ok (.if_icmp .ge 30, 3) := by decide +kernel
theorem dX4_join_51 : decode cX4_join 51 = .ok (.aload_n 0, 1) := by decide +kernel
theorem dX4_join_52 : decode cX4_join 52 = .ok (.getfield 9, 3) := by decide +kernel
theorem dX4_join_55 : decode cX4_join 55 = .ok (.iload_n 1, 1) := by decide +kernel
theorem dX4_join_56 : decode cX4_join 56 = .ok (.iconst 1, 1) := by decide +kernel
theorem dX4_join_57 : decode cX4_join 57 = .ok (.iastore, 1) := by decide +kernel
theorem dX4_join_58 : decode cX4_join 58 = .ok (.aload_n 0, 1) := by decide +kernel
theorem dX4_join_59 : decode cX4_join 59 = .ok (.getfield 15, 3) := by decide +kernel
theorem dX4_join_62 : decode cX4_join 62 = .ok (.aload_n 0, 1) := by decide +kernel
theorem dX4_join_63 : decode cX4_join 63 = .ok (.getfield 32, 3) := by decide +kernel
theorem dX4_join_66 : decode cX4_join 66 = .ok (.iload_n 1, 1) := by decide +kernel
theorem dX4_join_67 : decode cX4_join 67 = .ok (.iastore, 1) := by decide +kernel
theorem dX4_join_68 : decode cX4_join 68 = .ok (.aload_n 0, 1) := by decide +kernel
theorem dX4_join_69 : decode cX4_join 69 = .ok (.dup, 1) := by decide +kernel
theorem dX4_join_70 : decode cX4_join 70 = .ok (.getfield 32, 3) := by decide +kernel
theorem dX4_join_73 : decode cX4_join 73 = .ok (.iconst 1, 1) := by decide +kernel
theorem dX4_join_74 : decode cX4_join 74 = .ok (.iadd, 1) := by decide +kernel
theorem dX4_join_75 : decode cX4_join 75 = .ok (.putfield 32, 3) := by decide +kernel
theorem dX4_join_78 : decode cX4_join 78 = .ok (.return_, 1) := by decide +kernel
theorem dX5_isWrittenAt_0 : decode cX5_isWrittenAt 0 = .ok (.aload_n 0, 1) := by decide +kernel
theorem dX5_isWrittenAt_1 : decode cX5_isWrittenAt 1 = .ok (.getfield 149, 3) := by decide +kernel
theorem dX5_isWrittenAt_4 : decode cX5_isWrittenAt 4 = .ok (.invokevirtual 153, 3) := by decide +kernel
theorem dX5_isWrittenAt_7 : decode cX5_isWrittenAt 7 = .ok (.iload_n 3, 1) := by decide +kernel
theorem dX5_isWrittenAt_8 : decode cX5_isWrittenAt 8 = .ok (.iload_n 2, 1) := by decide +kernel
theorem dX5_isWrittenAt_9 : decode cX5_isWrittenAt 9 = .ok (.isub, 1) := by decide +kernel
theorem dX5_isWrittenAt_10 : decode cX5_isWrittenAt 10 = .ok (.if_icmp .eq 5, 3) := by decide +kernel
theorem dX5_isWrittenAt_13 : decode cX5_isWrittenAt 13 = .ok (.iconst 0, 1) := by decide +kernel
theorem dX5_isWrittenAt_14 : decode cX5_isWrittenAt 14 = .ok (.ireturn, 1) := by decide +kernel
theorem dX5_isWrittenAt_15 : decode cX5_isWrittenAt 15 = .ok (.iconst 0, 1) := by decide +kernel
theorem dX5_isWrittenAt_16 : decode cX5_isWrittenAt 16 = .ok (.istore 4, 2) := by decide +kernel
theorem dX5_isWrittenAt_18 : decode cX5_isWrittenAt 18 = .ok (.iload 4, 2) := by decide +kernel
theorem dX5_isWrittenAt_20 : decode cX5_isWrittenAt 20 = .ok (.aload_n 0, 1) := by decide +kernel
theorem dX5_isWrittenAt_21 : decode cX5_isWrittenAt 21 = .ok (.getfield 149, 3) := by decide +kernel
theorem dX5_isWrittenAt_24 : decode cX5_isWrittenAt 24 = .ok (.invokevirtual 153, 3) := by decide +kernel
theorem dX5_isWrittenAt_27 : decode cX5_isWrittenAt 27 = .ok (.if_icmp .ge 31, 3) := by decide +kernel
theorem dX5_isWrittenAt_30 : decode cX5_isWrittenAt 30 = .ok (.aload_n 0, 1) := by decide +kernel
theorem dX5_isWrittenAt_31 : decode cX5_isWrittenAt 31 = .ok (.getfield 149, 3) := by decide +kernel
theorem dX5_isWrittenAt_34 : decode cX5_isWrittenAt 34 = .ok (.iload 4, 2) := by decide +kernel
theorem dX5_isWrittenAt_36 : decode cX5_isWrittenAt 36 = .ok (.invokevirtual 159, 3) := by decide +kernel
theorem dX5_isWrittenAt_39 : decode cX5_isWrittenAt 39 = .ok (.aload_n 1, 1) := by decide +kernel
theorem dX5_isWrittenAt_40 : decode cX5_isWrittenAt 40 = .ok (.iload_n 2, 1) := by decide +kernel
theorem dX5_isWrittenAt_41 : decode cX5_isWrittenAt 41 = .ok (.iload 4, 2) := by decide +kernel
theorem dX5_isWrittenAt_43 : decode cX5_isWrittenAt 43 = .ok (.iadd, 1) := by decide +kernel
theorem dX5_isWrittenAt_44 : decode cX5_isWrittenAt 44 = .ok (.invokevirtual 163, 3) := by decide +kernel
theorem dX5_isWrittenAt_47 : decode cX5_isWrittenAt 47 = .ok (.if_icmp .eq 5, 3) := by decide +kernel
theorem dX5_isWrittenAt_50 : decode cX5_isWrittenAt 50 = .ok (.iconst 0, 1) := by decide +kernel
theorem dX5_isWrittenAt_51 : decode cX5_isWrittenAt 51 = .ok (.ireturn, 1) := by decide +kernel
theorem dX5_isWrittenAt_52 : decode cX5_isWrittenAt 52 = .ok (.iinc 4 1, 3) := by decide +kernel
theorem dX5_isWrittenAt_55 : decode cX5_isWrittenAt 55 = .ok (.goto (-37), 3) := by decide +kernel
theorem dX5_isWrittenAt_58 : decode cX5_isWrittenAt 58 = .ok (.iconst 1, 1) := by decide +kernel
theorem dX5_isWrittenAt_59 : decode cX5_isWrittenAt 59 = .ok (.ireturn, 1) := by decide +kernel
theorem dX6_init_0 : decode cX6_init 0 = .ok (.aload_n 0, 1) := by decide +kernel
theorem dX6_init_1 : decode cX6_init 1 = .ok (.invokespecial 3, 3) := by decide +kernel
theorem dX6_init_4 : decode cX6_init 4 = .ok (.aload_n 0, 1) := by decide +kernel
theorem dX6_init_5 : decode cX6_init 5 = .ok (.bipush 81, 2) := by decide +kernel
theorem dX6_init_7 : decode cX6_init 7 = .ok (.newarray .int, 2) := by decide +kernel
theorem dX6_init_9 : decode cX6_init 9 = .ok (.putfield 9, 3) := by decide +kernel
theorem dX6_init_12 : decode cX6_init 12 = .ok (.aload_n 0, 1) := by decide +kernel
theorem dX6_init_13 : decode cX6_init 13 = .ok (.aload_n 1, 1) := by decide +kernel
theorem dX6_init_14 : decode cX6_init 14 = .ok (.putfield 15, 3) := by decide +kernel
theorem dX6_init_17 : decode cX6_init 17 = .ok (.return_, 1) := by decide +kernel
theorem dX6_columns_0 : decode cX6_columns 0 = .ok (.aload_n 0, 1) := by decide +kernel
theorem dX6_columns_1 : decode cX6_columns 1 = .ok (.getfield 19, 3) := by decide +kernel
theorem dX6_columns_4 : decode cX6_columns 4 = .ok (.ireturn, 1) := by decide +kernel
theorem dX6_rows_0 : decode cX6_rows 0 = .ok (.aload_n 0, 1) := by decide +kernel
theorem dX6_rows_1 : decode cX6_rows 1 = .ok (.getfield 23, 3) := by decide +kernel
theorem dX6_rows_4 : decode cX6_rows 4 = .ok (.ireturn, 1) := by decide +kernel
theorem dX6_ownerAt_0 : decode cX6_ownerAt 0 = .ok (.iload_n 1, 1) := by decide +kernel
theorem dX6_ownerAt_1 : decode cX6_ownerAt 1 = .ok (.ifCond .lt 21, 3) := by decide +kernel
theorem dX6_ownerAt_4 : decode cX6_ownerAt 4 = .ok (.iload_n 1, 1) := by decide +kernel
theorem dX6_ownerAt_5 : decode cX6_ownerAt 5 = .ok (.aload_n 0, 1) := by decide +kernel
theorem dX6_ownerAt_6 : decode cX6_ownerAt 6 = .ok (.getfield 9, 3) := by decide +kernel
theorem dX6_ownerAt_9 : decode cX6_ownerAt 9 = .ok (.arraylength, 1) := by decide +kernel
theorem dX6_ownerAt_10 : decode cX6_ownerAt 10 = .ok (.if_icmp .ge 12, 3) := by decide +kernel
theorem dX6_ownerAt_13 : decode cX6_ownerAt 13 = .ok (.aload_n 0, 1) := by decide +kernel
theorem dX6_ownerAt_14 : decode cX6_ownerAt 14 = .ok (.getfield 9, 3) := by decide +kernel
theorem dX6_ownerAt_17 : decode cX6_ownerAt 17 = .ok (.iload_n 1, 1) := by decide +kernel
theorem dX6_ownerAt_18 : decode cX6_ownerAt 18 = .ok (.iaload, 1) := by decide +kernel
theorem dX6_ownerAt_19 : decode cX6_ownerAt 19 = .ok (.goto 4, 3) := by decide +kernel
theorem dX6_ownerAt_22 : decode cX6_ownerAt 22 = .ok (.iconst 0, 1) := by decide +kernel
theorem dX6_ownerAt_23 : decode cX6_ownerAt 23 = .ok (.ireturn, 1) := by decide +kernel
theorem dX6_wrongToken_0 : decode cX6_wrongToken 0 = .ok (.aload_n 0, 1) := by decide +kernel
theorem dX6_wrongToken_1 : decode cX6_wrongToken 1 = .ok (.getfield 26, 3) := by decide +kernel
theorem dX6_wrongToken_4 : decode cX6_wrongToken 4 = .ok (.ireturn, 1) := by decide +kernel
theorem dX6_firstError_0 : decode cX6_firstError 0 = .ok (.aload_n 0, 1) := by decide +kernel
theorem dX6_firstError_1 : decode cX6_firstError 1 = .ok (.bipush 7, 2) := by decide +kernel
theorem dX6_firstError_3 : decode cX6_firstError 3 = .ok (.putfield 19, 3) := by decide +kernel
theorem dX6_firstError_6 : decode cX6_firstError 6 = .ok (.aload_n 0, 1) := by decide +kernel
theorem dX6_firstError_7 : decode cX6_firstError 7 = .ok (.bipush 7, 2) := by decide +kernel
theorem dX6_firstError_9 : decode cX6_firstError 9 = .ok (.putfield 23, 3) := by decide +kernel
theorem dX6_firstError_12 : decode cX6_firstError 12 = .ok (.aload_n 0, 1) := by decide +kernel
theorem dX6_firstError_13 : decode cX6_firstError 13 = .ok (.iconst 0, 1) := by decide +kernel
theorem dX6_firstError_14 : decode cX6_firstError 14 = .ok (.putfield 29, 3) := by decide +kernel
theorem dX6_firstError_17 : decode cX6_firstError 17 = .ok (.aload_n 0, 1) := by decide +kernel
theorem dX6_firstError_18 : decode cX6_firstError 18 = .ok (.getfield 9, 3) := by decide +kernel
theorem dX6_firstError_21 : decode cX6_firstError 21 = .ok (.iconst 0, 1) := by decide +kernel
theorem dX6_firstError_22 : decode cX6_firstError 22 = .ok (.invokestatic 32, 3) := by decide +kernel
theorem dX6_firstError_25 : decode cX6_firstError 25 = .ok (.iconst 0, 1) := by decide +kernel
theorem dX6_firstError_26 : decode cX6_firstError 26 = .ok (.istore_n 1, 1) := by decide +kernel
theorem dX6_firstError_27 : decode cX6_firstError 27 = .ok (.iload_n 1, 1) := by decide +kernel
theorem dX6_firstError_28 : decode cX6_firstError 28 = .ok (.aload_n 0, 1) := by decide +kernel
theorem dX6_firstError_29 : decode cX6_firstError 29 = .ok (.getfield 15, 3) := by decide +kernel
theorem dX6_firstError_32 : decode cX6_firstError 32 = .ok (.invokevirtual 38, 3) := by decide +kernel
theorem dX6_firstError_35 : decode cX6_firstError 35 = .ok (.if_icmp .ge 26, 3) := by decide +kernel
theorem dX6_firstError_38 : decode cX6_firstError 38 = .ok (.aload_n 0, 1) := by decide +kernel
theorem dX6_firstError_39 : decode cX6_firstError 39 = .ok (.iload_n 1, 1) := by decide +kernel
theorem dX6_firstError_40 : decode cX6_firstError 40 = .ok (.invokevirtual 44, 3) := by decide +kernel
theorem dX6_firstError_43 : decode cX6_firstError 43 = .ok (.istore_n 2, 1) := by decide +kernel
theorem dX6_firstError_44 : decode cX6_firstError 44 = .ok (.iload_n 2, 1) := by decide +kernel
theorem dX6_firstError_45 : decode cX6_firstError 45 = .ok (.ifCond .eq 10, 3) := by decide +kernel
theorem dX6_firstError_48 : decode cX6_firstError 48 = .ok (.aload_n 0, 1) := by decide +kernel
theorem dX6_firstError_49 : decode cX6_firstError 49 = .ok (.iload_n 1, 1) := by decide +kernel
theorem dX6_firstError_50 : decode cX6_firstError 50 = .ok (.putfield 26, 3) := by decide +kernel
theorem dX6_firstError_53 : decode cX6_firstError 53 = .ok (.iload_n 2, 1) := by decide +kernel
theorem dX6_firstError_54 : decode cX6_firstError 54 = .ok (.ireturn, 1) := by decide +kernel
theorem dX6_firstError_55 : decode cX6_firstError 55 = .ok (.iinc 1 1, 3) := by decide +kernel
theorem dX6_firstError_58 : decode cX6_firstError 58 = .ok (.goto (-31), 3) := by decide +kernel
theorem dX6_firstError_61 : decode cX6_firstError 61 = .ok (.aload_n 0, 1) := by decide +kernel
theorem dX6_firstError_62 : decode cX6_firstError 62 = .ok (.iconst (-1), 1) := by decide +kernel
theorem dX6_firstError_63 : decode cX6_firstError 63 = .ok (.putfield 26, 3) := by decide +kernel
theorem dX6_firstError_66 : decode cX6_firstError 66 = .ok (.iconst 0, 1) := by decide +kernel
theorem dX6_firstError_67 : decode cX6_firstError 67 = .ok (.ireturn, 1) := by decide +kernel
theorem dX6_errorAtToken_0 : decode cX6_errorAtToken 0 = .ok (.aload_n 0, 1) := by decide +kernel
theorem dX6_errorAtToken_1 : decode cX6_errorAtToken 1 = .ok (.getfield 15, 3) := by decide +kernel
theorem dX6_errorAtToken_4 : decode cX6_errorAtToken 4 = .ok (.iload_n 1, 1) := by decide +kernel
theorem dX6_errorAtToken_5 : decode cX6_errorAtToken 5 = .ok (.invokevirtual 48, 3) := by decide +kernel
theorem dX6_errorAtToken_8 : decode cX6_errorAtToken 8 = .ok (.getstatic 52, 3) := by decide +kernel
theorem dX6_errorAtToken_11 : decode cX6_errorAtToken 11 = .ok (.if_acmp .ne 28, 3) := by decide +kernel
theorem dX6_errorAtToken_14 : decode cX6_errorAtToken 14 = .ok (.aload_n 0, 1) := by decide +kernel
theorem dX6_errorAtToken_15 : decode cX6_errorAtToken 15 = .ok (.dup, 1) := by decide +kernel
theorem dX6_errorAtToken_16 : decode cX6_errorAtToken 16 = .ok (.getfield 29, 3) := by decide +kernel
theorem dX6_errorAtToken_19 : decode cX6_errorAtToken 19 = .ok (.iconst 1, 1) := by decide +kernel
theorem dX6_errorAtToken_20 : decode cX6_errorAtToken 20 = .ok (.iadd, 1) := by decide +kernel
theorem dX6_errorAtToken_21 : decode cX6_errorAtToken 21 = .ok (.putfield 29, 3) := by decide +kernel
theorem dX6_errorAtToken_24 : decode cX6_errorAtToken 24 = .ok (.aload_n 0, 1) := by decide +kernel
theorem dX6_errorAtToken_25 : decode cX6_errorAtToken 25 = .ok (.getfield 29, 3) := by decide +kernel
theorem dX6_errorAtToken_28 : decode cX6_errorAtToken 28 = .ok (.bipush 16, 2) := by decide +kernel
theorem dX6_errorAtToken_30 : decode cX6_errorAtToken 30 = .ok (.if_icmp .le 7, 3) := by decide +kernel
theorem dX6_errorAtToken_33 : decode cX6_errorAtToken 33 = .ok (.iconst 4, 1) := by decide +kernel
theorem dX6_errorAtToken_34 : decode cX6_errorAtToken 34 = .ok (.goto 4, 3) := by decide +kernel
theorem dX6_errorAtToken_37 : decode cX6_errorAtToken 37 = .ok (.iconst 0, 1) := by decide +kernel
theorem dX6_errorAtToken_38 : decode cX6_errorAtToken 38 = .ok (.ireturn, 1) := by decide +kernel
theorem dX6_errorAtToken_39 : decode cX6_errorAtToken 39 = .ok (.aload_n 0, 1) := by decide +kernel
theorem dX6_errorAtToken_40 : decode cX6_errorAtToken 40 = .ok (.getfield 15, 3) := by decide +kernel
theorem dX6_errorAtToken_43 : decode cX6_errorAtToken 43 = .ok (.iload_n 1, 1) := by decide +kernel
theorem dX6_errorAtToken_44 : decode cX6_errorAtToken 44 = .ok (.invokevirtual 48, 3) := by decide +kernel
theorem dX6_errorAtToken_47 : decode cX6_errorAtToken 47 = .ok (.getstatic 58, 3) := by decide +kernel
theorem dX6_errorAtToken_50 : decode cX6_errorAtToken 50 = .ok (.if_acmp .ne 9, 3) := by decide +kernel
theorem dX6_errorAtToken_53 : decode cX6_errorAtToken 53 = .ok (.aload_n 0, 1) := by decide +kernel
theorem dX6_errorAtToken_54 : decode cX6_errorAtToken 54 = .ok (.iload_n 1, 1) := by decide +kernel
theorem dX6_errorAtToken_55 : decode cX6_errorAtToken 55 = .ok (.invokevirtual 61, 3) := by decide +kernel
theorem dX6_errorAtToken_58 : decode cX6_errorAtToken 58 = .ok (.ireturn, 1) := by decide +kernel
theorem dX6_errorAtToken_59 : decode cX6_errorAtToken 59 = .ok (.iconst 0, 1) := by decide +kernel
theorem dX6_errorAtToken_60 : decode cX6_errorAtToken 60 = .ok (.ireturn, 1) := by decide +kernel
theorem dX6_errorAtNumber_0 : decode cX6_errorAtNumber 0 = .ok (.aload_n 0, 1) := by decide +kernel
theorem dX6_errorAtNumber_1 : decode cX6_errorAtNumber 1 = .ok (.getfield 15, 3) := by decide +kernel
theorem dX6_errorAtNumber_4 : decode cX6_errorAtNumber 4 = .ok (.iload_n 1, 1) := by decide +kernel
theorem dX6_errorAtNumber_5 : decode cX6_errorAtNumber 5 = .ok (.invokevirtual 64, 3) := by decide +kernel
theorem dX6_errorAtNumber_8 : decode cX6_errorAtNumber 8 = .ok (.istore_n 2, 1) := by decide +kernel
theorem dX6_errorAtNumber_9 : decode cX6_errorAtNumber 9 = .ok (.aload_n 0, 1) := by decide +kernel
theorem dX6_errorAtNumber_10 : decode cX6_errorAtNumber 10 = .ok (.getfield 15, 3) := by decide +kernel
theorem dX6_errorAtNumber_13 : decode cX6_errorAtNumber 13 = .ok (.iload_n 1, 1) := by decide +kernel
theorem dX6_errorAtNumber_14 : decode cX6_errorAtNumber 14 = .ok (.iconst 1, 1) := by decide +kernel
theorem dX6_errorAtNumber_15 : decode cX6_errorAtNumber 15 = .ok (.isub, 1) := by decide +kernel
theorem dX6_errorAtNumber_16 : decode cX6_errorAtNumber 16 = .ok (.invokevirtual 48, 3) := by decide +kernel
theorem dX6_errorAtNumber_19 : decode cX6_errorAtNumber 19 = .ok (.getstatic 67, 3) := by decide +kernel
theorem dX6_errorAtNumber_22 : decode cX6_errorAtNumber 22 = .ok (.if_acmp .ne 21, 3) := by decide +kernel
theorem dX6_errorAtNumber_25 : decode cX6_errorAtNumber 25 = .ok (.aload_n 0, 1) := by decide +kernel
theorem dX6_errorAtNumber_26 : decode cX6_errorAtNumber 26 = .ok (.iload_n 2, 1) := by decide +kernel
theorem dX6_errorAtNumber_27 : decode cX6_errorAtNumber 27 = .ok (.putfield 19, 3) := by decide +kernel
theorem dX6_errorAtNumber_30 : decode cX6_errorAtNumber 30 = .ok (.iload_n 2, 1) := by decide +kernel
theorem dX6_errorAtNumber_31 : decode cX6_errorAtNumber 31 = .ok (.invokestatic 70, 3) := by decide +kernel
theorem dX6_errorAtNumber_34 : decode cX6_errorAtNumber 34 = .ok (.ifCond .eq 7, 3) := by decide +kernel
theorem dX6_errorAtNumber_37 : decode cX6_errorAtNumber 37 = .ok (.iconst 0, 1) := by decide +kernel
theorem dX6_errorAtNumber_38 : decode cX6_errorAtNumber 38 = .ok (.goto 4, 3) := by decide +kernel
theorem dX6_errorAtNumber_41 : decode cX6_errorAtNumber 41 = .ok (.iconst 5, 1) := by decide +kernel
theorem dX6_errorAtNumber_42 : decode cX6_errorAtNumber 42 = .ok (.ireturn, 1) := by decide +kernel
theorem dX6_errorAtNumber_43 : decode cX6_errorAtNumber 43 = .ok (.aload_n 0, 1) := by decide +kernel
theorem dX6_errorAtNumber_44 : decode cX6_errorAtNumber 44 = .ok (.getfield 15, 3) := by decide +kernel
theorem dX6_errorAtNumber_47 : decode cX6_errorAtNumber 47 = .ok (.iload_n 1, 1) := by decide +kernel
theorem dX6_errorAtNumber_48 : decode cX6_errorAtNumber 48 = .ok (.iconst 1, 1) := by decide +kernel
theorem dX6_errorAtNumber_49 : decode cX6_errorAtNumber 49 = .ok (.isub, 1) := by decide +kernel
theorem dX6_errorAtNumber_50 : decode cX6_errorAtNumber 50 = .ok (.invokevirtual 48, 3) := by decide +kernel
theorem dX6_errorAtNumber_53 : decode cX6_errorAtNumber 53 = .ok (.getstatic 74, 3) := by decide +kernel
theorem dX6_errorAtNumber_56 : decode cX6_errorAtNumber 56 = .ok (.if_acmp .ne 21, 3) := by decide +kernel
theorem dX6_errorAtNumber_59 : decode cX6_errorAtNumber 59 = .ok (.aload_n 0, 1) := by decide +kernel
theorem dX6_errorAtNumber_60 : decode cX6_errorAtNumber 60 = .ok (.iload_n 2, 1) := by decide +kernel
theorem dX6_errorAtNumber_61 : decode cX6_errorAtNumber 61 = .ok (.putfield 23, 3) := by decide +kernel
theorem dX6_errorAtNumber_64 : decode cX6_errorAtNumber 64 = .ok (.iload_n 2, 1) := by decide +kernel
theorem dX6_errorAtNumber_65 : decode cX6_errorAtNumber 65 = .ok (.invokestatic 70, 3) := by decide +kernel
theorem dX6_errorAtNumber_68 : decode cX6_errorAtNumber 68 = .ok (.ifCond .eq 7, 3) := by decide +kernel
theorem dX6_errorAtNumber_71 : decode cX6_errorAtNumber 71 = .ok (.iconst 0, 1) := by decide +kernel
theorem dX6_errorAtNumber_72 : decode cX6_errorAtNumber 72 = .ok (.goto 4, 3) := by decide +kernel
theorem dX6_errorAtNumber_75 : decode cX6_errorAtNumber 75 = .ok (.iconst 5, 1) := by decide +kernel
theorem dX6_errorAtNumber_76 : decode cX6_errorAtNumber 76 = .ok (.ireturn, 1) := by decide +kernel
theorem dX6_errorAtNumber_77 : decode cX6_errorAtNumber 77 = .ok (.aload_n 0, 1) := by decide +kernel
theorem dX6_errorAtNumber_78 : decode cX6_errorAtNumber 78 = .ok (.getfield 15, 3) := by decide +kernel
theorem dX6_errorAtNumber_81 : decode cX6_errorAtNumber 81 = .ok (.iload_n 1, 1) := by decide +kernel
theorem dX6_errorAtNumber_82 : decode cX6_errorAtNumber 82 = .ok (.iconst 2, 1) := by decide +kernel
theorem dX6_errorAtNumber_83 : decode cX6_errorAtNumber 83 = .ok (.isub, 1) := by decide +kernel
theorem dX6_errorAtNumber_84 : decode cX6_errorAtNumber 84 = .ok (.invokevirtual 48, 3) := by decide +kernel
theorem dX6_errorAtNumber_87 : decode cX6_errorAtNumber 87 = .ok (.getstatic 77, 3) := by decide +kernel
theorem dX6_errorAtNumber_90 : decode cX6_errorAtNumber 90 = .ok (.if_acmp .ne 17, 3) := by decide +kernel
theorem dX6_errorAtNumber_93 : decode cX6_errorAtNumber 93 = .ok (.iload_n 2, 1) := by decide +kernel
theorem dX6_errorAtNumber_94 : decode cX6_errorAtNumber 94 = .ok (.aload_n 0, 1) := by decide +kernel
theorem dX6_errorAtNumber_95 : decode cX6_errorAtNumber 95 = .ok (.getfield 19, 3) := by decide +kernel
theorem dX6_errorAtNumber_98 : decode cX6_errorAtNumber 98 = .ok (.if_icmp .ge 7, 3) := by decide +kernel
theorem dX6_errorAtNumber_101 : decode cX6_errorAtNumber 101 = .ok (.iconst 0, 1) := by decide +kernel
theorem dX6_errorAtNumber_102 : decode cX6_errorAtNumber 102 = .ok (.goto 4, 3) := by decide +kernel
theorem dX6_errorAtNumber_105 : decode cX6_errorAtNumber 105 = .ok (.iconst 5, 1) := by decide +kernel
theorem dX6_errorAtNumber_106 : decode cX6_errorAtNumber 106 = .ok (.ireturn, 1) := by decide +kernel
theorem dX6_errorAtNumber_107 : decode cX6_errorAtNumber 107 = .ok (.aload_n 0, 1) := by decide +kernel
theorem dX6_errorAtNumber_108 : decode cX6_errorAtNumber 108 = .ok (.getfield 15, 3) := by decide +kernel
theorem dX6_errorAtNumber_111 : decode cX6_errorAtNumber 111 = .ok (.iload_n 1, 1) := by decide +kernel
theorem dX6_errorAtNumber_112 : decode cX6_errorAtNumber 112 = .ok (.iconst 4, 1) := by decide +kernel
theorem dX6_errorAtNumber_113 : decode cX6_errorAtNumber 113 = .ok (.isub, 1) := by decide +kernel
theorem dX6_errorAtNumber_114 : decode cX6_errorAtNumber 114 = .ok (.invokevirtual 48, 3) := by decide +kernel
theorem dX6_errorAtNumber_117 : decode cX6_errorAtNumber 117 = .ok (.getstatic 77, 3) := by decide +kernel
theorem dX6_errorAtNumber_120 : decode cX6_errorAtNumber 120 = .ok (.if_acmp .ne 42, 3) := by decide +kernel
theorem dX6_errorAtNumber_123 : decode cX6_errorAtNumber 123 = .ok (.aload_n 0, 1) := by decide +kernel
theorem dX6_errorAtNumber_124 : decode cX6_errorAtNumber 124 = .ok (.getfield 15, 3) := by decide +kernel
theorem dX6_errorAtNumber_127 : decode cX6_errorAtNumber 127 = .ok (.iload_n 1, 1) := by decide +kernel
theorem dX6_errorAtNumber_128 : decode cX6_errorAtNumber 128 = .ok (.iconst 3, 1) := by decide +kernel
theorem dX6_errorAtNumber_129 : decode cX6_errorAtNumber 129 = .ok (.isub, 1) := by decide +kernel
theorem dX6_errorAtNumber_130 : decode cX6_errorAtNumber 130 = .ok (.invokevirtual 48, 3) := by decide +kernel
theorem dX6_errorAtNumber_133 : decode cX6_errorAtNumber 133 = .ok (.getstatic 80, 3) := by decide +kernel
theorem dX6_errorAtNumber_136 : decode cX6_errorAtNumber 136 = .ok (.if_acmp .ne 7, 3) := by decide +kernel
theorem dX6_errorAtNumber_139 : decode cX6_errorAtNumber 139 = .ok (.iconst 0, 1) := by decide +kernel
theorem dX6_errorAtNumber_140 : decode cX6_errorAtNumber 140 = .ok (.goto 4, 3) := by decide +kernel
theorem dX6_errorAtNumber_143 : decode cX6_errorAtNumber 143 = .ok (.iconst 1, 1) := by decide +kernel
theorem dX6_errorAtNumber_144 : decode cX6_errorAtNumber 144 = .ok (.istore_n 3, 1) := by decide +kernel
theorem dX6_errorAtNumber_145 : decode cX6_errorAtNumber 145 = .ok (.aload_n 0, 1) := by decide +kernel
theorem dX6_errorAtNumber_146 : decode cX6_errorAtNumber 146 = .ok (.iload_n 3, 1) := by decide +kernel
theorem dX6_errorAtNumber_147 : decode cX6_errorAtNumber 147 = .ok (.aload_n 0, 1) := by decide +kernel
theorem dX6_errorAtNumber_148 : decode cX6_errorAtNumber 148 = .ok (.getfield 15, 3) := by decide +kernel
theorem dX6_errorAtNumber_151 : decode cX6_errorAtNumber 151 = .ok (.iload_n 1, 1) := by decide +kernel
theorem dX6_errorAtNumber_152 : decode cX6_errorAtNumber 152 = .ok (.iconst 2, 1) := by decide +kernel
theorem dX6_errorAtNumber_153 : decode cX6_errorAtNumber 153 = .ok (.isub, 1) := by decide +kernel
theorem dX6_errorAtNumber_154 : decode cX6_errorAtNumber 154 = .ok (.invokevirtual 64, 3) := by decide +kernel
theorem dX6_errorAtNumber_157 : decode cX6_errorAtNumber 157 = .ok (.iload_n 2, 1) := by decide +kernel
theorem dX6_errorAtNumber_158 : decode cX6_errorAtNumber 158 = .ok (.invokevirtual 83, 3) := by decide +kernel
theorem dX6_errorAtNumber_161 : decode cX6_errorAtNumber 161 = .ok (.ireturn, 1) := by decide +kernel
theorem dX6_errorAtNumber_162 : decode cX6_errorAtNumber 162 = .ok (.iconst 0, 1) := by decide +kernel
theorem dX6_errorAtNumber_163 : decode cX6_errorAtNumber 163 = .ok (.ireturn, 1) := by decide +kernel
theorem dX6_errorOfStone_0 : decode cX6_errorOfStone 0 = .ok (.iload_n 3, 1) := by decide +kernel
theorem dX6_errorOfStone_1 : decode cX6_errorOfStone 1 = .ok (.aload_n 0, 1) := by decide +kernel
theorem dX6_errorOfStone_2 : decode cX6_errorOfStone 2 = .ok (.getfield 23, 3) := by decide +kernel
theorem dX6_errorOfStone_5 : decode cX6_errorOfStone 5 = .ok (.if_icmp .lt 5, 3) := by decide +kernel
theorem dX6_errorOfStone_8 : decode cX6_errorOfStone 8 = .ok (.iconst 5, 1) := by decide +kernel
theorem dX6_errorOfStone_9 : decode cX6_errorOfStone 9 = .ok (.ireturn, 1) := by decide +kernel
theorem dX6_errorOfStone_10 : decode cX6_errorOfStone 10 = .ok (.aload_n 0, 1) := by decide +kernel
theorem dX6_errorOfStone_11 : decode cX6_errorOfStone 11 = .ok (.getfield 19, 3) := by decide +kernel
theorem dX6_errorOfStone_14 : decode cX6_errorOfStone 14 = .ok (.iload_n 3, 1) := by decide +kernel
theorem dX6_errorOfStone_15 : decode cX6_errorOfStone 15 = .ok (.imul, 1) := by decide +kernel
theorem dX6_errorOfStone_16 : decode cX6_errorOfStone 16 = .ok (.iload_n 2, 1) := by decide +kernel
theorem dX6_errorOfStone_17 : decode cX6_errorOfStone 17 = .ok (.iadd, 1) := by decide +kernel
theorem dX6_errorOfStone_18 : decode cX6_errorOfStone 18 = .ok (.istore 4, 2) := by decide +kernel
theorem dX6_errorOfStone_20 : decode cX6_errorOfStone 20 = .ok (.aload_n 0, 1) := by decide +kernel
theorem dX6_errorOfStone_21 : decode cX6_errorOfStone 21 = .ok (.iload 4, 2) := by decide +kernel
theorem dX6_errorOfStone_23 : decode cX6_errorOfStone 23 = .ok (.invokevirtual 87, 3) := by decide +kernel
theorem dX6_errorOfStone_26 : decode cX6_errorOfStone 26 = .ok (.ifCond .eq 5, 3) := by decide +kernel
theorem dX6_errorOfStone_29 : decode cX6_errorOfStone 29 = .ok (.iconst 2, 1) := by decide +kernel
theorem dX6_errorOfStone_30 : decode cX6_errorOfStone 30 = .ok (.ireturn, 1) := by decide +kernel
theorem dX6_errorOfStone_31 : decode cX6_errorOfStone 31 = .ok (.iload 4, 2) := by decide +kernel
theorem dX6_errorOfStone_33 : decode cX6_errorOfStone 33 = .ok (.ifCond .lt 23, 3) := by decide +kernel
theorem dX6_errorOfStone_36 : decode cX6_errorOfStone 36 = .ok (.iload 4, 2) := by decide +kernel
theorem dX6_errorOfStone_38 : decode cX6_errorOfStone 38 = .ok (.aload_n 0, 1) := by decide +kernel
theorem dX6_errorOfStone_39 : decode cX6_errorOfStone 39 = .ok (.getfield 9, 3) := by decide +kernel
theorem dX6_errorOfStone_42 : decode cX6_errorOfStone 42 = .ok (.arraylength, 1) := by decide +kernel
theorem dX6_errorOfStone_43 : decode cX6_errorOfStone 43 = .ok (.if_icmp .ge 13, 3) := by decide +kernel
theorem dX6_errorOfStone_46 : decode cX6_errorOfStone 46 = .ok (.aload_n 0, 1) := by decide +kernel
theorem dX6_errorOfStone_47 : decode cX6_errorOfStone 47 = .ok (.getfield 9, 3) := by decide +kernel
theorem dX6_errorOfStone_50 : decode cX6_errorOfStone 50 = .ok (.iload 4, 2) := by decide +kernel
theorem dX6_errorOfStone_52 : decode cX6_errorOfStone 52 = .ok (.iload_n 1, 1) := by decide +kernel
theorem dX6_errorOfStone_53 : decode cX6_errorOfStone 53 = .ok (.iconst 1, 1) := by decide +kernel
theorem dX6_errorOfStone_54 : decode cX6_errorOfStone 54 = .ok (.iadd, 1) := by decide +kernel
theorem dX6_errorOfStone_55 : decode cX6_errorOfStone 55 = .ok (.iastore, 1) := by decide +kernel
theorem dX6_errorOfStone_56 : decode cX6_errorOfStone 56 = .ok (.iconst 0, 1) := by decide +kernel
theorem dX6_errorOfStone_57 : decode cX6_errorOfStone 57 = .ok (.ireturn, 1) := by decide +kernel
theorem dX6_isLength_0 : decode cX6_isLength 0 = .ok (.iload_n 0, 1) := by decide +kernel
theorem dX6_isLength_1 : decode cX6_isLength 1 = .ok (.iconst 3, 1) := by decide +kernel
theorem dX6_isLength_2 : decode cX6_isLength 2 = .ok (.if_icmp .lt 13, 3) := by decide +kernel
theorem dX6_isLength_5 : decode cX6_isLength 5 = .ok (.iload_n 0, 1) := by decide +kernel
theorem dX6_isLength_6 : decode cX6_isLength 6 = .ok (.bipush 9, 2) := by decide +kernel
theorem dX6_isLength_8 : decode cX6_isLength 8 = .ok (.if_icmp .gt 7, 3) := by decide +kernel
theorem dX6_isLength_11 : decode cX6_isLength 11 = .ok (.iconst 1, 1) := by decide +kernel
theorem dX6_isLength_12 : decode cX6_isLength 12 = .ok (.goto 4, 3) := by decide +kernel
theorem dX6_isLength_15 : decode cX6_isLength 15 = .ok (.iconst 0, 1) := by decide +kernel
theorem dX6_isLength_16 : decode cX6_isLength 16 = .ok (.ireturn, 1) := by decide +kernel
theorem dX7_init_0 : decode cX7_init 0 = .ok (.aload_n 0, 1) := by decide +kernel
theorem dX7_init_1 : decode cX7_init 1 = .ok (.invokespecial 3, 3) := by decide +kernel
theorem dX7_init_4 : decode cX7_init 4 = .ok (.aload_n 0, 1) := by decide +kernel
theorem dX7_init_5 : decode cX7_init 5 = .ok (.sipush 400, 3) := by decide +kernel
theorem dX7_init_8 : decode cX7_init 8 = .ok (.anewarray 9, 3) := by decide +kernel
theorem dX7_init_11 : decode cX7_init 11 = .ok (.putfield 11, 3) := by decide +kernel
theorem dX7_init_14 : decode cX7_init 14 = .ok (.aload_n 0, 1) := by decide +kernel
theorem dX7_init_15 : decode cX7_init 15 = .ok (.sipush 400, 3) := by decide +kernel
theorem dX7_init_18 : decode cX7_init 18 = .ok (.newarray .int, 2) := by decide +kernel
theorem dX7_init_20 : decode cX7_init 20 = .ok (.putfield 17, 3) := by decide +kernel
theorem dX7_init_23 : decode cX7_init 23 = .ok (.aload_n 0, 1) := by decide +kernel
theorem dX7_init_24 : decode cX7_init 24 = .ok (.bipush 16, 2) := by decide +kernel
theorem dX7_init_26 : decode cX7_init 26 = .ok (.anewarray 9, 3) := by decide +kernel
theorem dX7_init_29 : decode cX7_init 29 = .ok (.putfield 21, 3) := by decide +kernel
theorem dX7_init_32 : decode cX7_init 32 = .ok (.aload_n 0, 1) := by decide +kernel
theorem dX7_init_33 : decode cX7_init 33 = .ok (.bipush 16, 2) := by decide +kernel
theorem dX7_init_35 : decode cX7_init 35 = .ok (.newarray .int, 2) := by decide +kernel
theorem dX7_init_37 : decode cX7_init 37 = .ok (.putfield 24, 3) := by decide +kernel
theorem dX7_init_40 : decode cX7_init 40 = .ok (.aload_n 0, 1) := by decide +kernel
theorem dX7_init_41 : decode cX7_init 41 = .ok (.bipush 16, 2) := by decide +kernel
theorem dX7_init_43 : decode cX7_init 43 = .ok (.newarray .int, 2) := by decide +kernel
theorem dX7_init_45 : decode cX7_init 45 = .ok (.putfield 27, 3) := by decide +kernel
theorem dX7_init_48 : decode cX7_init 48 = .ok (.aload_n 0, 1) := by decide +kernel
theorem dX7_init_49 : decode cX7_init 49 = .ok (.bipush 16, 2) := by decide +kernel
theorem dX7_init_51 : decode cX7_init 51 = .ok (.newarray .int, 2) := by decide +kernel
theorem dX7_init_53 : decode cX7_init 53 = .ok (.putfield 30, 3) := by decide +kernel
theorem dX7_init_56 : decode cX7_init 56 = .ok (.aload_n 0, 1) := by decide +kernel
theorem dX7_init_57 : decode cX7_init 57 = .ok (.bipush 16, 2) := by decide +kernel
theorem dX7_init_59 : decode cX7_init 59 = .ok (.newarray .int, 2) := by decide +kernel
theorem dX7_init_61 : decode cX7_init 61 = .ok (.putfield 33, 3) := by decide +kernel
theorem dX7_init_64 : decode cX7_init 64 = .ok (.aload_n 0, 1) := by decide +kernel
theorem dX7_init_65 : decode cX7_init 65 = .ok (.bipush 16, 2) := by decide +kernel
theorem dX7_init_67 : decode cX7_init 67 = .ok (.newarray .int, 2) := by decide +kernel
theorem dX7_init_69 : decode cX7_init 69 = .ok (.putfield 36, 3) := by decide +kernel
theorem dX7_init_72 : decode cX7_init 72 = .ok (.return_, 1) := by decide +kernel
theorem dX7_begin_0 : decode cX7_begin 0 = .ok (.aload_n 0, 1) := by decide +kernel
theorem dX7_begin_1 : decode cX7_begin 1 = .ok (.iconst 0, 1) := by decide +kernel
theorem dX7_begin_2 : decode cX7_begin 2 = .ok (.putfield 39, 3) := by decide +kernel
theorem dX7_begin_5 : decode cX7_begin 5 = .ok (.aload_n 0, 1) := by decide +kernel
theorem dX7_begin_6 : decode cX7_begin 6 = .ok (.iconst 0, 1) := by decide +kernel
theorem dX7_begin_7 : decode cX7_begin 7 = .ok (.putfield 43, 3) := by decide +kernel
theorem dX7_begin_10 : decode cX7_begin 10 = .ok (.return_, 1) := by decide +kernel
theorem dX7_write_0 : decode cX7_write 0 = .ok (.aload_n 0, 1) := by decide +kernel
theorem dX7_write_1 : decode cX7_write 1 = .ok (.getfield 39, 3) := by decide +kernel
theorem dX7_write_4 : decode cX7_write 4 = .ok (.ifCond .lt 45, 3) := by decide +kernel
theorem dX7_write_7 : decode cX7_write 7 = .ok (.aload_n 0, 1) := by decide +kernel
theorem dX7_write_8 : decode cX7_write 8 = .ok (.getfield 39, 3) := by decide +kernel
theorem dX7_write_11 : decode cX7_write 11 = .ok (.aload_n 0, 1) := by decide +kernel
theorem dX7_write_12 : decode cX7_write 12 = .ok (.getfield 11, 3) := by decide +kernel
theorem dX7_write_15 : decode cX7_write 15 = .ok (.arraylength, 1) := by decide +kernel
theorem dX7_write_16 : decode cX7_write 16 = .ok (.if_icmp .ge 33, 3) := by decide +kernel
theorem dX7_write_19 : decode cX7_write 19 = .ok (.aload_n 0, 1) := by decide +kernel
theorem dX7_write_20 : decode cX7_write 20 = .ok (.getfield 11, 3) := by decide +kernel
theorem dX7_write_23 : decode cX7_write 23 = .ok (.aload_n 0, 1) := by decide +kernel
theorem dX7_write_24 : decode cX7_write 24 = .ok (.getfield 39, 3) := by decide +kernel
theorem dX7_write_27 : decode cX7_write 27 = .ok (.aload_n 1, 1) := by decide +kernel
theorem dX7_write_28 : decode cX7_write 28 = .ok (.aastore, 1) := by decide +kernel
theorem dX7_write_29 : decode cX7_write 29 = .ok (.aload_n 0, 1) := by decide +kernel
theorem dX7_write_30 : decode cX7_write 30 = .ok (.getfield 17, 3) := by decide +kernel
theorem dX7_write_33 : decode cX7_write 33 = .ok (.aload_n 0, 1) := by decide +kernel
theorem dX7_write_34 : decode cX7_write 34 = .ok (.getfield 39, 3) := by decide +kernel
theorem dX7_write_37 : decode cX7_write 37 = .ok (.iload_n 2, 1) := by decide +kernel
theorem dX7_write_38 : decode cX7_write 38 = .ok (.iastore, 1) := by decide +kernel
theorem dX7_write_39 : decode cX7_write 39 = .ok (.aload_n 0, 1) := by decide +kernel
theorem dX7_write_40 : decode cX7_write 40 = .ok (.dup, 1) := by decide +kernel
theorem dX7_write_41 : decode cX7_write 41 = .ok (.getfield 39, 3) := by decide +kernel
theorem dX7_write_44 : decode cX7_write 44 = .ok (.iconst 1, 1) := by decide +kernel
theorem dX7_write_45 : decode cX7_write 45 = .ok (.iadd, 1) := by decide +kernel
theorem dX7_write_46 : decode cX7_write 46 = .ok (.putfield 39, 3) := by decide +kernel
theorem dX7_write_49 : decode cX7_write 49 = .ok (.return_, 1) := by decide +kernel
theorem dX7_add_0 : decode cX7_add 0 = .ok (.aload_n 0, 1) := by decide +kernel
theorem dX7_add_1 : decode cX7_add 1 = .ok (.getfield 43, 3) := by decide +kernel
theorem dX7_add_4 : decode cX7_add 4 = .ok (.ifCond .lt 90, 3) := by decide +kernel
theorem dX7_add_7 : decode cX7_add 7 = .ok (.aload_n 0, 1) := by decide +kernel
theorem dX7_add_8 : decode cX7_add 8 = .ok (.getfield 43, 3) := by decide +kernel
theorem dX7_add_11 : decode cX7_add 11 = .ok (.aload_n 0, 1) := by decide +kernel
theorem dX7_add_12 : decode cX7_add 12 = .ok (.getfield 24, 3) := by decide +kernel
theorem dX7_add_15 : decode cX7_add 15 = .ok (.arraylength, 1) := by decide +kernel
theorem dX7_add_16 : decode cX7_add 16 = .ok (.if_icmp .ge 78, 3) := by decide +kernel
theorem dX7_add_19 : decode cX7_add 19 = .ok (.aload_n 0, 1) := by decide +kernel
theorem dX7_add_20 : decode cX7_add 20 = .ok (.getfield 24, 3) := by decide +kernel
theorem dX7_add_23 : decode cX7_add 23 = .ok (.aload_n 0, 1) := by decide +kernel
theorem dX7_add_24 : decode cX7_add 24 = .ok (.getfield 43, 3) := by decide +kernel
theorem dX7_add_27 : decode cX7_add 27 = .ok (.iload_n 1, 1) := by decide +kernel
theorem dX7_add_28 : decode cX7_add 28 = .ok (.iastore, 1) := by decide +kernel
theorem dX7_add_29 : decode cX7_add 29 = .ok (.aload_n 0, 1) := by decide +kernel
theorem dX7_add_30 : decode cX7_add 30 = .ok (.getfield 21, 3) := by decide +kernel
theorem dX7_add_33 : decode cX7_add 33 = .ok (.aload_n 0, 1) := by decide +kernel
theorem dX7_add_34 : decode cX7_add 34 = .ok (.getfield 43, 3) := by decide +kernel
theorem dX7_add_37 : decode cX7_add 37 = .ok (.aload_n 2, 1) := by decide +kernel
theorem dX7_add_38 : decode cX7_add 38 = .ok (.aastore, 1) := by decide +kernel
theorem dX7_add_39 : decode cX7_add 39 = .ok (.aload_n 0, 1) := by decide +kernel
theorem dX7_add_40 : decode cX7_add 40 = .ok (.getfield 27, 3) := by decide +kernel
theorem dX7_add_43 : decode cX7_add 43 = .ok (.aload_n 0, 1) := by decide +kernel
theorem dX7_add_44 : decode cX7_add 44 = .ok (.getfield 43, 3) := by decide +kernel
theorem dX7_add_47 : decode cX7_add 47 = .ok (.iload_n 3, 1) := by decide +kernel
theorem dX7_add_48 : decode cX7_add 48 = .ok (.iastore, 1) := by decide +kernel
theorem dX7_add_49 : decode cX7_add 49 = .ok (.aload_n 0, 1) := by decide +kernel
theorem dX7_add_50 : decode cX7_add 50 = .ok (.getfield 30, 3) := by decide +kernel
theorem dX7_add_53 : decode cX7_add 53 = .ok (.aload_n 0, 1) := by decide +kernel
theorem dX7_add_54 : decode cX7_add 54 = .ok (.getfield 43, 3) := by decide +kernel
theorem dX7_add_57 : decode cX7_add 57 = .ok (.iload 4, 2) := by decide +kernel
theorem dX7_add_59 : decode cX7_add 59 = .ok (.iastore, 1) := by decide +kernel
theorem dX7_add_60 : decode cX7_add 60 = .ok (.aload_n 0, 1) := by decide +kernel
theorem dX7_add_61 : decode cX7_add 61 = .ok (.getfield 33, 3) := by decide +kernel
theorem dX7_add_64 : decode cX7_add 64 = .ok (.aload_n 0, 1) := by decide +kernel
theorem dX7_add_65 : decode cX7_add 65 = .ok (.getfield 43, 3) := by decide +kernel
theorem dX7_add_68 : decode cX7_add 68 = .ok (.iload 5, 2) := by decide +kernel
theorem dX7_add_70 : decode cX7_add 70 = .ok (.iastore, 1) := by decide +kernel
theorem dX7_add_71 : decode cX7_add 71 = .ok (.aload_n 0, 1) := by decide +kernel
theorem dX7_add_72 : decode cX7_add 72 = .ok (.getfield 36, 3) := by decide +kernel
theorem dX7_add_75 : decode cX7_add 75 = .ok (.aload_n 0, 1) := by decide +kernel
theorem dX7_add_76 : decode cX7_add 76 = .ok (.getfield 43, 3) := by decide +kernel
theorem dX7_add_79 : decode cX7_add 79 = .ok (.aload_n 0, 1) := by decide +kernel
theorem dX7_add_80 : decode cX7_add 80 = .ok (.getfield 39, 3) := by decide +kernel
theorem dX7_add_83 : decode cX7_add 83 = .ok (.iastore, 1) := by decide +kernel
theorem dX7_add_84 : decode cX7_add 84 = .ok (.aload_n 0, 1) := by decide +kernel
theorem dX7_add_85 : decode cX7_add 85 = .ok (.dup, 1) := by decide +kernel
theorem dX7_add_86 : decode cX7_add 86 = .ok (.getfield 43, 3) := by decide +kernel
theorem dX7_add_89 : decode cX7_add 89 = .ok (.iconst 1, 1) := by decide +kernel
theorem dX7_add_90 : decode cX7_add 90 = .ok (.iadd, 1) := by decide +kernel
theorem dX7_add_91 : decode cX7_add 91 = .ok (.putfield 43, 3) := by decide +kernel
theorem dX7_add_94 : decode cX7_add 94 = .ok (.return_, 1) := by decide +kernel
theorem dX7_count_0 : decode cX7_count 0 = .ok (.aload_n 0, 1) := by decide +kernel
theorem dX7_count_1 : decode cX7_count 1 = .ok (.getfield 43, 3) := by decide +kernel
theorem dX7_count_4 : decode cX7_count 4 = .ok (.ireturn, 1) := by decide +kernel
theorem dX7_codeLength_0 : decode cX7_codeLength 0 = .ok (.aload_n 0, 1) := by decide +kernel
theorem dX7_codeLength_1 : decode cX7_codeLength 1 = .ok (.getfield 39, 3) := by decide +kernel
theorem dX7_codeLength_4 : decode cX7_codeLength 4 = .ok (.ireturn, 1) := by decide +kernel
theorem dX7_opAt_0 : decode cX7_opAt 0 = .ok (.iload_n 1, 1) := by decide +kernel
theorem dX7_opAt_1 : decode cX7_opAt 1 = .ok (.ifCond .lt 20, 3) := by decide +kernel
theorem dX7_opAt_4 : decode cX7_opAt 4 = .ok (.iload_n 1, 1) := by decide +kernel
theorem dX7_opAt_5 : decode cX7_opAt 5 = .ok (.aload_n 0, 1) := by decide +kernel
theorem dX7_opAt_6 : decode cX7_opAt 6 = .ok (.getfield 39, 3) := by decide +kernel
theorem dX7_opAt_9 : decode cX7_opAt 9 = .ok (.if_icmp .ge 12, 3) := by decide +kernel
theorem dX7_opAt_12 : decode cX7_opAt 12 = .ok (.iload_n 1, 1) := by decide +kernel
theorem dX7_opAt_13 : decode cX7_opAt 13 = .ok (.aload_n 0, 1) := by decide +kernel
theorem dX7_opAt_14 : decode cX7_opAt 14 = .ok (.getfield 11, 3) := by decide +kernel
theorem dX7_opAt_17 : decode cX7_opAt 17 = .ok (.arraylength, 1) := by decide +kernel
theorem dX7_opAt_18 : decode cX7_opAt 18 = .ok (.if_icmp .lt 7, 3) := by decide +kernel
theorem dX7_opAt_21 : decode cX7_opAt 21 = .ok (.getstatic 46, 3) := by decide +kernel
theorem dX7_opAt_24 : decode cX7_opAt 24 = .ok (.areturn, 1) := by decide +kernel
theorem dX7_opAt_25 : decode cX7_opAt 25 = .ok (.aload_n 0, 1) := by decide +kernel
theorem dX7_opAt_26 : decode cX7_opAt 26 = .ok (.getfield 11, 3) := by decide +kernel
theorem dX7_opAt_29 : decode cX7_opAt 29 = .ok (.iload_n 1, 1) := by decide +kernel
theorem dX7_opAt_30 : decode cX7_opAt 30 = .ok (.aaload, 1) := by decide +kernel
theorem dX7_opAt_31 : decode cX7_opAt 31 = .ok (.astore_n 2, 1) := by decide +kernel
theorem dX7_opAt_32 : decode cX7_opAt 32 = .ok (.aload_n 2, 1) := by decide +kernel
theorem dX7_opAt_33 : decode cX7_opAt 33 = .ok (.ifnonnull 9, 3) := by decide +kernel
theorem dX7_opAt_36 : decode cX7_opAt 36 = .ok (.getstatic 46, 3) := by decide +kernel
theorem dX7_opAt_39 : decode cX7_opAt 39 = .ok (.goto 4, 3) := by decide +kernel
theorem dX7_opAt_42 : decode cX7_opAt 42 = .ok (.aload_n 2, 1) := by decide +kernel
theorem dX7_opAt_43 : decode cX7_opAt 43 = .ok (.areturn, 1) := by decide +kernel
theorem dX7_operandAt_0 : decode cX7_operandAt 0 = .ok (.iload_n 1, 1) := by decide +kernel
theorem dX7_operandAt_1 : decode cX7_operandAt 1 = .ok (.ifCond .lt 21, 3) := by decide +kernel
theorem dX7_operandAt_4 : decode cX7_operandAt 4 = .ok (.iload_n 1, 1) := by decide +kernel
theorem dX7_operandAt_5 : decode cX7_operandAt 5 = .ok (.aload_n 0, 1) := by decide +kernel
theorem dX7_operandAt_6 : decode cX7_operandAt 6 = .ok (.getfield 17, 3) := by decide +kernel
theorem dX7_operandAt_9 : decode cX7_operandAt 9 = .ok (.arraylength, 1) := by decide +kernel
theorem dX7_operandAt_10 : decode cX7_operandAt 10 = .ok (.if_icmp .ge 12, 3) := by decide +kernel
theorem dX7_operandAt_13 : decode cX7_operandAt 13 = .ok (.aload_n 0, 1) := by decide +kernel
theorem dX7_operandAt_14 : decode cX7_operandAt 14 = .ok (.getfield 17, 3) := by decide +kernel
theorem dX7_operandAt_17 : decode cX7_operandAt 17 = .ok (.iload_n 1, 1) := by decide +kernel
theorem dX7_operandAt_18 : decode cX7_operandAt 18 = .ok (.iaload, 1) := by decide +kernel
theorem dX7_operandAt_19 : decode cX7_operandAt 19 = .ok (.goto 4, 3) := by decide +kernel
theorem dX7_operandAt_22 : decode cX7_operandAt 22 = .ok (.iconst 0, 1) := by decide +kernel
theorem dX7_operandAt_23 : decode cX7_operandAt 23 = .ok (.ireturn, 1) := by decide +kernel
theorem dX7_moveOf_0 : decode cX7_moveOf 0 = .ok (.aload_n 0, 1) := by decide +kernel
theorem dX7_moveOf_1 : decode cX7_moveOf 1 = .ok (.iload_n 1, 1) := by decide +kernel
theorem dX7_moveOf_2 : decode cX7_moveOf 2 = .ok (.invokevirtual 50, 3) := by decide +kernel
theorem dX7_moveOf_5 : decode cX7_moveOf 5 = .ok (.ifCond .ne 7, 3) := by decide +kernel
theorem dX7_moveOf_8 : decode cX7_moveOf 8 = .ok (.getstatic 46, 3) := by decide +kernel
theorem dX7_moveOf_11 : decode cX7_moveOf 11 = .ok (.areturn, 1) := by decide +kernel
theorem dX7_moveOf_12 : decode cX7_moveOf 12 = .ok (.aload_n 0, 1) := by decide +kernel
theorem dX7_moveOf_13 : decode cX7_moveOf 13 = .ok (.getfield 21, 3) := by decide +kernel
theorem dX7_moveOf_16 : decode cX7_moveOf 16 = .ok (.iload_n 1, 1) := by decide +kernel
theorem dX7_moveOf_17 : decode cX7_moveOf 17 = .ok (.aaload, 1) := by decide +kernel
theorem dX7_moveOf_18 : decode cX7_moveOf 18 = .ok (.astore_n 2, 1) := by decide +kernel
theorem dX7_moveOf_19 : decode cX7_moveOf 19 = .ok (.aload_n 2, 1) := by decide +kernel
theorem dX7_moveOf_20 : decode cX7_moveOf 20 = .ok (.ifnonnull 9, 3) := by decide +kernel
theorem dX7_moveOf_23 : decode cX7_moveOf 23 = .ok (.getstatic 46, 3) := by decide +kernel
theorem dX7_moveOf_26 : decode cX7_moveOf 26 = .ok (.goto 4, 3) := by decide +kernel
theorem dX7_moveOf_29 : decode cX7_moveOf 29 = .ok (.aload_n 2, 1) := by decide +kernel
theorem dX7_moveOf_30 : decode cX7_moveOf 30 = .ok (.areturn, 1) := by decide +kernel
theorem dX7_playerOf_0 : decode cX7_playerOf 0 = .ok (.aload_n 0, 1) := by decide +kernel
theorem dX7_playerOf_1 : decode cX7_playerOf 1 = .ok (.iload_n 1, 1) := by decide +kernel
theorem dX7_playerOf_2 : decode cX7_playerOf 2 = .ok (.invokevirtual 50, 3) := by decide +kernel
theorem dX7_playerOf_5 : decode cX7_playerOf 5 = .ok (.ifCond .eq 12, 3) := by decide +kernel
theorem dX7_playerOf_8 : decode cX7_playerOf 8 = .ok (.aload_n 0, 1) := by decide +kernel
theorem dX7_playerOf_9 : decode cX7_playerOf 9 = .ok (.getfield 24, 3) := by decide +kernel
theorem dX7_playerOf_12 : decode cX7_playerOf 12 = .ok (.iload_n 1, 1) := by decide +kernel
theorem dX7_playerOf_13 : decode cX7_playerOf 13 = .ok (.iaload, 1) := by decide +kernel
theorem dX7_playerOf_14 : decode cX7_playerOf 14 = .ok (.goto 4, 3) := by decide +kernel
theorem dX7_playerOf_17 : decode cX7_playerOf 17 = .ok (.iconst (-1), 1) := by decide +kernel
theorem dX7_playerOf_18 : decode cX7_playerOf 18 = .ok (.ireturn, 1) := by decide +kernel
theorem dX7_columnStart_0 : decode cX7_columnStart 0 = .ok (.aload_n 0, 1) := by decide +kernel
theorem dX7_columnStart_1 : decode cX7_columnStart 1 = .ok (.iload_n 1, 1) := by decide +kernel
theorem dX7_columnStart_2 : decode cX7_columnStart 2 = .ok (.invokevirtual 50, 3) := by decide +kernel
theorem dX7_columnStart_5 : decode cX7_columnStart 5 = .ok (.ifCond .eq 12, 3) := by decide +kernel
theorem dX7_columnStart_8 : decode cX7_columnStart 8 = .ok (.aload_n 0, 1) := by decide +kernel
theorem dX7_columnStart_9 : decode cX7_columnStart 9 = .ok (.getfield 27, 3) := by decide +kernel
theorem dX7_columnStart_12 : decode cX7_columnStart 12 = .ok (.iload_n 1, 1) := by decide +kernel
theorem dX7_columnStart_13 : decode cX7_columnStart 13 = .ok (.iaload, 1) := by decide +kernel
theorem dX7_columnStart_14 : decode cX7_columnStart 14 = .ok (.goto 4, 3) := by decide +kernel
theorem dX7_columnStart_17 : decode cX7_columnStart 17 = .ok (.iconst 0, 1) := by decide +kernel
theorem dX7_columnStart_18 : decode cX7_columnStart 18 = .ok (.ireturn, 1) := by decide +kernel
theorem dX7_rowStart_0 : decode cX7_rowStart 0 = .ok (.aload_n 0, 1) := by decide +kernel
theorem dX7_rowStart_1 : decode cX7_rowStart 1 = .ok (.iload_n 1, 1) := by decide +kernel
theorem dX7_rowStart_2 : decode cX7_rowStart 2 = .ok (.invokevirtual 50, 3) := by decide +kernel
theorem dX7_rowStart_5 : decode cX7_rowStart 5 = .ok (.ifCond .eq 12, 3) := by decide +kernel
theorem dX7_rowStart_8 : decode cX7_rowStart 8 = .ok (.aload_n 0, 1) := by decide +kernel
theorem dX7_rowStart_9 : decode cX7_rowStart 9 = .ok (.getfield 30, 3) := by decide +kernel
theorem dX7_rowStart_12 : decode cX7_rowStart 12 = .ok (.iload_n 1, 1) := by decide +kernel
theorem dX7_rowStart_13 : decode cX7_rowStart 13 = .ok (.iaload, 1) := by decide +kernel
theorem dX7_rowStart_14 : decode cX7_rowStart 14 = .ok (.goto 4, 3) := by decide +kernel
theorem dX7_rowStart_17 : decode cX7_rowStart 17 = .ok (.iconst 0, 1) := by decide +kernel
theorem dX7_rowStart_18 : decode cX7_rowStart 18 = .ok (.ireturn, 1) := by decide +kernel
theorem dX7_testStart_0 : decode cX7_testStart 0 = .ok (.aload_n 0, 1) := by decide +kernel
theorem dX7_testStart_1 : decode cX7_testStart 1 = .ok (.iload_n 1, 1) := by decide +kernel
theorem dX7_testStart_2 : decode cX7_testStart 2 = .ok (.invokevirtual 50, 3) := by decide +kernel
theorem dX7_testStart_5 : decode cX7_testStart 5 = .ok (.ifCond .eq 12, 3) := by decide +kernel
theorem dX7_testStart_8 : decode cX7_testStart 8 = .ok (.aload_n 0, 1) := by decide +kernel
theorem dX7_testStart_9 : decode cX7_testStart 9 = .ok (.getfield 33, 3) := by decide +kernel
theorem dX7_testStart_12 : decode cX7_testStart 12 = .ok (.iload_n 1, 1) := by decide +kernel
theorem dX7_testStart_13 : decode cX7_testStart 13 = .ok (.iaload, 1) := by decide +kernel
theorem dX7_testStart_14 : decode cX7_testStart 14 = .ok (.goto 4, 3) := by decide +kernel
theorem dX7_testStart_17 : decode cX7_testStart 17 = .ok (.iconst 0, 1) := by decide +kernel
theorem dX7_testStart_18 : decode cX7_testStart 18 = .ok (.ireturn, 1) := by decide +kernel
theorem dX7_end_0 : decode cX7_end 0 = .ok (.aload_n 0, 1) := by decide +kernel
theorem dX7_end_1 : decode cX7_end 1 = .ok (.iload_n 1, 1) := by decide +kernel
theorem dX7_end_2 : decode cX7_end 2 = .ok (.invokevirtual 50, 3) := by decide +kernel
theorem dX7_end_5 : decode cX7_end 5 = .ok (.ifCond .eq 12, 3) := by decide +kernel
theorem dX7_end_8 : decode cX7_end 8 = .ok (.aload_n 0, 1) := by decide +kernel
theorem dX7_end_9 : decode cX7_end 9 = .ok (.getfield 36, 3) := by decide +kernel
theorem dX7_end_12 : decode cX7_end 12 = .ok (.iload_n 1, 1) := by decide +kernel
theorem dX7_end_13 : decode cX7_end 13 = .ok (.iaload, 1) := by decide +kernel
theorem dX7_end_14 : decode cX7_end 14 = .ok (.goto 4, 3) := by decide +kernel
theorem dX7_end_17 : decode cX7_end 17 = .ok (.iconst 0, 1) := by decide +kernel
theorem dX7_end_18 : decode cX7_end 18 = .ok (.ireturn, 1) := by decide +kernel
theorem dX7_has_0 : decode cX7_has 0 = .ok (.iload_n 1, 1) := by decide +kernel
theorem dX7_has_1 : decode cX7_has 1 = .ok (.ifCond .lt 24, 3) := by decide +kernel
theorem dX7_has_4 : decode cX7_has 4 = .ok (.iload_n 1, 1) := by decide +kernel
theorem dX7_has_5 : decode cX7_has 5 = .ok (.aload_n 0, 1) := by decide +kernel
theorem dX7_has_6 : decode cX7_has 6 = .ok (.getfield 43, 3) := by decide +kernel
theorem dX7_has_9 : decode cX7_has 9 = .ok (.if_icmp .ge 16, 3) := by decide +kernel
theorem dX7_has_12 : decode cX7_has 12 = .ok (.iload_n 1, 1) := by decide +kernel
theorem dX7_has_13 : decode cX7_has 13 = .ok (.aload_n 0, 1) := by decide +kernel
theorem dX7_has_14 : decode cX7_has 14 = .ok (.getfield 24, 3) := by decide +kernel
theorem dX7_has_17 : decode cX7_has 17 = .ok (.arraylength, 1) := by decide +kernel
theorem dX7_has_18 : decode cX7_has 18 = .ok (.if_icmp .ge 7, 3) := by decide +kernel
theorem dX7_has_21 : decode cX7_has 21 = .ok (.iconst 1, 1) := by decide +kernel
theorem dX7_has_22 : decode cX7_has 22 = .ok (.goto 4, 3) := by decide +kernel
theorem dX7_has_25 : decode cX7_has 25 = .ok (.iconst 0, 1) := by decide +kernel
theorem dX7_has_26 : decode cX7_has 26 = .ok (.ireturn, 1) := by decide +kernel
theorem dX8_init_0 : decode cX8_init 0 = .ok (.aload_n 0, 1) := by decide +kernel
theorem dX8_init_1 : decode cX8_init 1 = .ok (.invokespecial 3, 3) := by decide +kernel
theorem dX8_init_4 : decode cX8_init 4 = .ok (.aload_n 0, 1) := by decide +kernel
theorem dX8_init_5 : decode cX8_init 5 = .ok (.bipush 81, 2) := by decide +kernel
theorem dX8_init_7 : decode cX8_init 7 = .ok (.newarray .int, 2) := by decide +kernel
theorem dX8_init_9 : decode cX8_init 9 = .ok (.putfield 9, 3) := by decide +kernel
theorem dX8_init_12 : decode cX8_init 12 = .ok (.aload_n 0, 1) := by decide +kernel
theorem dX8_init_13 : decode cX8_init 13 = .ok (.sipush 486, 3) := by decide +kernel
theorem dX8_init_16 : decode cX8_init 16 = .ok (.newarray .int, 2) := by decide +kernel
theorem dX8_init_18 : decode cX8_init 18 = .ok (.putfield 15, 3) := by decide +kernel
theorem dX8_init_21 : decode cX8_init 21 = .ok (.aload_n 0, 1) := by decide +kernel
theorem dX8_init_22 : decode cX8_init 22 = .ok (.bipush 81, 2) := by decide +kernel
theorem dX8_init_24 : decode cX8_init 24 = .ok (.newarray .int, 2) := by decide +kernel
theorem dX8_init_26 : decode cX8_init 26 = .ok (.putfield 18, 3) := by decide +kernel
theorem dX8_init_29 : decode cX8_init 29 = .ok (.aload_n 0, 1) := by decide +kernel
theorem dX8_init_30 : decode cX8_init 30 = .ok (.bipush 81, 2) := by decide +kernel
theorem dX8_init_32 : decode cX8_init 32 = .ok (.newarray .int, 2) := by decide +kernel
theorem dX8_init_34 : decode cX8_init 34 = .ok (.putfield 21, 3) := by decide +kernel
theorem dX8_init_37 : decode cX8_init 37 = .ok (.aload_n 0, 1) := by decide +kernel
theorem dX8_init_38 : decode cX8_init 38 = .ok (.iconst 2, 1) := by decide +kernel
theorem dX8_init_39 : decode cX8_init 39 = .ok (.newarray .int, 2) := by decide +kernel
theorem dX8_init_41 : decode cX8_init 41 = .ok (.putfield 24, 3) := by decide +kernel
theorem dX8_init_44 : decode cX8_init 44 = .ok (.aload_n 0, 1) := by decide +kernel
theorem dX8_init_45 : decode cX8_init 45 = .ok (.bipush 81, 2) := by decide +kernel
theorem dX8_init_47 : decode cX8_init 47 = .ok (.newarray .int, 2) := by decide +kernel
theorem dX8_init_49 : decode cX8_init 49 = .ok (.putfield 27, 3) := by decide +kernel
theorem dX8_init_52 : decode cX8_init 52 = .ok (.aload_n 0, 1) := by decide +kernel
theorem dX8_init_53 : decode cX8_init 53 = .ok (.bipush 7, 2) := by decide +kernel
theorem dX8_init_55 : decode cX8_init 55 = .ok (.bipush 7, 2) := by decide +kernel
theorem dX8_init_57 : decode cX8_init 57 = .ok (.invokevirtual 30, 3) := by decide +kernel
theorem dX8_init_60 : decode cX8_init 60 = .ok (.return_, 1) := by decide +kernel
theorem dX8_begin_0 : decode cX8_begin 0 = .ok (.aload_n 0, 1) := by decide +kernel
theorem dX8_begin_1 : decode cX8_begin 1 = .ok (.iload_n 1, 1) := by decide +kernel
theorem dX8_begin_2 : decode cX8_begin 2 = .ok (.putfield 34, 3) := by decide +kernel
theorem dX8_begin_5 : decode cX8_begin 5 = .ok (.aload_n 0, 1) := by decide +kernel
theorem dX8_begin_6 : decode cX8_begin 6 = .ok (.iload_n 2, 1) := by decide +kernel
theorem dX8_begin_7 : decode cX8_begin 7 = .ok (.putfield 38, 3) := by decide +kernel
theorem dX8_begin_10 : decode cX8_begin 10 = .ok (.aload_n 0, 1) := by decide +kernel
theorem dX8_begin_11 : decode cX8_begin 11 = .ok (.iconst 0, 1) := by decide +kernel
theorem dX8_begin_12 : decode cX8_begin 12 = .ok (.putfield 41, 3) := by decide +kernel
theorem dX8_begin_15 : decode cX8_begin 15 = .ok (.aload_n 0, 1) := by decide +kernel
theorem dX8_begin_16 : decode cX8_begin 16 = .ok (.dup, 1) := by decide +kernel
theorem dX8_begin_17 : decode cX8_begin 17 = .ok (.getfield 44, 3) := by decide +kernel
theorem dX8_begin_20 : decode cX8_begin 20 = .ok (.iconst 1, 1) := by decide +kernel
theorem dX8_begin_21 : decode cX8_begin 21 = .ok (.iadd, 1) := by decide +kernel
theorem dX8_begin_22 : decode cX8_begin 22 = .ok (.putfield 44, 3) := by decide +kernel
theorem dX8_begin_25 : decode cX8_begin 25 = .ok (.aload_n 0, 1) := by decide +kernel
theorem dX8_begin_26 : decode cX8_begin 26 = .ok (.getfield 9, 3) := by decide +kernel
theorem dX8_begin_29 : decode cX8_begin 29 = .ok (.iconst 0, 1) := by decide +kernel
theorem dX8_begin_30 : decode cX8_begin 30 = .ok (.invokestatic 47, 3) := by decide +kernel
theorem dX8_begin_33 : decode cX8_begin 33 = .ok (.aload_n 0, 1) := by decide +kernel
theorem dX8_begin_34 : decode cX8_begin 34 = .ok (.getfield 24, 3) := by decide +kernel
theorem dX8_begin_37 : decode cX8_begin 37 = .ok (.iconst 0, 1) := by decide +kernel
theorem dX8_begin_38 : decode cX8_begin 38 = .ok (.invokestatic 47, 3) := by decide +kernel
theorem dX8_begin_41 : decode cX8_begin 41 = .ok (.iconst 0, 1) := by decide +kernel
theorem dX8_begin_42 : decode cX8_begin 42 = .ok (.istore_n 3, 1) := by decide +kernel
theorem dX8_begin_43 : decode cX8_begin 43 = .ok (.iload_n 3, 1) := by decide +kernel
theorem dX8_begin_44 : decode cX8_begin 44 = .ok (.aload_n 0, 1) := by decide +kernel
theorem dX8_begin_45 : decode cX8_begin 45 = .ok (.getfield 38, 3) := by decide +kernel
theorem dX8_begin_48 : decode cX8_begin 48 = .ok (.if_icmp .ge 34, 3) := by decide +kernel
theorem dX8_begin_51 : decode cX8_begin 51 = .ok (.iconst 0, 1) := by decide +kernel
theorem dX8_begin_52 : decode cX8_begin 52 = .ok (.istore 4, 2) := by decide +kernel
theorem dX8_begin_54 : decode cX8_begin 54 = .ok (.iload 4, 2) := by decide +kernel
theorem dX8_begin_56 : decode cX8_begin 56 = .ok (.aload_n 0, 1) := by decide +kernel
theorem dX8_begin_57 : decode cX8_begin 57 = .ok (.getfield 34, 3) := by decide +kernel
theorem dX8_begin_60 : decode cX8_begin 60 = .ok (.if_icmp .ge 16, 3) := by decide +kernel
theorem dX8_begin_63 : decode cX8_begin 63 = .ok (.aload_n 0, 1) := by decide +kernel
theorem dX8_begin_64 : decode cX8_begin 64 = .ok (.iload 4, 2) := by decide +kernel
theorem dX8_begin_66 : decode cX8_begin 66 = .ok (.iload_n 3, 1) := by decide +kernel
theorem dX8_begin_67 : decode cX8_begin 67 = .ok (.invokevirtual 53, 3) := by decide +kernel
theorem dX8_begin_70 : decode cX8_begin 70 = .ok (.iinc 4 1, 3) := by decide +kernel
theorem dX8_begin_73 : decode cX8_begin 73 = .ok (.goto (-19), 3) := by decide +kernel
theorem dX8_begin_76 : decode cX8_begin 76 = .ok (.iinc 3 1, 3) := by decide +kernel
theorem dX8_begin_79 : decode cX8_begin 79 = .ok (.goto (-36), 3) := by decide +kernel
theorem dX8_begin_82 : decode cX8_begin 82 = .ok (.return_, 1) := by decide +kernel
theorem dX8_placeCell_0 : decode cX8_placeCell 0 = .ok (.aload_n 0, 1) := by decide +kernel
theorem dX8_placeCell_1 : decode cX8_placeCell 1 = .ok (.getfield 34, 3) := by decide +kernel
theorem dX8_placeCell_4 : decode cX8_placeCell 4 = .ok (.iload_n 2, 1) := by decide +kernel
theorem dX8_placeCell_5 : decode cX8_placeCell 5 = .ok (.imul, 1) := by decide +kernel
theorem dX8_placeCell_6 : decode cX8_placeCell 6 = .ok (.iload_n 1, 1) := by decide +kernel
theorem dX8_placeCell_7 : decode cX8_placeCell 7 = .ok (.iadd, 1) := by decide +kernel
theorem dX8_placeCell_8 : decode cX8_placeCell 8 = .ok (.istore_n 3, 1) := by decide +kernel
theorem dX8_placeCell_9 : decode cX8_placeCell 9 = .ok (.iload_n 3, 1) := by decide +kernel
theorem dX8_placeCell_10 : decode cX8_placeCell 10 = .ok (.ifCond .lt 9, 3) := by decide +kernel
theorem dX8_placeCell_13 : decode cX8_placeCell 13 = .ok (.iload_n 3, 1) := by decide +kernel
theorem dX8_placeCell_14 : decode cX8_placeCell 14 = .ok (.bipush 81, 2) := by decide +kernel
theorem dX8_placeCell_16 : decode cX8_placeCell 16 = .ok (.if_icmp .lt 4, 3) := by decide +kernel
theorem dX8_placeCell_19 : decode cX8_placeCell 19 = .ok (.return_, 1) := by decide +kernel
theorem dX8_placeCell_20 : decode cX8_placeCell 20 = .ok (.aload_n 0, 1) := by decide +kernel
theorem dX8_placeCell_21 : decode cX8_placeCell 21 = .ok (.getfield 18, 3) := by decide +kernel
theorem dX8_placeCell_24 : decode cX8_placeCell 24 = .ok (.iload_n 3, 1) := by decide +kernel
theorem dX8_placeCell_25 : decode cX8_placeCell 25 = .ok (.iload_n 1, 1) := by decide +kernel
theorem dX8_placeCell_26 : decode cX8_placeCell 26 = .ok (.iastore, 1) := by decide +kernel
theorem dX8_placeCell_27 : decode cX8_placeCell 27 = .ok (.aload_n 0, 1) := by decide +kernel
theorem dX8_placeCell_28 : decode cX8_placeCell 28 = .ok (.getfield 21, 3) := by decide +kernel
theorem dX8_placeCell_31 : decode cX8_placeCell 31 = .ok (.iload_n 3, 1) := by decide +kernel
theorem dX8_placeCell_32 : decode cX8_placeCell 32 = .ok (.iload_n 2, 1) := by decide +kernel
theorem dX8_placeCell_33 : decode cX8_placeCell 33 = .ok (.iastore, 1) := by decide +kernel
theorem dX8_placeCell_34 : decode cX8_placeCell 34 = .ok (.iconst 0, 1) := by decide +kernel
theorem dX8_placeCell_35 : decode cX8_placeCell 35 = .ok (.istore 4, 2) := by decide +kernel
theorem dX8_placeCell_37 : decode cX8_placeCell 37 = .ok (.iload 4, 2) := by decide +kernel
theorem dX8_placeCell_39 : decode cX8_placeCell 39 = .ok (.bipush 6, 2) := by decide +kernel
theorem dX8_placeCell_41 : decode cX8_placeCell 41 = .ok (.if_icmp .ge 41, 3) := by decide +kernel
theorem dX8_placeCell_44 : decode cX8_placeCell 44 = .ok (.aload_n 0, 1) := by decide +kernel
theorem dX8_placeCell_45 : decode cX8_placeCell 45 = .ok (.getfield 15, 3) := by decide +kernel
theorem dX8_placeCell_48 : decode cX8_placeCell 48 = .ok (.iload_n 3, 1) := by decide +kernel
theorem dX8_placeCell_49 : decode cX8_placeCell 49 = .ok (.bipush 6, 2) := by decide +kernel
theorem dX8_placeCell_51 : decode cX8_placeCell 51 = .ok (.imul, 1) := by decide +kernel
theorem dX8_placeCell_52 : decode cX8_placeCell 52 = .ok (.iload 4, 2) := by decide +kernel
theorem dX8_placeCell_54 : decode cX8_placeCell 54 = .ok (.iadd, 1) := by decide +kernel
theorem dX8_placeCell_55 : decode cX8_placeCell 55 = .ok (.aload_n 0, 1) := by decide +kernel
theorem dX8_placeCell_56 : decode cX8_placeCell 56 = .ok (.iload_n 1, 1) := by decide +kernel
theorem dX8_placeCell_57 : decode cX8_placeCell 57 = .ok (.getstatic 56, 3) := by decide +kernel
theorem dX8_placeCell_60 : decode cX8_placeCell 60 = .ok (.iload 4, 2) := by decide +kernel
theorem dX8_placeCell_62 : decode cX8_placeCell 62 = .ok (.iaload, 1) := by decide +kernel
theorem dX8_placeCell_63 : decode cX8_placeCell 63 = .ok (.iadd, 1) := by decide +kernel
theorem dX8_placeCell_64 : decode cX8_placeCell 64 = .ok (.iload_n 2, 1) := by decide +kernel
theorem dX8_placeCell_65 : decode cX8_placeCell 65 = .ok (.getstatic 59, 3) := by decide +kernel
theorem dX8_placeCell_68 : decode cX8_placeCell 68 = .ok (.iload 4, 2) := by decide +kernel
theorem dX8_placeCell_70 : decode cX8_placeCell 70 = .ok (.iaload, 1) := by decide +kernel
theorem dX8_placeCell_71 : decode cX8_placeCell 71 = .ok (.iadd, 1) := by decide +kernel
theorem dX8_placeCell_72 : decode cX8_placeCell 72 = .ok (.invokevirtual 62, 3) := by decide +kernel
theorem dX8_placeCell_75 : decode cX8_placeCell 75 = .ok (.iastore, 1) := by decide +kernel
theorem dX8_placeCell_76 : decode cX8_placeCell 76 = .ok (.iinc 4 1, 3) := by decide +kernel
theorem dX8_placeCell_79 : decode cX8_placeCell 79 = .ok (.goto (-42), 3) := by decide +kernel
theorem dX8_placeCell_82 : decode cX8_placeCell 82 = .ok (.return_, 1) := by decide +kernel
theorem dX8_columns_0 : decode cX8_columns 0 = .ok (.aload_n 0, 1) := by decide +kernel
theorem dX8_columns_1 : decode cX8_columns 1 = .ok (.getfield 34, 3) := by decide +kernel
theorem dX8_columns_4 : decode cX8_columns 4 = .ok (.ireturn, 1) := by decide +kernel
theorem dX8_rows_0 : decode cX8_rows 0 = .ok (.aload_n 0, 1) := by decide +kernel
theorem dX8_rows_1 : decode cX8_rows 1 = .ok (.getfield 38, 3) := by decide +kernel
theorem dX8_rows_4 : decode cX8_rows 4 = .ok (.ireturn, 1) := by decide +kernel
theorem dX8_cells_0 : decode cX8_cells 0 = .ok (.aload_n 0, 1) := by decide +kernel
theorem dX8_cells_1 : decode cX8_cells 1 = .ok (.getfield 34, 3) := by decide +kernel
theorem dX8_cells_4 : decode cX8_cells 4 = .ok (.aload_n 0, 1) := by decide +kernel
theorem dX8_cells_5 : decode cX8_cells 5 = .ok (.getfield 38, 3) := by decide +kernel
theorem dX8_cells_8 : decode cX8_cells 8 = .ok (.imul, 1) := by decide +kernel
theorem dX8_cells_9 : decode cX8_cells 9 = .ok (.ireturn, 1) := by decide +kernel
theorem dX8_hasCell_0 : decode cX8_hasCell 0 = .ok (.iload_n 1, 1) := by decide +kernel
theorem dX8_hasCell_1 : decode cX8_hasCell 1 = .ok (.ifCond .lt 26, 3) := by decide +kernel
theorem dX8_hasCell_4 : decode cX8_hasCell 4 = .ok (.iload_n 1, 1) := by decide +kernel
theorem dX8_hasCell_5 : decode cX8_hasCell 5 = .ok (.aload_n 0, 1) := by decide +kernel
theorem dX8_hasCell_6 : decode cX8_hasCell 6 = .ok (.getfield 34, 3) := by decide +kernel
theorem dX8_hasCell_9 : decode cX8_hasCell 9 = .ok (.aload_n 0, 1) := by decide +kernel
theorem dX8_hasCell_10 : decode cX8_hasCell 10 = .ok (.getfield 38, 3) := by decide +kernel
theorem dX8_hasCell_13 : decode cX8_hasCell 13 = .ok (.imul, 1) := by decide +kernel
theorem dX8_hasCell_14 : decode cX8_hasCell 14 = .ok (.if_icmp .ge 13, 3) := by decide +kernel
theorem dX8_hasCell_17 : decode cX8_hasCell 17 = .ok (.iload_n 1, 1) := by decide +kernel
theorem dX8_hasCell_18 : decode cX8_hasCell 18 = .ok (.bipush 81, 2) := by decide +kernel
theorem dX8_hasCell_20 : decode cX8_hasCell 20 = .ok (.if_icmp .ge 7, 3) := by decide +kernel
theorem dX8_hasCell_23 : decode cX8_hasCell 23 = .ok (.iconst 1, 1) := by decide +kernel
theorem dX8_hasCell_24 : decode cX8_hasCell 24 = .ok (.goto 4, 3) := by decide +kernel
theorem dX8_hasCell_27 : decode cX8_hasCell 27 = .ok (.iconst 0, 1) := by decide +kernel
theorem dX8_hasCell_28 : decode cX8_hasCell 28 = .ok (.ireturn, 1) := by decide +kernel
theorem dX8_cellAt_0 : decode cX8_cellAt 0 = .ok (.iload_n 1, 1) := by decide +kernel
theorem dX8_cellAt_1 : decode cX8_cellAt 1 = .ok (.ifCond .lt 27, 3) := by decide +kernel
theorem dX8_cellAt_4 : decode cX8_cellAt 4 = .ok (.iload_n 1, 1) := by decide +kernel
theorem dX8_cellAt_5 : decode cX8_cellAt 5 = .ok (.aload_n 0, 1) := by decide +kernel
theorem dX8_cellAt_6 : decode cX8_cellAt 6 = .ok (.getfield 34, 3) := by decide +kernel
theorem dX8_cellAt_9 : decode cX8_cellAt 9 = .ok (.if_icmp .ge 19, 3) := by decide +kernel
theorem dX8_cellAt_12 : decode cX8_cellAt 12 = .ok (.iload_n 2, 1) := by decide +kernel
theorem dX8_cellAt_13 : decode cX8_cellAt 13 = .ok (.ifCond .lt 15, 3) := by decide +kernel
theorem dX8_cellAt_16 : decode cX8_cellAt 16 = .ok (.iload_n 2, 1) := by decide +kernel
theorem dX8_cellAt_17 : decode cX8_cellAt 17 = .ok (.aload_n 0, 1) := by decide +kernel
theorem dX8_cellAt_18 : decode cX8_cellAt 18 = .ok (.getfield 38, 3) := by decide +kernel
theorem dX8_cellAt_21 : decode cX8_cellAt 21 = .ok (.if_icmp .ge 7, 3) := by decide +kernel
theorem dX8_cellAt_24 : decode cX8_cellAt 24 = .ok (.iconst 1, 1) := by decide +kernel
theorem dX8_cellAt_25 : decode cX8_cellAt 25 = .ok (.goto 4, 3) := by decide +kernel
theorem dX8_cellAt_28 : decode cX8_cellAt 28 = .ok (.iconst 0, 1) := by decide +kernel
theorem dX8_cellAt_29 : decode cX8_cellAt 29 = .ok (.istore_n 3, 1) := by decide +kernel
theorem dX8_cellAt_30 : decode cX8_cellAt 30 = .ok (.iload_n 3, 1) := by decide +kernel
theorem dX8_cellAt_31 : decode cX8_cellAt 31 = .ok (.ifCond .eq 14, 3) := by decide +kernel
theorem dX8_cellAt_34 : decode cX8_cellAt 34 = .ok (.aload_n 0, 1) := by decide +kernel
theorem dX8_cellAt_35 : decode cX8_cellAt 35 = .ok (.getfield 34, 3) := by decide +kernel
theorem dX8_cellAt_38 : decode cX8_cellAt 38 = .ok (.iload_n 2, 1) := by decide +kernel
theorem dX8_cellAt_39 : decode cX8_cellAt 39 = .ok (.imul, 1) := by decide +kernel
theorem dX8_cellAt_40 : decode cX8_cellAt 40 = .ok (.iload_n 1, 1) := by decide +kernel
theorem dX8_cellAt_41 : decode cX8_cellAt 41 = .ok (.iadd, 1) := by decide +kernel
theorem dX8_cellAt_42 : decode cX8_cellAt 42 = .ok (.goto 4, 3) := by decide +kernel
theorem dX8_cellAt_45 : decode cX8_cellAt 45 = .ok (.iconst (-1), 1) := by decide +kernel
theorem dX8_cellAt_46 : decode cX8_cellAt 46 = .ok (.ireturn, 1) := by decide +kernel
theorem dX8_beside_0 : decode cX8_beside 0 = .ok (.iload_n 1, 1) := by decide +kernel
theorem dX8_beside_1 : decode cX8_beside 1 = .ok (.ifCond .lt 30, 3) := by decide +kernel
theorem dX8_beside_4 : decode cX8_beside 4 = .ok (.iload_n 1, 1) := by decide +kernel
theorem dX8_beside_5 : decode cX8_beside 5 = .ok (.aload_n 0, 1) := by decide +kernel
theorem dX8_beside_6 : decode cX8_beside 6 = .ok (.getfield 34, 3) := by decide +kernel
theorem dX8_beside_9 : decode cX8_beside 9 = .ok (.aload_n 0, 1) := by decide +kernel
theorem dX8_beside_10 : decode cX8_beside 10 = .ok (.getfield 38, 3) := by decide +kernel
theorem dX8_beside_13 : decode cX8_beside 13 = .ok (.imul, 1) := by decide +kernel
theorem dX8_beside_14 : decode cX8_beside 14 = .ok (.if_icmp .ge 17, 3) := by decide +kernel
theorem dX8_beside_17 : decode cX8_beside 17 = .ok (.iload_n 2, 1) := by decide +kernel
theorem dX8_beside_18 : decode cX8_beside 18 = .ok (.ifCond .lt 13, 3) := by decide +kernel
theorem dX8_beside_21 : decode cX8_beside 21 = .ok (.iload_n 2, 1) := by decide +kernel
theorem dX8_beside_22 : decode cX8_beside 22 = .ok (.bipush 6, 2) := by decide +kernel
theorem dX8_beside_24 : decode cX8_beside 24 = .ok (.if_icmp .ge 7, 3) := by decide +kernel
theorem dX8_beside_27 : decode cX8_beside 27 = .ok (.iconst 1, 1) := by decide +kernel
theorem dX8_beside_28 : decode cX8_beside 28 = .ok (.goto 4, 3) := by decide +kernel
theorem dX8_beside_31 : decode cX8_beside 31 = .ok (.iconst 0, 1) := by decide +kernel
theorem dX8_beside_32 : decode cX8_beside 32 = .ok (.istore_n 3, 1) := by decide +kernel
theorem dX8_beside_33 : decode cX8_beside 33 = .ok (.iload_n 3, 1) := by decide +kernel
theorem dX8_beside_34 : decode cX8_beside 34 = .ok (.ifCond .eq 12, 3) := by decide +kernel
theorem dX8_beside_37 : decode cX8_beside 37 = .ok (.iload_n 1, 1) := by decide +kernel
theorem dX8_beside_38 : decode cX8_beside 38 = .ok (.bipush 6, 2) := by decide +kernel
theorem dX8_beside_40 : decode cX8_beside 40 = .ok (.imul, 1) := by decide +kernel
theorem dX8_beside_41 : decode cX8_beside 41 = .ok (.iload_n 2, 1) := by decide +kernel
theorem dX8_beside_42 : decode cX8_beside 42 = .ok (.iadd, 1) := by decide +kernel
theorem dX8_beside_43 : decode cX8_beside 43 = .ok (.goto 4, 3) := by decide +kernel
theorem dX8_beside_46 : decode cX8_beside 46 = .ok (.iconst (-1), 1) := by decide +kernel
theorem dX8_beside_47 : decode cX8_beside 47 = .ok (.istore 4, 2) := by decide +kernel
theorem dX8_beside_49 : decode cX8_beside 49 = .ok (.iload 4, 2) := by decide +kernel
theorem dX8_beside_51 : decode cX8_beside 51 = .ok (.ifCond .lt 23, 3) := by decide +kernel
theorem dX8_beside_54 : decode cX8_beside 54 = .ok (.iload 4, 2) := by decide +kernel
theorem dX8_beside_56 : decode cX8_beside 56 = .ok (.aload_n 0, 1) := by decide +kernel
theorem dX8_beside_57 : decode cX8_beside 57 = .ok (.getfield 15, 3) := by decide +kernel
theorem dX8_beside_60 : decode cX8_beside 60 = .ok (.arraylength, 1) := by decide +kernel
theorem dX8_beside_61 : decode cX8_beside 61 = .ok (.if_icmp .ge 13, 3) := by decide +kernel
theorem dX8_beside_64 : decode cX8_beside 64 = .ok (.aload_n 0, 1) := by decide +kernel
theorem dX8_beside_65 : decode cX8_beside 65 = .ok (.getfield 15, 3) := by decide +kernel
theorem dX8_beside_68 : decode cX8_beside 68 = .ok (.iload 4, 2) := by decide +kernel
theorem dX8_beside_70 : decode cX8_beside 70 = .ok (.iaload, 1) := by decide +kernel
theorem dX8_beside_71 : decode cX8_beside 71 = .ok (.goto 4, 3) := by decide +kernel
theorem dX8_beside_74 : decode cX8_beside 74 = .ok (.iconst (-1), 1) := by decide +kernel
theorem dX8_beside_75 : decode cX8_beside 75 = .ok (.ireturn, 1) := by decide +kernel
theorem dX8_ownerAt_0 : decode cX8_ownerAt 0 = .ok (.iload_n 1, 1) := by decide +kernel
theorem dX8_ownerAt_1 : decode cX8_ownerAt 1 = .ok (.ifCond .lt 21, 3) := by decide +kernel
theorem dX8_ownerAt_4 : decode cX8_ownerAt 4 = .ok (.iload_n 1, 1) := by decide +kernel
theorem dX8_ownerAt_5 : decode cX8_ownerAt 5 = .ok (.aload_n 0, 1) := by decide +kernel
theorem dX8_ownerAt_6 : decode cX8_ownerAt 6 = .ok (.getfield 9, 3) := by decide +kernel
theorem dX8_ownerAt_9 : decode cX8_ownerAt 9 = .ok (.arraylength, 1) := by decide +kernel
theorem dX8_ownerAt_10 : decode cX8_ownerAt 10 = .ok (.if_icmp .ge 12, 3) := by decide +kernel
theorem dX8_ownerAt_13 : decode cX8_ownerAt 13 = .ok (.aload_n 0, 1) := by decide +kernel
theorem dX8_ownerAt_14 : decode cX8_ownerAt 14 = .ok (.getfield 9, 3) := by decide +kernel
theorem dX8_ownerAt_17 : decode cX8_ownerAt 17 = .ok (.iload_n 1, 1) := by decide +kernel
theorem dX8_ownerAt_18 : decode cX8_ownerAt 18 = .ok (.iaload, 1) := by decide +kernel
theorem dX8_ownerAt_19 : decode cX8_ownerAt 19 = .ok (.goto 4, 3) := by decide +kernel
theorem dX8_ownerAt_22 : decode cX8_ownerAt 22 = .ok (.iconst 0, 1) := by decide +kernel
theorem dX8_ownerAt_23 : decode cX8_ownerAt 23 = .ok (.ireturn, 1) := by decide +kernel
theorem dX8_isAtShore_0 : decode cX8_isAtShore 0 = .ok (.iload_n 3, 1) := by decide +kernel
theorem dX8_isAtShore_1 : decode cX8_isAtShore 1 = .ok (.ifCond .lt 9, 3) := by decide +kernel
theorem dX8_isAtShore_4 : decode cX8_isAtShore 4 = .ok (.iload_n 3, 1) := by decide +kernel
theorem dX8_isAtShore_5 : decode cX8_isAtShore 5 = .ok (.bipush 81, 2) := by decide +kernel
theorem dX8_isAtShore_7 : decode cX8_isAtShore 7 = .ok (.if_icmp .lt 5, 3) := by decide +kernel
theorem dX8_isAtShore_10 : decode cX8_isAtShore 10 = .ok (.iconst 0, 1) := by decide +kernel
theorem dX8_isAtShore_11 : decode cX8_isAtShore 11 = .ok (.ireturn, 1) := by decide +kernel
theorem dX8_isAtShore_12 : decode cX8_isAtShore 12 = .ok (.iload_n 1, 1) := by decide +kernel
theorem dX8_isAtShore_13 : decode cX8_isAtShore 13 = .ok (.ifCond .ne 12, 3) := by decide +kernel
theorem dX8_isAtShore_16 : decode cX8_isAtShore 16 = .ok (.aload_n 0, 1) := by decide +kernel
theorem dX8_isAtShore_17 : decode cX8_isAtShore 17 = .ok (.getfield 18, 3) := by decide +kernel
theorem dX8_isAtShore_20 : decode cX8_isAtShore 20 = .ok (.iload_n 3, 1) := by decide +kernel
theorem dX8_isAtShore_21 : decode cX8_isAtShore 21 = .ok (.iaload, 1) := by decide +kernel
theorem dX8_isAtShore_22 : decode cX8_isAtShore 22 = .ok (.goto 9, 3) := by decide +kernel
theorem dX8_isAtShore_25 : decode cX8_isAtShore 25 = .ok (.aload_n 0, 1) := by decide +kernel
theorem dX8_isAtShore_26 : decode cX8_isAtShore 26 = .ok (.getfield 21, 3) := by decide +kernel
theorem dX8_isAtShore_29 : decode cX8_isAtShore 29 = .ok (.iload_n 3, 1) := by decide +kernel
theorem dX8_isAtShore_30 : decode cX8_isAtShore 30 = .ok (.iaload, 1) := by decide +kernel
theorem dX8_isAtShore_31 : decode cX8_isAtShore 31 = .ok (.istore 4, 2) := by decide +kernel
theorem dX8_isAtShore_33 : decode cX8_isAtShore 33 = .ok (.iload_n 1, 1) := by decide +kernel
theorem dX8_isAtShore_34 : decode cX8_isAtShore 34 = .ok (.ifCond .ne 12, 3) := by decide +kernel
theorem dX8_isAtShore_37 : decode cX8_isAtShore 37 = .ok (.aload_n 0, 1) := by decide +kernel
theorem dX8_isAtShore_38 : decode cX8_isAtShore 38 = .ok (.getfield 34, 3) := by decide +kernel
theorem dX8_isAtShore_41 : decode cX8_isAtShore 41 = .ok (.iconst 1, 1) := by decide +kernel
theorem dX8_isAtShore_42 : decode cX8_isAtShore 42 = .ok (.isub, 1) := by decide +kernel
theorem dX8_isAtShore_43 : decode cX8_isAtShore 43 = .ok (.goto 9, 3) := by decide +kernel
theorem dX8_isAtShore_46 : decode cX8_isAtShore 46 = .ok (.aload_n 0, 1) := by decide +kernel
theorem dX8_isAtShore_47 : decode cX8_isAtShore 47 = .ok (.getfield 38, 3) := by decide +kernel
theorem dX8_isAtShore_50 : decode cX8_isAtShore 50 = .ok (.iconst 1, 1) := by decide +kernel
theorem dX8_isAtShore_51 : decode cX8_isAtShore 51 = .ok (.isub, 1) := by decide +kernel
theorem dX8_isAtShore_52 : decode cX8_isAtShore 52 = .ok (.istore 5, 2) := by decide +kernel
theorem dX8_isAtShore_54 : decode cX8_isAtShore 54 = .ok (.iload 4, 2) := by decide +kernel
theorem dX8_isAtShore_56 : decode cX8_isAtShore 56 = .ok (.iload_n 2, 1) := by decide +kernel
theorem dX8_isAtShore_57 : decode cX8_isAtShore 57 = .ok (.ifCond .ne 7, 3) := by decide +kernel
theorem dX8_isAtShore_60 : decode cX8_isAtShore 60 = .ok (.iconst 0, 1) := by decide +kernel
theorem dX8_isAtShore_61 : decode cX8_isAtShore 61 = .ok (.goto 5, 3) := by decide +kernel
theorem dX8_isAtShore_64 : decode cX8_isAtShore 64 = .ok (.iload 5, 2) := by decide +kernel
theorem dX8_isAtShore_66 : decode cX8_isAtShore 66 = .ok (.if_icmp .ne 7, 3) := by decide +kernel
theorem dX8_isAtShore_69 : decode cX8_isAtShore 69 = .ok (.iconst 1, 1) := by decide +kernel
theorem dX8_isAtShore_70 : decode cX8_isAtShore 70 = .ok (.goto 4, 3) := by decide +kernel
theorem dX8_isAtShore_73 : decode cX8_isAtShore 73 = .ok (.iconst 0, 1) := by decide +kernel
theorem dX8_isAtShore_74 : decode cX8_isAtShore 74 = .ok (.ireturn, 1) := by decide +kernel
theorem dX8_stonesOf_0 : decode cX8_stonesOf 0 = .ok (.iload_n 1, 1) := by decide +kernel
theorem dX8_stonesOf_1 : decode cX8_stonesOf 1 = .ok (.ifCond .lt 21, 3) := by decide +kernel
theorem dX8_stonesOf_4 : decode cX8_stonesOf 4 = .ok (.iload_n 1, 1) := by decide +kernel
theorem dX8_stonesOf_5 : decode cX8_stonesOf 5 = .ok (.aload_n 0, 1) := by decide +kernel
theorem dX8_stonesOf_6 : decode cX8_stonesOf 6 = .ok (.getfield 24, 3) := by decide +kernel
theorem dX8_stonesOf_9 : decode cX8_stonesOf 9 = .ok (.arraylength, 1) := by decide +kernel
theorem dX8_stonesOf_10 : decode cX8_stonesOf 10 = .ok (.if_icmp .ge 12, 3) := by decide +kernel
theorem dX8_stonesOf_13 : decode cX8_stonesOf 13 = .ok (.aload_n 0, 1) := by decide +kernel
theorem dX8_stonesOf_14 : decode cX8_stonesOf 14 = .ok (.getfield 24, 3) := by decide +kernel
theorem dX8_stonesOf_17 : decode cX8_stonesOf 17 = .ok (.iload_n 1, 1) := by decide +kernel
theorem dX8_stonesOf_18 : decode cX8_stonesOf 18 = .ok (.iaload, 1) := by decide +kernel
theorem dX8_stonesOf_19 : decode cX8_stonesOf 19 = .ok (.goto 4, 3) := by decide +kernel
theorem dX8_stonesOf_22 : decode cX8_stonesOf 22 = .ok (.iconst 0, 1) := by decide +kernel
theorem dX8_stonesOf_23 : decode cX8_stonesOf 23 = .ok (.ireturn, 1) := by decide +kernel
theorem dX8_stones_0 : decode cX8_stones 0 = .ok (.aload_n 0, 1) := by decide +kernel
theorem dX8_stones_1 : decode cX8_stones 1 = .ok (.getfield 24, 3) := by decide +kernel
theorem dX8_stones_4 : decode cX8_stones 4 = .ok (.iconst 0, 1) := by decide +kernel
theorem dX8_stones_5 : decode cX8_stones 5 = .ok (.iaload, 1) := by decide +kernel
theorem dX8_stones_6 : decode cX8_stones 6 = .ok (.aload_n 0, 1) := by decide +kernel
theorem dX8_stones_7 : decode cX8_stones 7 = .ok (.getfield 24, 3) := by decide +kernel
theorem dX8_stones_10 : decode cX8_stones 10 = .ok (.iconst 1, 1) := by decide +kernel
theorem dX8_stones_11 : decode cX8_stones 11 = .ok (.iaload, 1) := by decide +kernel
theorem dX8_stones_12 : decode cX8_stones 12 = .ok (.iadd, 1) := by decide +kernel
theorem dX8_stones_13 : decode cX8_stones 13 = .ok (.ireturn, 1) := by decide +kernel
theorem dX8_freeCells_0 : decode cX8_freeCells 0 = .ok (.aload_n 0, 1) := by decide +kernel
theorem dX8_freeCells_1 : decode cX8_freeCells 1 = .ok (.invokevirtual 66, 3) := by decide +kernel
theorem dX8_freeCells_4 : decode cX8_freeCells 4 = .ok (.aload_n 0, 1) := by decide +kernel
theorem dX8_freeCells_5 : decode cX8_freeCells 5 = .ok (.invokevirtual 70, 3) := by decide +kernel
theorem dX8_freeCells_8 : decode cX8_freeCells 8 = .ok (.isub, 1) := by decide +kernel
theorem dX8_freeCells_9 : decode cX8_freeCells 9 = .ok (.ireturn, 1) := by decide +kernel
theorem dX8_turn_0 : decode cX8_turn 0 = .ok (.aload_n 0, 1) := by decide +kernel
theorem dX8_turn_1 : decode cX8_turn 1 = .ok (.iconst 0, 1) := by decide +kernel
theorem dX8_turn_2 : decode cX8_turn 2 = .ok (.invokevirtual 72, 3) := by decide +kernel
theorem dX8_turn_5 : decode cX8_turn 5 = .ok (.aload_n 0, 1) := by decide +kernel
theorem dX8_turn_6 : decode cX8_turn 6 = .ok (.iconst 1, 1) := by decide +kernel
theorem dX8_turn_7 : decode cX8_turn 7 = .ok (.invokevirtual 72, 3) := by decide +kernel
theorem dX8_turn_10 : decode cX8_turn 10 = .ok (.if_icmp .gt 7, 3) := by decide +kernel
theorem dX8_turn_13 : decode cX8_turn 13 = .ok (.iconst 0, 1) := by decide +kernel
theorem dX8_turn_14 : decode cX8_turn 14 = .ok (.goto 4, 3) := by decide +kernel
theorem dX8_turn_17 : decode cX8_turn 17 = .ok (.iconst 1, 1) := by decide +kernel
theorem dX8_turn_18 : decode cX8_turn 18 = .ok (.ireturn, 1) := by decide +kernel
theorem dX8_laidStones_0 : decode cX8_laidStones 0 = .ok (.aload_n 0, 1) := by decide +kernel
theorem dX8_laidStones_1 : decode cX8_laidStones 1 = .ok (.getfield 41, 3) := by decide +kernel
theorem dX8_laidStones_4 : decode cX8_laidStones 4 = .ok (.ireturn, 1) := by decide +kernel
theorem dX8_changes_0 : decode cX8_changes 0 = .ok (.aload_n 0, 1) := by decide +kernel
theorem dX8_changes_1 : decode cX8_changes 1 = .ok (.getfield 44, 3) := by decide +kernel
theorem dX8_changes_4 : decode cX8_changes 4 = .ok (.ireturn, 1) := by decide +kernel
theorem dX8_put_0 : decode cX8_put 0 = .ok (.aload_n 0, 1) := by decide +kernel
theorem dX8_put_1 : decode cX8_put 1 = .ok (.iload_n 1, 1) := by decide +kernel
theorem dX8_put_2 : decode cX8_put 2 = .ok (.invokevirtual 76, 3) := by decide +kernel
theorem dX8_put_5 : decode cX8_put 5 = .ok (.ifCond .eq 37, 3) := by decide +kernel
theorem dX8_put_8 : decode cX8_put 8 = .ok (.aload_n 0, 1) := by decide +kernel
theorem dX8_put_9 : decode cX8_put 9 = .ok (.aload_n 0, 1) := by decide +kernel
theorem dX8_put_10 : decode cX8_put 10 = .ok (.getfield 9, 3) := by decide +kernel
theorem dX8_put_13 : decode cX8_put 13 = .ok (.iload_n 1, 1) := by decide +kernel
theorem dX8_put_14 : decode cX8_put 14 = .ok (.iaload, 1) := by decide +kernel
theorem dX8_put_15 : decode cX8_put 15 = .ok (.iconst (-1), 1) := by decide +kernel
theorem dX8_put_16 : decode cX8_put 16 = .ok (.invokevirtual 80, 3) := by decide +kernel
theorem dX8_put_19 : decode cX8_put 19 = .ok (.aload_n 0, 1) := by decide +kernel
theorem dX8_put_20 : decode cX8_put 20 = .ok (.iload_n 2, 1) := by decide +kernel
theorem dX8_put_21 : decode cX8_put 21 = .ok (.iconst 1, 1) := by decide +kernel
theorem dX8_put_22 : decode cX8_put 22 = .ok (.invokevirtual 80, 3) := by decide +kernel
theorem dX8_put_25 : decode cX8_put 25 = .ok (.aload_n 0, 1) := by decide +kernel
theorem dX8_put_26 : decode cX8_put 26 = .ok (.getfield 9, 3) := by decide +kernel
theorem dX8_put_29 : decode cX8_put 29 = .ok (.iload_n 1, 1) := by decide +kernel
theorem dX8_put_30 : decode cX8_put 30 = .ok (.iload_n 2, 1) := by decide +kernel
theorem dX8_put_31 : decode cX8_put 31 = .ok (.iastore, 1) := by decide +kernel
theorem dX8_put_32 : decode cX8_put 32 = .ok (.aload_n 0, 1) := by decide +kernel
theorem dX8_put_33 : decode cX8_put 33 = .ok (.dup, 1) := by decide +kernel
theorem dX8_put_34 : decode cX8_put 34 = .ok (.getfield 44, 3) := by decide +kernel
theorem dX8_put_37 : decode cX8_put 37 = .ok (.iconst 1, 1) := by decide +kernel
theorem dX8_put_38 : decode cX8_put 38 = .ok (.iadd, 1) := by decide +kernel
theorem dX8_put_39 : decode cX8_put 39 = .ok (.putfield 44, 3) := by decide +kernel
theorem dX8_put_42 : decode cX8_put 42 = .ok (.return_, 1) := by decide +kernel
theorem dX8_countStone_0 : decode cX8_countStone 0 = .ok (.iload_n 1, 1) := by decide +kernel
theorem dX8_countStone_1 : decode cX8_countStone 1 = .ok (.iconst 1, 1) := by decide +kernel
theorem dX8_countStone_2 : decode cX8_countStone 2 = .ok (.isub, 1) := by decide +kernel
theorem dX8_countStone_3 : decode cX8_countStone 3 = .ok (.istore_n 3, 1) := by decide +kernel
theorem dX8_countStone_4 : decode cX8_countStone 4 = .ok (.iload_n 3, 1) := by decide +kernel
theorem dX8_countStone_5 : decode cX8_countStone 5 = .ok (.ifCond .lt 22, 3) := by decide +kernel
theorem dX8_countStone_8 : decode cX8_countStone 8 = .ok (.iload_n 3, 1) := by decide +kernel
theorem dX8_countStone_9 : decode cX8_countStone 9 = .ok (.aload_n 0, 1) := by decide +kernel
theorem dX8_countStone_10 : decode cX8_countStone 10 = .ok (.getfield 24, 3) := by decide +kernel
theorem dX8_countStone_13 : decode cX8_countStone 13 = .ok (.arraylength, 1) := by decide +kernel
theorem dX8_countStone_14 : decode cX8_countStone 14 = .ok (.if_icmp .ge 13, 3) := by decide +kernel
theorem dX8_countStone_17 : decode cX8_countStone 17 = .ok (.aload_n 0, 1) := by decide +kernel
theorem dX8_countStone_18 : decode cX8_countStone 18 = .ok (.getfield 24, 3) := by decide +kernel
theorem dX8_countStone_21 : decode cX8_countStone 21 = .ok (.iload_n 3, 1) := by decide +kernel
theorem dX8_countStone_22 : decode cX8_countStone 22 = .ok (.dup2, 1) := by decide +kernel
theorem dX8_countStone_23 : decode cX8_countStone 23 = .ok (.iaload, 1) := by decide +kernel
theorem dX8_countStone_24 : decode cX8_countStone 24 = .ok (.iload_n 2, 1) := by decide +kernel
theorem dX8_countStone_25 : decode cX8_countStone 25 = .ok (.iadd, 1) := by decide +kernel
theorem dX8_countStone_26 : decode cX8_countStone 26 = .ok (.iastore, 1) := by decide +kernel
theorem dX8_countStone_27 : decode cX8_countStone 27 = .ok (.return_, 1) := by decide +kernel
theorem dX8_lay_0 : decode cX8_lay 0 = .ok (.aload_n 0, 1) := by decide +kernel
theorem dX8_lay_1 : decode cX8_lay 1 = .ok (.iload_n 1, 1) := by decide +kernel
theorem dX8_lay_2 : decode cX8_lay 2 = .ok (.invokevirtual 76, 3) := by decide +kernel
theorem dX8_lay_5 : decode cX8_lay 5 = .ok (.ifCond .eq 50, 3) := by decide +kernel
theorem dX8_lay_8 : decode cX8_lay 8 = .ok (.aload_n 0, 1) := by decide +kernel
theorem dX8_lay_9 : decode cX8_lay 9 = .ok (.getfield 41, 3) := by decide +kernel
theorem dX8_lay_12 : decode cX8_lay 12 = .ok (.ifCond .lt 43, 3) := by decide +kernel
theorem dX8_lay_15 : decode cX8_lay 15 = .ok (.aload_n 0, 1) := by decide +kernel
theorem dX8_lay_16 : decode cX8_lay 16 = .ok (.getfield 41, 3) := by decide +kernel
theorem dX8_lay_19 : decode cX8_lay 19 = .ok (.aload_n 0, 1) := by decide +kernel
theorem dX8_lay_20 : decode cX8_lay 20 = .ok (.getfield 27, 3) := by decide +kernel
theorem dX8_lay_23 : decode cX8_lay 23 = .ok (.arraylength, 1) := by decide +kernel
theorem dX8_lay_24 : decode cX8_lay 24 = .ok (.if_icmp .ge 31, 3) := by decide +kernel
theorem dX8_lay_27 : decode cX8_lay 27 = .ok (.aload_n 0, 1) := by decide +kernel
theorem dX8_lay_28 : decode cX8_lay 28 = .ok (.iload_n 1, 1) := by decide +kernel
theorem dX8_lay_29 : decode cX8_lay 29 = .ok (.iload_n 2, 1) := by decide +kernel
theorem dX8_lay_30 : decode cX8_lay 30 = .ok (.iconst 1, 1) := by decide +kernel
theorem dX8_lay_31 : decode cX8_lay 31 = .ok (.iadd, 1) := by decide +kernel
theorem dX8_lay_32 : decode cX8_lay 32 = .ok (.invokevirtual 83, 3) := by decide +kernel
theorem dX8_lay_35 : decode cX8_lay 35 = .ok (.aload_n 0, 1) := by decide +kernel
theorem dX8_lay_36 : decode cX8_lay 36 = .ok (.getfield 27, 3) := by decide +kernel
theorem dX8_lay_39 : decode cX8_lay 39 = .ok (.aload_n 0, 1) := by decide +kernel
theorem dX8_lay_40 : decode cX8_lay 40 = .ok (.getfield 41, 3) := by decide +kernel
theorem dX8_lay_43 : decode cX8_lay 43 = .ok (.iload_n 1, 1) := by decide +kernel
theorem dX8_lay_44 : decode cX8_lay 44 = .ok (.iastore, 1) := by decide +kernel
theorem dX8_lay_45 : decode cX8_lay 45 = .ok (.aload_n 0, 1) := by decide +kernel
theorem dX8_lay_46 : decode cX8_lay 46 = .ok (.dup, 1) := by decide +kernel
theorem dX8_lay_47 : decode cX8_lay 47 = .ok (.getfield 41, 3) := by decide +kernel
theorem dX8_lay_50 : decode cX8_lay 50 = .ok (.iconst 1, 1) := by decide +kernel
theorem dX8_lay_51 : decode cX8_lay 51 = .ok (.iadd, 1) := by decide +kernel
theorem dX8_lay_52 : decode cX8_lay 52 = .ok (.putfield 41, 3) := by decide +kernel
theorem dX8_lay_55 : decode cX8_lay 55 = .ok (.return_, 1) := by decide +kernel
theorem dX8_liftLatest_0 : decode cX8_liftLatest 0 = .ok (.aload_n 0, 1) := by decide +kernel
theorem dX8_liftLatest_1 : decode cX8_liftLatest 1 = .ok (.getfield 41, 3) := by decide +kernel
theorem dX8_liftLatest_4 : decode cX8_liftLatest 4 = .ok (.ifCond .le 15, 3) := by decide +kernel
theorem dX8_liftLatest_7 : decode cX8_liftLatest 7 = .ok (.aload_n 0, 1) := by decide +kernel
theorem dX8_liftLatest_8 : decode cX8_liftLatest 8 = .ok (.getfield 41, 3) := by decide +kernel
theorem dX8_liftLatest_11 : decode cX8_liftLatest 11 = .ok (.aload_n 0, 1) := by decide +kernel
theorem dX8_liftLatest_12 : decode cX8_liftLatest 12 = .ok (.getfield 27, 3) := by decide +kernel
theorem dX8_liftLatest_15 : decode cX8_liftLatest 15 = .ok (.arraylength, 1) := by decide +kernel
theorem dX8_liftLatest_16 : decode cX8_liftLatest 16 = .ok (.if_icmp .le 5, 3) := by decide +kernel
theorem dX8_liftLatest_19 : decode cX8_liftLatest 19 = .ok (.iconst (-1), 1) := by decide +kernel
theorem dX8_liftLatest_20 : decode cX8_liftLatest 20 = .ok (.ireturn, 1) := by decide +kernel
theorem dX8_liftLatest_21 : decode cX8_liftLatest 21 = .ok (.aload_n 0, 1) := by decide +kernel
theorem dX8_liftLatest_22 : decode cX8_liftLatest 22 = .ok (.dup, 1) := by decide +kernel
theorem dX8_liftLatest_23 : decode cX8_liftLatest 23 = .ok (.getfield 41, 3) := by decide +kernel
theorem dX8_liftLatest_26 : decode cX8_liftLatest 26 = .ok (.iconst 1, 1) := by decide +kernel
theorem dX8_liftLatest_27 : decode cX8_liftLatest 27 = .ok (.isub, 1) := by decide +kernel
theorem dX8_liftLatest_28 : decode cX8_liftLatest 28 = .ok (.putfield 41, 3) := by decide +kernel
theorem dX8_liftLatest_31 : decode cX8_liftLatest 31 = .ok (.aload_n 0, 1) := by decide +kernel
theorem dX8_liftLatest_32 : decode cX8_liftLatest 32 = .ok (.getfield 27, 3) := by decide +kernel
theorem dX8_liftLatest_35 : decode cX8_liftLatest 35 = .ok (.aload_n 0, 1) := by decide +kernel
theorem dX8_liftLatest_36 : decode cX8_liftLatest 36 = .ok (.getfield 41, 3) := by decide +kernel
theorem dX8_liftLatest_39 : decode cX8_liftLatest 39 = .ok (.iaload, 1) := by decide +kernel
theorem dX8_liftLatest_40 : decode cX8_liftLatest 40 = .ok (.istore_n 1, 1) := by decide +kernel
theorem dX8_liftLatest_41 : decode cX8_liftLatest 41 = .ok (.aload_n 0, 1) := by decide +kernel
theorem dX8_liftLatest_42 : decode cX8_liftLatest 42 = .ok (.iload_n 1, 1) := by decide +kernel
theorem dX8_liftLatest_43 : decode cX8_liftLatest 43 = .ok (.iconst 0, 1) := by decide +kernel
theorem dX8_liftLatest_44 : decode cX8_liftLatest 44 = .ok (.invokevirtual 83, 3) := by decide +kernel
theorem dX8_liftLatest_47 : decode cX8_liftLatest 47 = .ok (.iload_n 1, 1) := by decide +kernel
theorem dX8_liftLatest_48 : decode cX8_liftLatest 48 = .ok (.ireturn, 1) := by decide +kernel
theorem dX8_isIced_0 : decode cX8_isIced 0 = .ok (.aload_n 0, 1) := by decide +kernel
theorem dX8_isIced_1 : decode cX8_isIced 1 = .ok (.iload_n 1, 1) := by decide +kernel
theorem dX8_isIced_2 : decode cX8_isIced 2 = .ok (.invokevirtual 76, 3) := by decide +kernel
theorem dX8_isIced_5 : decode cX8_isIced 5 = .ok (.ifCond .eq 12, 3) := by decide +kernel
theorem dX8_isIced_8 : decode cX8_isIced 8 = .ok (.aload_n 0, 1) := by decide +kernel
theorem dX8_isIced_9 : decode cX8_isIced 9 = .ok (.getfield 9, 3) := by decide +kernel
theorem dX8_isIced_12 : decode cX8_isIced 12 = .ok (.iload_n 1, 1) := by decide +kernel
theorem dX8_isIced_13 : decode cX8_isIced 13 = .ok (.iaload, 1) := by decide +kernel
theorem dX8_isIced_14 : decode cX8_isIced 14 = .ok (.ifCond .eq 5, 3) := by decide +kernel
theorem dX8_isIced_17 : decode cX8_isIced 17 = .ok (.iconst 0, 1) := by decide +kernel
theorem dX8_isIced_18 : decode cX8_isIced 18 = .ok (.ireturn, 1) := by decide +kernel
theorem dX8_isIced_19 : decode cX8_isIced 19 = .ok (.iconst 0, 1) := by decide +kernel
theorem dX8_isIced_20 : decode cX8_isIced 20 = .ok (.istore_n 2, 1) := by decide +kernel
theorem dX8_isIced_21 : decode cX8_isIced 21 = .ok (.iconst 0, 1) := by decide +kernel
theorem dX8_isIced_22 : decode cX8_isIced 22 = .ok (.istore_n 3, 1) := by decide +kernel
theorem dX8_isIced_23 : decode cX8_isIced 23 = .ok (.iconst 0, 1) := by decide +kernel
theorem dX8_isIced_24 : decode cX8_isIced 24 = .ok (.istore 4, 2) := by decide +kernel
theorem dX8_isIced_26 : decode cX8_isIced 26 = .ok (.iload 4, 2) := by decide +kernel
theorem dX8_isIced_28 : decode cX8_isIced 28 = .ok (.bipush 9, 2) := by decide +kernel
theorem dX8_isIced_30 : decode cX8_isIced 30 = .ok (.if_icmp .ge 61, 3) := by decide +kernel
theorem dX8_isIced_33 : decode cX8_isIced 33 = .ok (.aload_n 0, 1) := by decide +kernel
theorem dX8_isIced_34 : decode cX8_isIced 34 = .ok (.aload_n 0, 1) := by decide +kernel
theorem dX8_isIced_35 : decode cX8_isIced 35 = .ok (.getfield 18, 3) := by decide +kernel
theorem dX8_isIced_38 : decode cX8_isIced 38 = .ok (.iload_n 1, 1) := by decide +kernel
theorem dX8_isIced_39 : decode cX8_isIced 39 = .ok (.iaload, 1) := by decide +kernel
theorem dX8_isIced_40 : decode cX8_isIced 40 = .ok (.aload_n 0, 1) := by decide +kernel
theorem dX8_isIced_41 : decode cX8_isIced 41 = .ok (.getfield 21, 3) := by decide +kernel
theorem dX8_isIced_44 : decode cX8_isIced 44 = .ok (.iload_n 1, 1) := by decide +kernel
theorem dX8_isIced_45 : decode cX8_isIced 45 = .ok (.iaload, 1) := by decide +kernel
theorem dX8_isIced_46 : decode cX8_isIced 46 = .ok (.iload 4, 2) := by decide +kernel
theorem dX8_isIced_48 : decode cX8_isIced 48 = .ok (.bipush 6, 2) := by decide +kernel
theorem dX8_isIced_50 : decode cX8_isIced 50 = .ok (.irem, 1) := by decide +kernel
theorem dX8_isIced_51 : decode cX8_isIced 51 = .ok (.invokevirtual 86, 3) := by decide +kernel
theorem dX8_isIced_54 : decode cX8_isIced 54 = .ok (.istore 5, 2) := by decide +kernel
theorem dX8_isIced_56 : decode cX8_isIced 56 = .ok (.iload 5, 2) := by decide +kernel
theorem dX8_isIced_58 : decode cX8_isIced 58 = .ok (.iload_n 3, 1) := by decide +kernel
theorem dX8_isIced_59 : decode cX8_isIced 59 = .ok (.if_icmp .ne 9, 3) := by decide +kernel
theorem dX8_isIced_62 : decode cX8_isIced 62 = .ok (.iload_n 2, 1) := by decide +kernel
theorem dX8_isIced_63 : decode cX8_isIced 63 = .ok (.iconst 1, 1) := by decide +kernel
theorem dX8_isIced_64 : decode cX8_isIced 64 = .ok (.iadd, 1) := by decide +kernel
theorem dX8_isIced_65 : decode cX8_isIced 65 = .ok (.goto 4, 3) := by decide +kernel
theorem dX8_isIced_68 : decode cX8_isIced 68 = .ok (.iconst 1, 1) := by decide +kernel
theorem dX8_isIced_69 : decode cX8_isIced 69 = .ok (.istore_n 2, 1) := by decide +kernel
theorem dX8_isIced_70 : decode cX8_isIced 70 = .ok (.iload 5, 2) := by decide +kernel
theorem dX8_isIced_72 : decode cX8_isIced 72 = .ok (.istore_n 3, 1) := by decide +kernel
theorem dX8_isIced_73 : decode cX8_isIced 73 = .ok (.iload 5, 2) := by decide +kernel
theorem dX8_isIced_75 : decode cX8_isIced 75 = .ok (.ifCond .eq 10, 3) := by decide +kernel
theorem dX8_isIced_78 : decode cX8_isIced 78 = .ok (.iload_n 2, 1) := by decide +kernel
theorem dX8_isIced_79 : decode cX8_isIced 79 = .ok (.iconst 4, 1) := by decide +kernel
theorem dX8_isIced_80 : decode cX8_isIced 80 = .ok (.if_icmp .lt 5, 3) := by decide +kernel
theorem dX8_isIced_83 : decode cX8_isIced 83 = .ok (.iconst 1, 1) := by decide +kernel
theorem dX8_isIced_84 : decode cX8_isIced 84 = .ok (.ireturn, 1) := by decide +kernel
theorem dX8_isIced_85 : decode cX8_isIced 85 = .ok (.iinc 4 1, 3) := by decide +kernel
theorem dX8_isIced_88 : decode cX8_isIced 88 = .ok (.goto (-62), 3) := by decide +kernel
theorem dX8_isIced_91 : decode cX8_isIced 91 = .ok (.iconst 0, 1) := by decide +kernel
theorem dX8_isIced_92 : decode cX8_isIced 92 = .ok (.ireturn, 1) := by decide +kernel
theorem dX8_ownerAround_0 : decode cX8_ownerAround 0 = .ok (.iload_n 3, 1) := by decide +kernel
theorem dX8_ownerAround_1 : decode cX8_ownerAround 1 = .ok (.ifCond .lt 9, 3) := by decide +kernel
theorem dX8_ownerAround_4 : decode cX8_ownerAround 4 = .ok (.iload_n 3, 1) := by decide +kernel
theorem dX8_ownerAround_5 : decode cX8_ownerAround 5 = .ok (.bipush 6, 2) := by decide +kernel
theorem dX8_ownerAround_7 : decode cX8_ownerAround 7 = .ok (.if_icmp .lt 5, 3) := by decide +kernel
theorem dX8_ownerAround_10 : decode cX8_ownerAround 10 = .ok (.iconst 0, 1) := by decide +kernel
theorem dX8_ownerAround_11 : decode cX8_ownerAround 11 = .ok (.ireturn, 1) := by decide +kernel
theorem dX8_ownerAround_12 : decode cX8_ownerAround 12 = .ok (.iload_n 1, 1) := by decide +kernel
theorem dX8_ownerAround_13 : decode cX8_ownerAround 13 = .ok (.getstatic 56, 3) := by decide +kernel
theorem dX8_ownerAround_16 : decode cX8_ownerAround 16 = .ok (.iload_n 3, 1) := by decide +kernel
theorem dX8_ownerAround_17 : decode cX8_ownerAround 17 = .ok (.iaload, 1) := by decide +kernel
theorem dX8_ownerAround_18 : decode cX8_ownerAround 18 = .ok (.iadd, 1) := by decide +kernel
theorem dX8_ownerAround_19 : decode cX8_ownerAround 19 = .ok (.istore 4, 2) := by decide +kernel
theorem dX8_ownerAround_21 : decode cX8_ownerAround 21 = .ok (.iload_n 2, 1) := by decide +kernel
theorem dX8_ownerAround_22 : decode cX8_ownerAround 22 = .ok (.getstatic 59, 3) := by decide +kernel
theorem dX8_ownerAround_25 : decode cX8_ownerAround 25 = .ok (.iload_n 3, 1) := by decide +kernel
theorem dX8_ownerAround_26 : decode cX8_ownerAround 26 = .ok (.iaload, 1) := by decide +kernel
theorem dX8_ownerAround_27 : decode cX8_ownerAround 27 = .ok (.iadd, 1) := by decide +kernel
theorem dX8_ownerAround_28 : decode cX8_ownerAround 28 = .ok (.istore 5, 2) := by decide +kernel
theorem dX8_ownerAround_30 : decode cX8_ownerAround 30 = .ok (.iload 4, 2) := by decide +kernel
theorem dX8_ownerAround_32 : decode cX8_ownerAround 32 = .ok (.ifCond .lt 12, 3) := by decide +kernel
theorem dX8_ownerAround_35 : decode cX8_ownerAround 35 = .ok (.iload 4, 2) := by decide +kernel
theorem dX8_ownerAround_37 : decode cX8_ownerAround 37 = .ok (.aload_n 0, 1) := by decide +kernel
theorem dX8_ownerAround_38 : decode cX8_ownerAround 38 = .ok (.getfield 34, 3) := by decide +kernel
theorem dX8_ownerAround_41 : decode cX8_ownerAround 41 = .ok (.if_icmp .lt 7, 3) := by decide +kernel
theorem dX8_ownerAround_44 : decode cX8_ownerAround 44 = .ok (.iconst 1, 1) := by decide +kernel
theorem dX8_ownerAround_45 : decode cX8_ownerAround 45 = .ok (.goto 4, 3) := by decide +kernel
theorem dX8_ownerAround_48 : decode cX8_ownerAround 48 = .ok (.iconst 0, 1) := by decide +kernel
theorem dX8_ownerAround_49 : decode cX8_ownerAround 49 = .ok (.istore 6, 2) := by decide +kernel
theorem dX8_ownerAround_51 : decode cX8_ownerAround 51 = .ok (.iload 5, 2) := by decide +kernel
theorem dX8_ownerAround_53 : decode cX8_ownerAround 53 = .ok (.ifCond .lt 12, 3) := by decide +kernel
theorem dX8_ownerAround_56 : decode cX8_ownerAround 56 = .ok (.iload 5, 2) := by decide +kernel
theorem dX8_ownerAround_58 : decode cX8_ownerAround 58 = .ok (.aload_n 0, 1) := by decide +kernel
theorem dX8_ownerAround_59 : decode cX8_ownerAround 59 = .ok (.getfield 38, 3) := by decide +kernel
theorem dX8_ownerAround_62 : decode cX8_ownerAround 62 = .ok (.if_icmp .lt 7, 3) := by decide +kernel
theorem dX8_ownerAround_65 : decode cX8_ownerAround 65 = .ok (.iconst 1, 1) := by decide +kernel
theorem dX8_ownerAround_66 : decode cX8_ownerAround 66 = .ok (.goto 4, 3) := by decide +kernel
theorem dX8_ownerAround_69 : decode cX8_ownerAround 69 = .ok (.iconst 0, 1) := by decide +kernel
theorem dX8_ownerAround_70 : decode cX8_ownerAround 70 = .ok (.istore 7, 2) := by decide +kernel
theorem dX8_ownerAround_72 : decode cX8_ownerAround 72 = .ok (.iload 6, 2) := by decide +kernel
theorem dX8_ownerAround_74 : decode cX8_ownerAround 74 = .ok (.ifCond .eq 10, 3) := by decide +kernel
theorem dX8_ownerAround_77 : decode cX8_ownerAround 77 = .ok (.iload 7, 2) := by decide +kernel
theorem dX8_ownerAround_79 : decode cX8_ownerAround 79 = .ok (.ifCond .eq 5, 3) := by decide +kernel
theorem dX8_ownerAround_82 : decode cX8_ownerAround 82 = .ok (.iconst 0, 1) := by decide +kernel
theorem dX8_ownerAround_83 : decode cX8_ownerAround 83 = .ok (.ireturn, 1) := by decide +kernel
theorem dX8_ownerAround_84 : decode cX8_ownerAround 84 = .ok (.iload 6, 2) := by decide +kernel
theorem dX8_ownerAround_86 : decode cX8_ownerAround 86 = .ok (.ifCond .eq 5, 3) := by decide +kernel
theorem dX8_ownerAround_89 : decode cX8_ownerAround 89 = .ok (.iconst 1, 1) := by decide +kernel
theorem dX8_ownerAround_90 : decode cX8_ownerAround 90 = .ok (.ireturn, 1) := by decide +kernel
theorem dX8_ownerAround_91 : decode cX8_ownerAround 91 = .ok (.iload 7, 2) := by decide +kernel
theorem dX8_ownerAround_93 : decode cX8_ownerAround 93 = .ok (.ifCond .eq 7, 3) := by decide +kernel
theorem dX8_ownerAround_96 : decode cX8_ownerAround 96 = .ok (.iconst 2, 1) := by decide +kernel
theorem dX8_ownerAround_97 : decode cX8_ownerAround 97 = .ok (.goto 15, 3) := by decide +kernel
theorem dX8_ownerAround_100 : decode cX8_ownerAround 100 = .ok (.aload_n 0, 1) := by decide +kernel
theorem dX8_ownerAround_101 : decode cX8_ownerAround 101 = .ok (.aload_n 0, 1) := by decide +kernel
theorem dX8_ownerAround_102 : decode cX8_ownerAround 102 = .ok (.iload 4, 2) := by decide +kernel
theorem dX8_ownerAround_104 : decode cX8_ownerAround 104 = .ok (.iload 5, 2) := by decide +kernel
theorem dX8_ownerAround_106 : decode cX8_ownerAround 106 = .ok (.invokevirtual 62, 3) := by decide +kernel
theorem dX8_ownerAround_109 : decode cX8_ownerAround 109 = .ok (.invokevirtual 90, 3) := by decide +kernel
theorem dX8_ownerAround_112 : decode cX8_ownerAround 112 = .ok (.ireturn, 1) := by decide +kernel
theorem dX9_init_0 : decode cX9_init 0 = .ok (.aload_n 0, 1) := by decide +kernel
theorem dX9_init_1 : decode cX9_init 1 = .ok (.invokespecial 3, 3) := by decide +kernel
theorem dX9_init_4 : decode cX9_init 4 = .ok (.aload_n 0, 1) := by decide +kernel
theorem dX9_init_5 : decode cX9_init 5 = .ok (.sipush 2000, 3) := by decide +kernel
theorem dX9_init_8 : decode cX9_init 8 = .ok (.newarray .byte, 2) := by decide +kernel
theorem dX9_init_10 : decode cX9_init 10 = .ok (.putfield 9, 3) := by decide +kernel
theorem dX9_init_13 : decode cX9_init 13 = .ok (.return_, 1) := by decide +kernel
theorem dX9_length_0 : decode cX9_length 0 = .ok (.aload_n 0, 1) := by decide +kernel
theorem dX9_length_1 : decode cX9_length 1 = .ok (.getfield 15, 3) := by decide +kernel
theorem dX9_length_4 : decode cX9_length 4 = .ok (.ireturn, 1) := by decide +kernel
theorem dX9_byteAt_0 : decode cX9_byteAt 0 = .ok (.iload_n 1, 1) := by decide +kernel
theorem dX9_byteAt_1 : decode cX9_byteAt 1 = .ok (.ifCond .lt 33, 3) := by decide +kernel
theorem dX9_byteAt_4 : decode cX9_byteAt 4 = .ok (.iload_n 1, 1) := by decide +kernel
theorem dX9_byteAt_5 : decode cX9_byteAt 5 = .ok (.aload_n 0, 1) := by decide +kernel
