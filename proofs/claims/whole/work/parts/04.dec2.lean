theorem dX14_node_46 : decode cX14_node 46 = .ok (.dup, 1) := by decide +kernel
theorem dX14_node_47 : decode cX14_node 47 = .ok (.getfield 147, 3) := by decide +kernel
theorem dX14_node_50 : decode cX14_node 50 = .ok (.iconst 1, 1) := by decide +kernel
theorem dX14_node_51 : decode cX14_node 51 = .ok (.iadd, 1) := by decide +kernel
theorem dX14_node_52 : decode cX14_node 52 = .ok (.putfield 147, 3) := by decide +kernel
theorem dX14_node_55 : decode cX14_node 55 = .ok (.iload 4, 2) := by decide +kernel
theorem dX14_node_57 : decode cX14_node 57 = .ok (.ireturn, 1) := by decide +kernel
theorem dX14_player_0 : decode cX14_player 0 = .ok (.aload_n 0, 1) := by decide +kernel
theorem dX14_player_1 : decode cX14_player 1 = .ok (.iconst 4, 1) := by decide +kernel
theorem dX14_player_2 : decode cX14_player 2 = .ok (.invokevirtual 159, 3) := by decide +kernel
theorem dX14_player_5 : decode cX14_player 5 = .ok (.ifCond .eq 5, 3) := by decide +kernel
theorem dX14_player_8 : decode cX14_player 8 = .ok (.iconst 0, 1) := by decide +kernel
theorem dX14_player_9 : decode cX14_player 9 = .ok (.ireturn, 1) := by decide +kernel
theorem dX14_player_10 : decode cX14_player 10 = .ok (.aload_n 0, 1) := by decide +kernel
theorem dX14_player_11 : decode cX14_player 11 = .ok (.iconst 5, 1) := by decide +kernel
theorem dX14_player_12 : decode cX14_player 12 = .ok (.invokevirtual 162, 3) := by decide +kernel
theorem dX14_player_15 : decode cX14_player 15 = .ok (.iconst 1, 1) := by decide +kernel
theorem dX14_player_16 : decode cX14_player 16 = .ok (.ireturn, 1) := by decide +kernel
theorem dX14_inBrackets_0 : decode cX14_inBrackets 0 = .ok (.aload_n 0, 1) := by decide +kernel
theorem dX14_inBrackets_1 : decode cX14_inBrackets 1 = .ok (.invokevirtual 166, 3) := by decide +kernel
theorem dX14_inBrackets_4 : decode cX14_inBrackets 4 = .ok (.aload_n 0, 1) := by decide +kernel
theorem dX14_inBrackets_5 : decode cX14_inBrackets 5 = .ok (.invokevirtual 169, 3) := by decide +kernel
theorem dX14_inBrackets_8 : decode cX14_inBrackets 8 = .ok (.istore_n 1, 1) := by decide +kernel
theorem dX14_inBrackets_9 : decode cX14_inBrackets 9 = .ok (.aload_n 0, 1) := by decide +kernel
theorem dX14_inBrackets_10 : decode cX14_inBrackets 10 = .ok (.bipush 50, 2) := by decide +kernel
theorem dX14_inBrackets_12 : decode cX14_inBrackets 12 = .ok (.invokevirtual 162, 3) := by decide +kernel
theorem dX14_inBrackets_15 : decode cX14_inBrackets 15 = .ok (.aload_n 0, 1) := by decide +kernel
theorem dX14_inBrackets_16 : decode cX14_inBrackets 16 = .ok (.dup, 1) := by decide +kernel
theorem dX14_inBrackets_17 : decode cX14_inBrackets 17 = .ok (.getfield 144, 3) := by decide +kernel
theorem dX14_inBrackets_20 : decode cX14_inBrackets 20 = .ok (.iconst 1, 1) := by decide +kernel
theorem dX14_inBrackets_21 : decode cX14_inBrackets 21 = .ok (.isub, 1) := by decide +kernel
theorem dX14_inBrackets_22 : decode cX14_inBrackets 22 = .ok (.putfield 144, 3) := by decide +kernel
theorem dX14_inBrackets_25 : decode cX14_inBrackets 25 = .ok (.iload_n 1, 1) := by decide +kernel
theorem dX14_inBrackets_26 : decode cX14_inBrackets 26 = .ok (.ireturn, 1) := by decide +kernel
theorem dX14_ofTwo_0 : decode cX14_ofTwo 0 = .ok (.aload_n 0, 1) := by decide +kernel
theorem dX14_ofTwo_1 : decode cX14_ofTwo 1 = .ok (.dup, 1) := by decide +kernel
theorem dX14_ofTwo_2 : decode cX14_ofTwo 2 = .ok (.getfield 129, 3) := by decide +kernel
theorem dX14_ofTwo_5 : decode cX14_ofTwo 5 = .ok (.iconst 1, 1) := by decide +kernel
theorem dX14_ofTwo_6 : decode cX14_ofTwo 6 = .ok (.iadd, 1) := by decide +kernel
theorem dX14_ofTwo_7 : decode cX14_ofTwo 7 = .ok (.putfield 129, 3) := by decide +kernel
theorem dX14_ofTwo_10 : decode cX14_ofTwo 10 = .ok (.aload_n 0, 1) := by decide +kernel
theorem dX14_ofTwo_11 : decode cX14_ofTwo 11 = .ok (.bipush 49, 2) := by decide +kernel
theorem dX14_ofTwo_13 : decode cX14_ofTwo 13 = .ok (.invokevirtual 138, 3) := by decide +kernel
theorem dX14_ofTwo_16 : decode cX14_ofTwo 16 = .ok (.ifCond .ne 9, 3) := by decide +kernel
theorem dX14_ofTwo_19 : decode cX14_ofTwo 19 = .ok (.aload_n 0, 1) := by decide +kernel
theorem dX14_ofTwo_20 : decode cX14_ofTwo 20 = .ok (.invokevirtual 141, 3) := by decide +kernel
theorem dX14_ofTwo_23 : decode cX14_ofTwo 23 = .ok (.iconst 0, 1) := by decide +kernel
theorem dX14_ofTwo_24 : decode cX14_ofTwo 24 = .ok (.ireturn, 1) := by decide +kernel
theorem dX14_ofTwo_25 : decode cX14_ofTwo 25 = .ok (.aload_n 0, 1) := by decide +kernel
theorem dX14_ofTwo_26 : decode cX14_ofTwo 26 = .ok (.invokevirtual 166, 3) := by decide +kernel
theorem dX14_ofTwo_29 : decode cX14_ofTwo 29 = .ok (.aload_n 0, 1) := by decide +kernel
theorem dX14_ofTwo_30 : decode cX14_ofTwo 30 = .ok (.invokevirtual 169, 3) := by decide +kernel
theorem dX14_ofTwo_33 : decode cX14_ofTwo 33 = .ok (.istore_n 2, 1) := by decide +kernel
theorem dX14_ofTwo_34 : decode cX14_ofTwo 34 = .ok (.aload_n 0, 1) := by decide +kernel
theorem dX14_ofTwo_35 : decode cX14_ofTwo 35 = .ok (.bipush 54, 2) := by decide +kernel
theorem dX14_ofTwo_37 : decode cX14_ofTwo 37 = .ok (.invokevirtual 162, 3) := by decide +kernel
theorem dX14_ofTwo_40 : decode cX14_ofTwo 40 = .ok (.aload_n 0, 1) := by decide +kernel
theorem dX14_ofTwo_41 : decode cX14_ofTwo 41 = .ok (.invokevirtual 169, 3) := by decide +kernel
theorem dX14_ofTwo_44 : decode cX14_ofTwo 44 = .ok (.istore_n 3, 1) := by decide +kernel
theorem dX14_ofTwo_45 : decode cX14_ofTwo 45 = .ok (.aload_n 0, 1) := by decide +kernel
theorem dX14_ofTwo_46 : decode cX14_ofTwo 46 = .ok (.bipush 50, 2) := by decide +kernel
theorem dX14_ofTwo_48 : decode cX14_ofTwo 48 = .ok (.invokevirtual 162, 3) := by decide +kernel
theorem dX14_ofTwo_51 : decode cX14_ofTwo 51 = .ok (.aload_n 0, 1) := by decide +kernel
theorem dX14_ofTwo_52 : decode cX14_ofTwo 52 = .ok (.dup, 1) := by decide +kernel
theorem dX14_ofTwo_53 : decode cX14_ofTwo 53 = .ok (.getfield 144, 3) := by decide +kernel
theorem dX14_ofTwo_56 : decode cX14_ofTwo 56 = .ok (.iconst 1, 1) := by decide +kernel
theorem dX14_ofTwo_57 : decode cX14_ofTwo 57 = .ok (.isub, 1) := by decide +kernel
theorem dX14_ofTwo_58 : decode cX14_ofTwo 58 = .ok (.putfield 144, 3) := by decide +kernel
theorem dX14_ofTwo_61 : decode cX14_ofTwo 61 = .ok (.aload_n 0, 1) := by decide +kernel
theorem dX14_ofTwo_62 : decode cX14_ofTwo 62 = .ok (.iload_n 1, 1) := by decide +kernel
theorem dX14_ofTwo_63 : decode cX14_ofTwo 63 = .ok (.iload_n 2, 1) := by decide +kernel
theorem dX14_ofTwo_64 : decode cX14_ofTwo 64 = .ok (.iload_n 3, 1) := by decide +kernel
theorem dX14_ofTwo_65 : decode cX14_ofTwo 65 = .ok (.invokevirtual 172, 3) := by decide +kernel
theorem dX14_ofTwo_68 : decode cX14_ofTwo 68 = .ok (.ireturn, 1) := by decide +kernel
theorem dX14_value_0 : decode cX14_value 0 = .ok (.aload_n 0, 1) := by decide +kernel
theorem dX14_value_1 : decode cX14_value 1 = .ok (.bipush 31, 2) := by decide +kernel
theorem dX14_value_3 : decode cX14_value 3 = .ok (.invokevirtual 138, 3) := by decide +kernel
theorem dX14_value_6 : decode cX14_value 6 = .ok (.ifCond .eq 32, 3) := by decide +kernel
theorem dX14_value_9 : decode cX14_value 9 = .ok (.aload_n 0, 1) := by decide +kernel
theorem dX14_value_10 : decode cX14_value 10 = .ok (.dup, 1) := by decide +kernel
theorem dX14_value_11 : decode cX14_value 11 = .ok (.getfield 129, 3) := by decide +kernel
theorem dX14_value_14 : decode cX14_value 14 = .ok (.iconst 1, 1) := by decide +kernel
theorem dX14_value_15 : decode cX14_value 15 = .ok (.iadd, 1) := by decide +kernel
theorem dX14_value_16 : decode cX14_value 16 = .ok (.putfield 129, 3) := by decide +kernel
theorem dX14_value_19 : decode cX14_value 19 = .ok (.aload_n 0, 1) := by decide +kernel
theorem dX14_value_20 : decode cX14_value 20 = .ok (.bipush 31, 2) := by decide +kernel
theorem dX14_value_22 : decode cX14_value 22 = .ok (.aload_n 0, 1) := by decide +kernel
theorem dX14_value_23 : decode cX14_value 23 = .ok (.getfield 20, 3) := by decide +kernel
theorem dX14_value_26 : decode cX14_value 26 = .ok (.aload_n 0, 1) := by decide +kernel
theorem dX14_value_27 : decode cX14_value 27 = .ok (.getfield 129, 3) := by decide +kernel
theorem dX14_value_30 : decode cX14_value 30 = .ok (.iconst 1, 1) := by decide +kernel
theorem dX14_value_31 : decode cX14_value 31 = .ok (.isub, 1) := by decide +kernel
theorem dX14_value_32 : decode cX14_value 32 = .ok (.iaload, 1) := by decide +kernel
theorem dX14_value_33 : decode cX14_value 33 = .ok (.iconst 0, 1) := by decide +kernel
theorem dX14_value_34 : decode cX14_value 34 = .ok (.invokevirtual 172, 3) := by decide +kernel
theorem dX14_value_37 : decode cX14_value 37 = .ok (.ireturn, 1) := by decide +kernel
theorem dX14_value_38 : decode cX14_value 38 = .ok (.aload_n 0, 1) := by decide +kernel
theorem dX14_value_39 : decode cX14_value 39 = .ok (.bipush 12, 2) := by decide +kernel
theorem dX14_value_41 : decode cX14_value 41 = .ok (.invokevirtual 159, 3) := by decide +kernel
theorem dX14_value_44 : decode cX14_value 44 = .ok (.ifCond .eq 12, 3) := by decide +kernel
theorem dX14_value_47 : decode cX14_value 47 = .ok (.aload_n 0, 1) := by decide +kernel
theorem dX14_value_48 : decode cX14_value 48 = .ok (.bipush 12, 2) := by decide +kernel
theorem dX14_value_50 : decode cX14_value 50 = .ok (.iconst 0, 1) := by decide +kernel
theorem dX14_value_51 : decode cX14_value 51 = .ok (.iconst 0, 1) := by decide +kernel
theorem dX14_value_52 : decode cX14_value 52 = .ok (.invokevirtual 172, 3) := by decide +kernel
theorem dX14_value_55 : decode cX14_value 55 = .ok (.ireturn, 1) := by decide +kernel
theorem dX14_value_56 : decode cX14_value 56 = .ok (.aload_n 0, 1) := by decide +kernel
theorem dX14_value_57 : decode cX14_value 57 = .ok (.bipush 15, 2) := by decide +kernel
theorem dX14_value_59 : decode cX14_value 59 = .ok (.invokevirtual 159, 3) := by decide +kernel
theorem dX14_value_62 : decode cX14_value 62 = .ok (.ifCond .eq 12, 3) := by decide +kernel
theorem dX14_value_65 : decode cX14_value 65 = .ok (.aload_n 0, 1) := by decide +kernel
theorem dX14_value_66 : decode cX14_value 66 = .ok (.bipush 15, 2) := by decide +kernel
theorem dX14_value_68 : decode cX14_value 68 = .ok (.iconst 0, 1) := by decide +kernel
theorem dX14_value_69 : decode cX14_value 69 = .ok (.iconst 0, 1) := by decide +kernel
theorem dX14_value_70 : decode cX14_value 70 = .ok (.invokevirtual 172, 3) := by decide +kernel
theorem dX14_value_73 : decode cX14_value 73 = .ok (.ireturn, 1) := by decide +kernel
theorem dX14_value_74 : decode cX14_value 74 = .ok (.bipush 13, 2) := by decide +kernel
theorem dX14_value_76 : decode cX14_value 76 = .ok (.istore_n 1, 1) := by decide +kernel
theorem dX14_value_77 : decode cX14_value 77 = .ok (.iload_n 1, 1) := by decide +kernel
theorem dX14_value_78 : decode cX14_value 78 = .ok (.bipush 16, 2) := by decide +kernel
theorem dX14_value_80 : decode cX14_value 80 = .ok (.if_icmp .gt 34, 3) := by decide +kernel
theorem dX14_value_83 : decode cX14_value 83 = .ok (.iload_n 1, 1) := by decide +kernel
theorem dX14_value_84 : decode cX14_value 84 = .ok (.bipush 15, 2) := by decide +kernel
theorem dX14_value_86 : decode cX14_value 86 = .ok (.if_icmp .eq 22, 3) := by decide +kernel
theorem dX14_value_89 : decode cX14_value 89 = .ok (.aload_n 0, 1) := by decide +kernel
theorem dX14_value_90 : decode cX14_value 90 = .ok (.iload_n 1, 1) := by decide +kernel
theorem dX14_value_91 : decode cX14_value 91 = .ok (.invokevirtual 159, 3) := by decide +kernel
theorem dX14_value_94 : decode cX14_value 94 = .ok (.ifCond .eq 14, 3) := by decide +kernel
theorem dX14_value_97 : decode cX14_value 97 = .ok (.aload_n 0, 1) := by decide +kernel
theorem dX14_value_98 : decode cX14_value 98 = .ok (.iload_n 1, 1) := by decide +kernel
theorem dX14_value_99 : decode cX14_value 99 = .ok (.aload_n 0, 1) := by decide +kernel
theorem dX14_value_100 : decode cX14_value 100 = .ok (.invokevirtual 176, 3) := by decide +kernel
theorem dX14_value_103 : decode cX14_value 103 = .ok (.iconst 0, 1) := by decide +kernel
theorem dX14_value_104 : decode cX14_value 104 = .ok (.invokevirtual 172, 3) := by decide +kernel
theorem dX14_value_107 : decode cX14_value 107 = .ok (.ireturn, 1) := by decide +kernel
theorem dX14_value_108 : decode cX14_value 108 = .ok (.iinc 1 1, 3) := by decide +kernel
theorem dX14_value_111 : decode cX14_value 111 = .ok (.goto (-34), 3) := by decide +kernel
theorem dX14_value_114 : decode cX14_value 114 = .ok (.aload_n 0, 1) := by decide +kernel
theorem dX14_value_115 : decode cX14_value 115 = .ok (.bipush 21, 2) := by decide +kernel
theorem dX14_value_117 : decode cX14_value 117 = .ok (.invokevirtual 138, 3) := by decide +kernel
theorem dX14_value_120 : decode cX14_value 120 = .ok (.ifCond .ne 12, 3) := by decide +kernel
theorem dX14_value_123 : decode cX14_value 123 = .ok (.aload_n 0, 1) := by decide +kernel
theorem dX14_value_124 : decode cX14_value 124 = .ok (.bipush 22, 2) := by decide +kernel
theorem dX14_value_126 : decode cX14_value 126 = .ok (.invokevirtual 138, 3) := by decide +kernel
theorem dX14_value_129 : decode cX14_value 129 = .ok (.ifCond .eq 17, 3) := by decide +kernel
theorem dX14_value_132 : decode cX14_value 132 = .ok (.aload_n 0, 1) := by decide +kernel
theorem dX14_value_133 : decode cX14_value 133 = .ok (.aload_n 0, 1) := by decide +kernel
theorem dX14_value_134 : decode cX14_value 134 = .ok (.getfield 17, 3) := by decide +kernel
theorem dX14_value_137 : decode cX14_value 137 = .ok (.aload_n 0, 1) := by decide +kernel
theorem dX14_value_138 : decode cX14_value 138 = .ok (.getfield 129, 3) := by decide +kernel
theorem dX14_value_141 : decode cX14_value 141 = .ok (.iaload, 1) := by decide +kernel
theorem dX14_value_142 : decode cX14_value 142 = .ok (.invokevirtual 179, 3) := by decide +kernel
theorem dX14_value_145 : decode cX14_value 145 = .ok (.ireturn, 1) := by decide +kernel
theorem dX14_value_146 : decode cX14_value 146 = .ok (.aload_n 0, 1) := by decide +kernel
theorem dX14_value_147 : decode cX14_value 147 = .ok (.bipush 49, 2) := by decide +kernel
theorem dX14_value_149 : decode cX14_value 149 = .ok (.invokevirtual 138, 3) := by decide +kernel
theorem dX14_value_152 : decode cX14_value 152 = .ok (.ifCond .eq 8, 3) := by decide +kernel
theorem dX14_value_155 : decode cX14_value 155 = .ok (.aload_n 0, 1) := by decide +kernel
theorem dX14_value_156 : decode cX14_value 156 = .ok (.invokevirtual 182, 3) := by decide +kernel
theorem dX14_value_159 : decode cX14_value 159 = .ok (.ireturn, 1) := by decide +kernel
theorem dX14_value_160 : decode cX14_value 160 = .ok (.aload_n 0, 1) := by decide +kernel
theorem dX14_value_161 : decode cX14_value 161 = .ok (.bipush 41, 2) := by decide +kernel
theorem dX14_value_163 : decode cX14_value 163 = .ok (.invokevirtual 138, 3) := by decide +kernel
theorem dX14_value_166 : decode cX14_value 166 = .ok (.ifCond .ne 9, 3) := by decide +kernel
theorem dX14_value_169 : decode cX14_value 169 = .ok (.aload_n 0, 1) := by decide +kernel
theorem dX14_value_170 : decode cX14_value 170 = .ok (.invokevirtual 141, 3) := by decide +kernel
theorem dX14_value_173 : decode cX14_value 173 = .ok (.iconst 0, 1) := by decide +kernel
theorem dX14_value_174 : decode cX14_value 174 = .ok (.ireturn, 1) := by decide +kernel
theorem dX14_value_175 : decode cX14_value 175 = .ok (.aload_n 0, 1) := by decide +kernel
theorem dX14_value_176 : decode cX14_value 176 = .ok (.invokevirtual 166, 3) := by decide +kernel
theorem dX14_value_179 : decode cX14_value 179 = .ok (.aload_n 0, 1) := by decide +kernel
theorem dX14_value_180 : decode cX14_value 180 = .ok (.invokevirtual 185, 3) := by decide +kernel
theorem dX14_value_183 : decode cX14_value 183 = .ok (.istore_n 1, 1) := by decide +kernel
theorem dX14_value_184 : decode cX14_value 184 = .ok (.aload_n 0, 1) := by decide +kernel
theorem dX14_value_185 : decode cX14_value 185 = .ok (.dup, 1) := by decide +kernel
theorem dX14_value_186 : decode cX14_value 186 = .ok (.getfield 144, 3) := by decide +kernel
theorem dX14_value_189 : decode cX14_value 189 = .ok (.iconst 1, 1) := by decide +kernel
theorem dX14_value_190 : decode cX14_value 190 = .ok (.isub, 1) := by decide +kernel
theorem dX14_value_191 : decode cX14_value 191 = .ok (.putfield 144, 3) := by decide +kernel
theorem dX14_value_194 : decode cX14_value 194 = .ok (.aload_n 0, 1) := by decide +kernel
theorem dX14_value_195 : decode cX14_value 195 = .ok (.bipush 60, 2) := by decide +kernel
theorem dX14_value_197 : decode cX14_value 197 = .ok (.iload_n 1, 1) := by decide +kernel
theorem dX14_value_198 : decode cX14_value 198 = .ok (.iconst 0, 1) := by decide +kernel
theorem dX14_value_199 : decode cX14_value 199 = .ok (.invokevirtual 172, 3) := by decide +kernel
theorem dX14_value_202 : decode cX14_value 202 = .ok (.ireturn, 1) := by decide +kernel
theorem dX14_product_0 : decode cX14_product 0 = .ok (.aload_n 0, 1) := by decide +kernel
theorem dX14_product_1 : decode cX14_product 1 = .ok (.invokevirtual 185, 3) := by decide +kernel
theorem dX14_product_4 : decode cX14_product 4 = .ok (.istore_n 1, 1) := by decide +kernel
theorem dX14_product_5 : decode cX14_product 5 = .ok (.aload_n 0, 1) := by decide +kernel
theorem dX14_product_6 : decode cX14_product 6 = .ok (.bipush 42, 2) := by decide +kernel
theorem dX14_product_8 : decode cX14_product 8 = .ok (.invokevirtual 138, 3) := by decide +kernel
theorem dX14_product_11 : decode cX14_product 11 = .ok (.ifCond .ne 12, 3) := by decide +kernel
theorem dX14_product_14 : decode cX14_product 14 = .ok (.aload_n 0, 1) := by decide +kernel
theorem dX14_product_15 : decode cX14_product 15 = .ok (.bipush 43, 2) := by decide +kernel
theorem dX14_product_17 : decode cX14_product 17 = .ok (.invokevirtual 138, 3) := by decide +kernel
theorem dX14_product_20 : decode cX14_product 20 = .ok (.ifCond .eq 37, 3) := by decide +kernel
theorem dX14_product_23 : decode cX14_product 23 = .ok (.aload_n 0, 1) := by decide +kernel
theorem dX14_product_24 : decode cX14_product 24 = .ok (.getfield 17, 3) := by decide +kernel
theorem dX14_product_27 : decode cX14_product 27 = .ok (.aload_n 0, 1) := by decide +kernel
theorem dX14_product_28 : decode cX14_product 28 = .ok (.getfield 129, 3) := by decide +kernel
theorem dX14_product_31 : decode cX14_product 31 = .ok (.iaload, 1) := by decide +kernel
theorem dX14_product_32 : decode cX14_product 32 = .ok (.istore_n 2, 1) := by decide +kernel
theorem dX14_product_33 : decode cX14_product 33 = .ok (.aload_n 0, 1) := by decide +kernel
theorem dX14_product_34 : decode cX14_product 34 = .ok (.dup, 1) := by decide +kernel
theorem dX14_product_35 : decode cX14_product 35 = .ok (.getfield 129, 3) := by decide +kernel
theorem dX14_product_38 : decode cX14_product 38 = .ok (.iconst 1, 1) := by decide +kernel
theorem dX14_product_39 : decode cX14_product 39 = .ok (.iadd, 1) := by decide +kernel
theorem dX14_product_40 : decode cX14_product 40 = .ok (.putfield 129, 3) := by decide +kernel
theorem dX14_product_43 : decode cX14_product 43 = .ok (.aload_n 0, 1) := by decide +kernel
theorem dX14_product_44 : decode cX14_product 44 = .ok (.iload_n 2, 1) := by decide +kernel
theorem dX14_product_45 : decode cX14_product 45 = .ok (.iload_n 1, 1) := by decide +kernel
theorem dX14_product_46 : decode cX14_product 46 = .ok (.aload_n 0, 1) := by decide +kernel
theorem dX14_product_47 : decode cX14_product 47 = .ok (.invokevirtual 185, 3) := by decide +kernel
theorem dX14_product_50 : decode cX14_product 50 = .ok (.invokevirtual 172, 3) := by decide +kernel
theorem dX14_product_53 : decode cX14_product 53 = .ok (.istore_n 1, 1) := by decide +kernel
theorem dX14_product_54 : decode cX14_product 54 = .ok (.goto (-49), 3) := by decide +kernel
theorem dX14_product_57 : decode cX14_product 57 = .ok (.iload_n 1, 1) := by decide +kernel
theorem dX14_product_58 : decode cX14_product 58 = .ok (.ireturn, 1) := by decide +kernel
theorem dX14_sum_0 : decode cX14_sum 0 = .ok (.aload_n 0, 1) := by decide +kernel
theorem dX14_sum_1 : decode cX14_sum 1 = .ok (.invokevirtual 187, 3) := by decide +kernel
theorem dX14_sum_4 : decode cX14_sum 4 = .ok (.istore_n 1, 1) := by decide +kernel
theorem dX14_sum_5 : decode cX14_sum 5 = .ok (.aload_n 0, 1) := by decide +kernel
theorem dX14_sum_6 : decode cX14_sum 6 = .ok (.bipush 40, 2) := by decide +kernel
theorem dX14_sum_8 : decode cX14_sum 8 = .ok (.invokevirtual 138, 3) := by decide +kernel
theorem dX14_sum_11 : decode cX14_sum 11 = .ok (.ifCond .ne 12, 3) := by decide +kernel
theorem dX14_sum_14 : decode cX14_sum 14 = .ok (.aload_n 0, 1) := by decide +kernel
theorem dX14_sum_15 : decode cX14_sum 15 = .ok (.bipush 41, 2) := by decide +kernel
theorem dX14_sum_17 : decode cX14_sum 17 = .ok (.invokevirtual 138, 3) := by decide +kernel
theorem dX14_sum_20 : decode cX14_sum 20 = .ok (.ifCond .eq 37, 3) := by decide +kernel
theorem dX14_sum_23 : decode cX14_sum 23 = .ok (.aload_n 0, 1) := by decide +kernel
theorem dX14_sum_24 : decode cX14_sum 24 = .ok (.getfield 17, 3) := by decide +kernel
theorem dX14_sum_27 : decode cX14_sum 27 = .ok (.aload_n 0, 1) := by decide +kernel
theorem dX14_sum_28 : decode cX14_sum 28 = .ok (.getfield 129, 3) := by decide +kernel
theorem dX14_sum_31 : decode cX14_sum 31 = .ok (.iaload, 1) := by decide +kernel
theorem dX14_sum_32 : decode cX14_sum 32 = .ok (.istore_n 2, 1) := by decide +kernel
theorem dX14_sum_33 : decode cX14_sum 33 = .ok (.aload_n 0, 1) := by decide +kernel
theorem dX14_sum_34 : decode cX14_sum 34 = .ok (.dup, 1) := by decide +kernel
theorem dX14_sum_35 : decode cX14_sum 35 = .ok (.getfield 129, 3) := by decide +kernel
theorem dX14_sum_38 : decode cX14_sum 38 = .ok (.iconst 1, 1) := by decide +kernel
theorem dX14_sum_39 : decode cX14_sum 39 = .ok (.iadd, 1) := by decide +kernel
theorem dX14_sum_40 : decode cX14_sum 40 = .ok (.putfield 129, 3) := by decide +kernel
theorem dX14_sum_43 : decode cX14_sum 43 = .ok (.aload_n 0, 1) := by decide +kernel
theorem dX14_sum_44 : decode cX14_sum 44 = .ok (.iload_n 2, 1) := by decide +kernel
theorem dX14_sum_45 : decode cX14_sum 45 = .ok (.iload_n 1, 1) := by decide +kernel
theorem dX14_sum_46 : decode cX14_sum 46 = .ok (.aload_n 0, 1) := by decide +kernel
theorem dX14_sum_47 : decode cX14_sum 47 = .ok (.invokevirtual 187, 3) := by decide +kernel
theorem dX14_sum_50 : decode cX14_sum 50 = .ok (.invokevirtual 172, 3) := by decide +kernel
theorem dX14_sum_53 : decode cX14_sum 53 = .ok (.istore_n 1, 1) := by decide +kernel
theorem dX14_sum_54 : decode cX14_sum 54 = .ok (.goto (-49), 3) := by decide +kernel
theorem dX14_sum_57 : decode cX14_sum 57 = .ok (.iload_n 1, 1) := by decide +kernel
theorem dX14_sum_58 : decode cX14_sum 58 = .ok (.ireturn, 1) := by decide +kernel
theorem dX14_comparison_0 : decode cX14_comparison 0 = .ok (.aload_n 0, 1) := by decide +kernel
theorem dX14_comparison_1 : decode cX14_comparison 1 = .ok (.invokevirtual 169, 3) := by decide +kernel
theorem dX14_comparison_4 : decode cX14_comparison 4 = .ok (.istore_n 1, 1) := by decide +kernel
theorem dX14_comparison_5 : decode cX14_comparison 5 = .ok (.aload_n 0, 1) := by decide +kernel
theorem dX14_comparison_6 : decode cX14_comparison 6 = .ok (.getfield 17, 3) := by decide +kernel
theorem dX14_comparison_9 : decode cX14_comparison 9 = .ok (.aload_n 0, 1) := by decide +kernel
theorem dX14_comparison_10 : decode cX14_comparison 10 = .ok (.getfield 129, 3) := by decide +kernel
theorem dX14_comparison_13 : decode cX14_comparison 13 = .ok (.iaload, 1) := by decide +kernel
theorem dX14_comparison_14 : decode cX14_comparison 14 = .ok (.istore_n 2, 1) := by decide +kernel
theorem dX14_comparison_15 : decode cX14_comparison 15 = .ok (.aload_n 0, 1) := by decide +kernel
theorem dX14_comparison_16 : decode cX14_comparison 16 = .ok (.getfield 125, 3) := by decide +kernel
theorem dX14_comparison_19 : decode cX14_comparison 19 = .ok (.ifCond .ne 14, 3) := by decide +kernel
theorem dX14_comparison_22 : decode cX14_comparison 22 = .ok (.iload_n 2, 1) := by decide +kernel
theorem dX14_comparison_23 : decode cX14_comparison 23 = .ok (.bipush 44, 2) := by decide +kernel
theorem dX14_comparison_25 : decode cX14_comparison 25 = .ok (.bipush 48, 2) := by decide +kernel
theorem dX14_comparison_27 : decode cX14_comparison 27 = .ok (.invokestatic 76, 3) := by decide +kernel
theorem dX14_comparison_30 : decode cX14_comparison 30 = .ok (.ifCond .ne 9, 3) := by decide +kernel
theorem dX14_comparison_33 : decode cX14_comparison 33 = .ok (.aload_n 0, 1) := by decide +kernel
theorem dX14_comparison_34 : decode cX14_comparison 34 = .ok (.invokevirtual 141, 3) := by decide +kernel
theorem dX14_comparison_37 : decode cX14_comparison 37 = .ok (.iconst 0, 1) := by decide +kernel
theorem dX14_comparison_38 : decode cX14_comparison 38 = .ok (.ireturn, 1) := by decide +kernel
theorem dX14_comparison_39 : decode cX14_comparison 39 = .ok (.aload_n 0, 1) := by decide +kernel
theorem dX14_comparison_40 : decode cX14_comparison 40 = .ok (.dup, 1) := by decide +kernel
theorem dX14_comparison_41 : decode cX14_comparison 41 = .ok (.getfield 129, 3) := by decide +kernel
theorem dX14_comparison_44 : decode cX14_comparison 44 = .ok (.iconst 1, 1) := by decide +kernel
theorem dX14_comparison_45 : decode cX14_comparison 45 = .ok (.iadd, 1) := by decide +kernel
theorem dX14_comparison_46 : decode cX14_comparison 46 = .ok (.putfield 129, 3) := by decide +kernel
theorem dX14_comparison_49 : decode cX14_comparison 49 = .ok (.aload_n 0, 1) := by decide +kernel
theorem dX14_comparison_50 : decode cX14_comparison 50 = .ok (.iload_n 2, 1) := by decide +kernel
theorem dX14_comparison_51 : decode cX14_comparison 51 = .ok (.iload_n 1, 1) := by decide +kernel
theorem dX14_comparison_52 : decode cX14_comparison 52 = .ok (.aload_n 0, 1) := by decide +kernel
theorem dX14_comparison_53 : decode cX14_comparison 53 = .ok (.invokevirtual 169, 3) := by decide +kernel
theorem dX14_comparison_56 : decode cX14_comparison 56 = .ok (.invokevirtual 172, 3) := by decide +kernel
theorem dX14_comparison_59 : decode cX14_comparison 59 = .ok (.ireturn, 1) := by decide +kernel
theorem dX14_single_0 : decode cX14_single 0 = .ok (.aload_n 0, 1) := by decide +kernel
theorem dX14_single_1 : decode cX14_single 1 = .ok (.bipush 18, 2) := by decide +kernel
theorem dX14_single_3 : decode cX14_single 3 = .ok (.invokevirtual 138, 3) := by decide +kernel
theorem dX14_single_6 : decode cX14_single 6 = .ok (.ifCond .eq 31, 3) := by decide +kernel
theorem dX14_single_9 : decode cX14_single 9 = .ok (.aload_n 0, 1) := by decide +kernel
theorem dX14_single_10 : decode cX14_single 10 = .ok (.invokevirtual 166, 3) := by decide +kernel
theorem dX14_single_13 : decode cX14_single 13 = .ok (.aload_n 0, 1) := by decide +kernel
theorem dX14_single_14 : decode cX14_single 14 = .ok (.invokevirtual 190, 3) := by decide +kernel
theorem dX14_single_17 : decode cX14_single 17 = .ok (.istore_n 1, 1) := by decide +kernel
theorem dX14_single_18 : decode cX14_single 18 = .ok (.aload_n 0, 1) := by decide +kernel
theorem dX14_single_19 : decode cX14_single 19 = .ok (.dup, 1) := by decide +kernel
theorem dX14_single_20 : decode cX14_single 20 = .ok (.getfield 144, 3) := by decide +kernel
theorem dX14_single_23 : decode cX14_single 23 = .ok (.iconst 1, 1) := by decide +kernel
theorem dX14_single_24 : decode cX14_single 24 = .ok (.isub, 1) := by decide +kernel
theorem dX14_single_25 : decode cX14_single 25 = .ok (.putfield 144, 3) := by decide +kernel
theorem dX14_single_28 : decode cX14_single 28 = .ok (.aload_n 0, 1) := by decide +kernel
theorem dX14_single_29 : decode cX14_single 29 = .ok (.bipush 18, 2) := by decide +kernel
theorem dX14_single_31 : decode cX14_single 31 = .ok (.iload_n 1, 1) := by decide +kernel
theorem dX14_single_32 : decode cX14_single 32 = .ok (.iconst 0, 1) := by decide +kernel
theorem dX14_single_33 : decode cX14_single 33 = .ok (.invokevirtual 172, 3) := by decide +kernel
theorem dX14_single_36 : decode cX14_single 36 = .ok (.ireturn, 1) := by decide +kernel
theorem dX14_single_37 : decode cX14_single 37 = .ok (.aload_n 0, 1) := by decide +kernel
theorem dX14_single_38 : decode cX14_single 38 = .ok (.bipush 51, 2) := by decide +kernel
theorem dX14_single_40 : decode cX14_single 40 = .ok (.invokevirtual 138, 3) := by decide +kernel
theorem dX14_single_43 : decode cX14_single 43 = .ok (.ifCond .eq 30, 3) := by decide +kernel
theorem dX14_single_46 : decode cX14_single 46 = .ok (.aload_n 0, 1) := by decide +kernel
theorem dX14_single_47 : decode cX14_single 47 = .ok (.invokevirtual 166, 3) := by decide +kernel
theorem dX14_single_50 : decode cX14_single 50 = .ok (.aload_n 0, 1) := by decide +kernel
theorem dX14_single_51 : decode cX14_single 51 = .ok (.invokevirtual 193, 3) := by decide +kernel
theorem dX14_single_54 : decode cX14_single 54 = .ok (.istore_n 1, 1) := by decide +kernel
theorem dX14_single_55 : decode cX14_single 55 = .ok (.aload_n 0, 1) := by decide +kernel
theorem dX14_single_56 : decode cX14_single 56 = .ok (.bipush 52, 2) := by decide +kernel
theorem dX14_single_58 : decode cX14_single 58 = .ok (.invokevirtual 162, 3) := by decide +kernel
theorem dX14_single_61 : decode cX14_single 61 = .ok (.aload_n 0, 1) := by decide +kernel
theorem dX14_single_62 : decode cX14_single 62 = .ok (.dup, 1) := by decide +kernel
theorem dX14_single_63 : decode cX14_single 63 = .ok (.getfield 144, 3) := by decide +kernel
theorem dX14_single_66 : decode cX14_single 66 = .ok (.iconst 1, 1) := by decide +kernel
theorem dX14_single_67 : decode cX14_single 67 = .ok (.isub, 1) := by decide +kernel
theorem dX14_single_68 : decode cX14_single 68 = .ok (.putfield 144, 3) := by decide +kernel
theorem dX14_single_71 : decode cX14_single 71 = .ok (.iload_n 1, 1) := by decide +kernel
theorem dX14_single_72 : decode cX14_single 72 = .ok (.ireturn, 1) := by decide +kernel
theorem dX14_single_73 : decode cX14_single 73 = .ok (.aload_n 0, 1) := by decide +kernel
theorem dX14_single_74 : decode cX14_single 74 = .ok (.bipush 17, 2) := by decide +kernel
theorem dX14_single_76 : decode cX14_single 76 = .ok (.invokevirtual 159, 3) := by decide +kernel
theorem dX14_single_79 : decode cX14_single 79 = .ok (.ifCond .eq 17, 3) := by decide +kernel
theorem dX14_single_82 : decode cX14_single 82 = .ok (.aload_n 0, 1) := by decide +kernel
theorem dX14_single_83 : decode cX14_single 83 = .ok (.bipush 17, 2) := by decide +kernel
theorem dX14_single_85 : decode cX14_single 85 = .ok (.aload_n 0, 1) := by decide +kernel
theorem dX14_single_86 : decode cX14_single 86 = .ok (.invokevirtual 176, 3) := by decide +kernel
theorem dX14_single_89 : decode cX14_single 89 = .ok (.iconst 0, 1) := by decide +kernel
theorem dX14_single_90 : decode cX14_single 90 = .ok (.invokevirtual 172, 3) := by decide +kernel
theorem dX14_single_93 : decode cX14_single 93 = .ok (.goto 7, 3) := by decide +kernel
theorem dX14_single_96 : decode cX14_single 96 = .ok (.aload_n 0, 1) := by decide +kernel
theorem dX14_single_97 : decode cX14_single 97 = .ok (.invokevirtual 196, 3) := by decide +kernel
theorem dX14_single_100 : decode cX14_single 100 = .ok (.ireturn, 1) := by decide +kernel
theorem dX14_both_0 : decode cX14_both 0 = .ok (.aload_n 0, 1) := by decide +kernel
theorem dX14_both_1 : decode cX14_both 1 = .ok (.invokevirtual 190, 3) := by decide +kernel
theorem dX14_both_4 : decode cX14_both 4 = .ok (.istore_n 1, 1) := by decide +kernel
theorem dX14_both_5 : decode cX14_both 5 = .ok (.aload_n 0, 1) := by decide +kernel
theorem dX14_both_6 : decode cX14_both 6 = .ok (.bipush 19, 2) := by decide +kernel
theorem dX14_both_8 : decode cX14_both 8 = .ok (.invokevirtual 159, 3) := by decide +kernel
theorem dX14_both_11 : decode cX14_both 11 = .ok (.ifCond .eq 18, 3) := by decide +kernel
theorem dX14_both_14 : decode cX14_both 14 = .ok (.aload_n 0, 1) := by decide +kernel
theorem dX14_both_15 : decode cX14_both 15 = .ok (.bipush 19, 2) := by decide +kernel
theorem dX14_both_17 : decode cX14_both 17 = .ok (.iload_n 1, 1) := by decide +kernel
theorem dX14_both_18 : decode cX14_both 18 = .ok (.aload_n 0, 1) := by decide +kernel
theorem dX14_both_19 : decode cX14_both 19 = .ok (.invokevirtual 190, 3) := by decide +kernel
theorem dX14_both_22 : decode cX14_both 22 = .ok (.invokevirtual 172, 3) := by decide +kernel
theorem dX14_both_25 : decode cX14_both 25 = .ok (.istore_n 1, 1) := by decide +kernel
theorem dX14_both_26 : decode cX14_both 26 = .ok (.goto (-21), 3) := by decide +kernel
theorem dX14_both_29 : decode cX14_both 29 = .ok (.iload_n 1, 1) := by decide +kernel
theorem dX14_both_30 : decode cX14_both 30 = .ok (.ireturn, 1) := by decide +kernel
theorem dX14_test_0 : decode cX14_test 0 = .ok (.aload_n 0, 1) := by decide +kernel
theorem dX14_test_1 : decode cX14_test 1 = .ok (.invokevirtual 199, 3) := by decide +kernel
theorem dX14_test_4 : decode cX14_test 4 = .ok (.istore_n 1, 1) := by decide +kernel
theorem dX14_test_5 : decode cX14_test 5 = .ok (.aload_n 0, 1) := by decide +kernel
theorem dX14_test_6 : decode cX14_test 6 = .ok (.bipush 20, 2) := by decide +kernel
theorem dX14_test_8 : decode cX14_test 8 = .ok (.invokevirtual 159, 3) := by decide +kernel
theorem dX14_test_11 : decode cX14_test 11 = .ok (.ifCond .eq 18, 3) := by decide +kernel
theorem dX14_test_14 : decode cX14_test 14 = .ok (.aload_n 0, 1) := by decide +kernel
theorem dX14_test_15 : decode cX14_test 15 = .ok (.bipush 20, 2) := by decide +kernel
theorem dX14_test_17 : decode cX14_test 17 = .ok (.iload_n 1, 1) := by decide +kernel
theorem dX14_test_18 : decode cX14_test 18 = .ok (.aload_n 0, 1) := by decide +kernel
theorem dX14_test_19 : decode cX14_test 19 = .ok (.invokevirtual 199, 3) := by decide +kernel
theorem dX14_test_22 : decode cX14_test 22 = .ok (.invokevirtual 172, 3) := by decide +kernel
theorem dX14_test_25 : decode cX14_test 25 = .ok (.istore_n 1, 1) := by decide +kernel
theorem dX14_test_26 : decode cX14_test 26 = .ok (.goto (-21), 3) := by decide +kernel
theorem dX14_test_29 : decode cX14_test 29 = .ok (.iload_n 1, 1) := by decide +kernel
theorem dX14_test_30 : decode cX14_test 30 = .ok (.ireturn, 1) := by decide +kernel
theorem dX14_size_0 : decode cX14_size 0 = .ok (.aload_n 0, 1) := by decide +kernel
theorem dX14_size_1 : decode cX14_size 1 = .ok (.bipush 31, 2) := by decide +kernel
theorem dX14_size_3 : decode cX14_size 3 = .ok (.invokevirtual 138, 3) := by decide +kernel
theorem dX14_size_6 : decode cX14_size 6 = .ok (.ifCond .eq 26, 3) := by decide +kernel
theorem dX14_size_9 : decode cX14_size 9 = .ok (.aload_n 0, 1) := by decide +kernel
theorem dX14_size_10 : decode cX14_size 10 = .ok (.getfield 20, 3) := by decide +kernel
theorem dX14_size_13 : decode cX14_size 13 = .ok (.aload_n 0, 1) := by decide +kernel
theorem dX14_size_14 : decode cX14_size 14 = .ok (.getfield 129, 3) := by decide +kernel
theorem dX14_size_17 : decode cX14_size 17 = .ok (.iaload, 1) := by decide +kernel
theorem dX14_size_18 : decode cX14_size 18 = .ok (.iconst 3, 1) := by decide +kernel
theorem dX14_size_19 : decode cX14_size 19 = .ok (.bipush 9, 2) := by decide +kernel
theorem dX14_size_21 : decode cX14_size 21 = .ok (.invokestatic 76, 3) := by decide +kernel
theorem dX14_size_24 : decode cX14_size 24 = .ok (.ifCond .ne 8, 3) := by decide +kernel
theorem dX14_size_27 : decode cX14_size 27 = .ok (.aload_n 0, 1) := by decide +kernel
theorem dX14_size_28 : decode cX14_size 28 = .ok (.iconst 5, 1) := by decide +kernel
theorem dX14_size_29 : decode cX14_size 29 = .ok (.invokevirtual 202, 3) := by decide +kernel
theorem dX14_size_32 : decode cX14_size 32 = .ok (.aload_n 0, 1) := by decide +kernel
theorem dX14_size_33 : decode cX14_size 33 = .ok (.bipush 31, 2) := by decide +kernel
theorem dX14_size_35 : decode cX14_size 35 = .ok (.invokevirtual 162, 3) := by decide +kernel
theorem dX14_size_38 : decode cX14_size 38 = .ok (.aload_n 0, 1) := by decide +kernel
theorem dX14_size_39 : decode cX14_size 39 = .ok (.getfield 20, 3) := by decide +kernel
theorem dX14_size_42 : decode cX14_size 42 = .ok (.aload_n 0, 1) := by decide +kernel
theorem dX14_size_43 : decode cX14_size 43 = .ok (.getfield 129, 3) := by decide +kernel
theorem dX14_size_46 : decode cX14_size 46 = .ok (.aload_n 0, 1) := by decide +kernel
theorem dX14_size_47 : decode cX14_size 47 = .ok (.getfield 125, 3) := by decide +kernel
theorem dX14_size_50 : decode cX14_size 50 = .ok (.ifCond .eq 7, 3) := by decide +kernel
theorem dX14_size_53 : decode cX14_size 53 = .ok (.iconst 0, 1) := by decide +kernel
theorem dX14_size_54 : decode cX14_size 54 = .ok (.goto 4, 3) := by decide +kernel
theorem dX14_size_57 : decode cX14_size 57 = .ok (.iconst 1, 1) := by decide +kernel
theorem dX14_size_58 : decode cX14_size 58 = .ok (.isub, 1) := by decide +kernel
theorem dX14_size_59 : decode cX14_size 59 = .ok (.iaload, 1) := by decide +kernel
theorem dX14_size_60 : decode cX14_size 60 = .ok (.ireturn, 1) := by decide +kernel
theorem dX14_pond_0 : decode cX14_pond 0 = .ok (.aload_n 0, 1) := by decide +kernel
theorem dX14_pond_1 : decode cX14_pond 1 = .ok (.getfield 33, 3) := by decide +kernel
theorem dX14_pond_4 : decode cX14_pond 4 = .ok (.aload_n 0, 1) := by decide +kernel
theorem dX14_pond_5 : decode cX14_pond 5 = .ok (.invokevirtual 205, 3) := by decide +kernel
theorem dX14_pond_8 : decode cX14_pond 8 = .ok (.putfield 208, 3) := by decide +kernel
theorem dX14_pond_11 : decode cX14_pond 11 = .ok (.aload_n 0, 1) := by decide +kernel
theorem dX14_pond_12 : decode cX14_pond 12 = .ok (.iconst 1, 1) := by decide +kernel
theorem dX14_pond_13 : decode cX14_pond 13 = .ok (.invokevirtual 162, 3) := by decide +kernel
theorem dX14_pond_16 : decode cX14_pond 16 = .ok (.aload_n 0, 1) := by decide +kernel
theorem dX14_pond_17 : decode cX14_pond 17 = .ok (.getfield 33, 3) := by decide +kernel
theorem dX14_pond_20 : decode cX14_pond 20 = .ok (.aload_n 0, 1) := by decide +kernel
theorem dX14_pond_21 : decode cX14_pond 21 = .ok (.invokevirtual 205, 3) := by decide +kernel
theorem dX14_pond_24 : decode cX14_pond 24 = .ok (.putfield 211, 3) := by decide +kernel
theorem dX14_pond_27 : decode cX14_pond 27 = .ok (.aload_n 0, 1) := by decide +kernel
theorem dX14_pond_28 : decode cX14_pond 28 = .ok (.bipush 53, 2) := by decide +kernel
theorem dX14_pond_30 : decode cX14_pond 30 = .ok (.invokevirtual 162, 3) := by decide +kernel
theorem dX14_pond_33 : decode cX14_pond 33 = .ok (.return_, 1) := by decide +kernel
theorem dX14_stone_0 : decode cX14_stone 0 = .ok (.aload_n 0, 1) := by decide +kernel
theorem dX14_stone_1 : decode cX14_stone 1 = .ok (.invokevirtual 176, 3) := by decide +kernel
theorem dX14_stone_4 : decode cX14_stone 4 = .ok (.istore_n 1, 1) := by decide +kernel
theorem dX14_stone_5 : decode cX14_stone 5 = .ok (.aload_n 0, 1) := by decide +kernel
theorem dX14_stone_6 : decode cX14_stone 6 = .ok (.getfield 20, 3) := by decide +kernel
theorem dX14_stone_9 : decode cX14_stone 9 = .ok (.aload_n 0, 1) := by decide +kernel
theorem dX14_stone_10 : decode cX14_stone 10 = .ok (.getfield 129, 3) := by decide +kernel
theorem dX14_stone_13 : decode cX14_stone 13 = .ok (.iaload, 1) := by decide +kernel
theorem dX14_stone_14 : decode cX14_stone 14 = .ok (.istore_n 2, 1) := by decide +kernel
theorem dX14_stone_15 : decode cX14_stone 15 = .ok (.aload_n 0, 1) := by decide +kernel
theorem dX14_stone_16 : decode cX14_stone 16 = .ok (.bipush 31, 2) := by decide +kernel
theorem dX14_stone_18 : decode cX14_stone 18 = .ok (.invokevirtual 138, 3) := by decide +kernel
theorem dX14_stone_21 : decode cX14_stone 21 = .ok (.ifCond .eq 19, 3) := by decide +kernel
theorem dX14_stone_24 : decode cX14_stone 24 = .ok (.iload_n 2, 1) := by decide +kernel
theorem dX14_stone_25 : decode cX14_stone 25 = .ok (.aload_n 0, 1) := by decide +kernel
theorem dX14_stone_26 : decode cX14_stone 26 = .ok (.getfield 33, 3) := by decide +kernel
theorem dX14_stone_29 : decode cX14_stone 29 = .ok (.getfield 208, 3) := by decide +kernel
theorem dX14_stone_32 : decode cX14_stone 32 = .ok (.if_icmp .lt 8, 3) := by decide +kernel
theorem dX14_stone_35 : decode cX14_stone 35 = .ok (.aload_n 0, 1) := by decide +kernel
theorem dX14_stone_36 : decode cX14_stone 36 = .ok (.iconst 5, 1) := by decide +kernel
theorem dX14_stone_37 : decode cX14_stone 37 = .ok (.invokevirtual 202, 3) := by decide +kernel
theorem dX14_stone_40 : decode cX14_stone 40 = .ok (.aload_n 0, 1) := by decide +kernel
theorem dX14_stone_41 : decode cX14_stone 41 = .ok (.bipush 31, 2) := by decide +kernel
theorem dX14_stone_43 : decode cX14_stone 43 = .ok (.invokevirtual 162, 3) := by decide +kernel
theorem dX14_stone_46 : decode cX14_stone 46 = .ok (.aload_n 0, 1) := by decide +kernel
theorem dX14_stone_47 : decode cX14_stone 47 = .ok (.bipush 54, 2) := by decide +kernel
theorem dX14_stone_49 : decode cX14_stone 49 = .ok (.invokevirtual 162, 3) := by decide +kernel
theorem dX14_stone_52 : decode cX14_stone 52 = .ok (.aload_n 0, 1) := by decide +kernel
theorem dX14_stone_53 : decode cX14_stone 53 = .ok (.getfield 20, 3) := by decide +kernel
theorem dX14_stone_56 : decode cX14_stone 56 = .ok (.aload_n 0, 1) := by decide +kernel
theorem dX14_stone_57 : decode cX14_stone 57 = .ok (.getfield 129, 3) := by decide +kernel
theorem dX14_stone_60 : decode cX14_stone 60 = .ok (.iaload, 1) := by decide +kernel
theorem dX14_stone_61 : decode cX14_stone 61 = .ok (.istore_n 3, 1) := by decide +kernel
theorem dX14_stone_62 : decode cX14_stone 62 = .ok (.aload_n 0, 1) := by decide +kernel
theorem dX14_stone_63 : decode cX14_stone 63 = .ok (.bipush 31, 2) := by decide +kernel
theorem dX14_stone_65 : decode cX14_stone 65 = .ok (.invokevirtual 138, 3) := by decide +kernel
theorem dX14_stone_68 : decode cX14_stone 68 = .ok (.ifCond .eq 80, 3) := by decide +kernel
theorem dX14_stone_71 : decode cX14_stone 71 = .ok (.aload_n 0, 1) := by decide +kernel
theorem dX14_stone_72 : decode cX14_stone 72 = .ok (.getfield 132, 3) := by decide +kernel
theorem dX14_stone_75 : decode cX14_stone 75 = .ok (.ifCond .ne 73, 3) := by decide +kernel
theorem dX14_stone_78 : decode cX14_stone 78 = .ok (.iload_n 3, 1) := by decide +kernel
theorem dX14_stone_79 : decode cX14_stone 79 = .ok (.aload_n 0, 1) := by decide +kernel
theorem dX14_stone_80 : decode cX14_stone 80 = .ok (.getfield 33, 3) := by decide +kernel
theorem dX14_stone_83 : decode cX14_stone 83 = .ok (.getfield 211, 3) := by decide +kernel
theorem dX14_stone_86 : decode cX14_stone 86 = .ok (.if_icmp .lt 11, 3) := by decide +kernel
theorem dX14_stone_89 : decode cX14_stone 89 = .ok (.aload_n 0, 1) := by decide +kernel
theorem dX14_stone_90 : decode cX14_stone 90 = .ok (.iconst 5, 1) := by decide +kernel
theorem dX14_stone_91 : decode cX14_stone 91 = .ok (.invokevirtual 202, 3) := by decide +kernel
theorem dX14_stone_94 : decode cX14_stone 94 = .ok (.goto 54, 3) := by decide +kernel
theorem dX14_stone_97 : decode cX14_stone 97 = .ok (.aload_n 0, 1) := by decide +kernel
theorem dX14_stone_98 : decode cX14_stone 98 = .ok (.getfield 33, 3) := by decide +kernel
theorem dX14_stone_101 : decode cX14_stone 101 = .ok (.getfield 214, 3) := by decide +kernel
theorem dX14_stone_104 : decode cX14_stone 104 = .ok (.aload_n 0, 1) := by decide +kernel
theorem dX14_stone_105 : decode cX14_stone 105 = .ok (.getfield 33, 3) := by decide +kernel
theorem dX14_stone_108 : decode cX14_stone 108 = .ok (.getfield 208, 3) := by decide +kernel
theorem dX14_stone_111 : decode cX14_stone 111 = .ok (.iload_n 3, 1) := by decide +kernel
theorem dX14_stone_112 : decode cX14_stone 112 = .ok (.imul, 1) := by decide +kernel
theorem dX14_stone_113 : decode cX14_stone 113 = .ok (.iload_n 2, 1) := by decide +kernel
theorem dX14_stone_114 : decode cX14_stone 114 = .ok (.iadd, 1) := by decide +kernel
theorem dX14_stone_115 : decode cX14_stone 115 = .ok (.iaload, 1) := by decide +kernel
theorem dX14_stone_116 : decode cX14_stone 116 = .ok (.iconst (-1), 1) := by decide +kernel
theorem dX14_stone_117 : decode cX14_stone 117 = .ok (.if_icmp .eq 11, 3) := by decide +kernel
theorem dX14_stone_120 : decode cX14_stone 120 = .ok (.aload_n 0, 1) := by decide +kernel
theorem dX14_stone_121 : decode cX14_stone 121 = .ok (.iconst 2, 1) := by decide +kernel
theorem dX14_stone_122 : decode cX14_stone 122 = .ok (.invokevirtual 202, 3) := by decide +kernel
theorem dX14_stone_125 : decode cX14_stone 125 = .ok (.goto 23, 3) := by decide +kernel
theorem dX14_stone_128 : decode cX14_stone 128 = .ok (.aload_n 0, 1) := by decide +kernel
theorem dX14_stone_129 : decode cX14_stone 129 = .ok (.getfield 33, 3) := by decide +kernel
theorem dX14_stone_132 : decode cX14_stone 132 = .ok (.getfield 214, 3) := by decide +kernel
theorem dX14_stone_135 : decode cX14_stone 135 = .ok (.aload_n 0, 1) := by decide +kernel
theorem dX14_stone_136 : decode cX14_stone 136 = .ok (.getfield 33, 3) := by decide +kernel
theorem dX14_stone_139 : decode cX14_stone 139 = .ok (.getfield 208, 3) := by decide +kernel
theorem dX14_stone_142 : decode cX14_stone 142 = .ok (.iload_n 3, 1) := by decide +kernel
theorem dX14_stone_143 : decode cX14_stone 143 = .ok (.imul, 1) := by decide +kernel
theorem dX14_stone_144 : decode cX14_stone 144 = .ok (.iload_n 2, 1) := by decide +kernel
theorem dX14_stone_145 : decode cX14_stone 145 = .ok (.iadd, 1) := by decide +kernel
theorem dX14_stone_146 : decode cX14_stone 146 = .ok (.iload_n 1, 1) := by decide +kernel
theorem dX14_stone_147 : decode cX14_stone 147 = .ok (.iastore, 1) := by decide +kernel
theorem dX14_stone_148 : decode cX14_stone 148 = .ok (.aload_n 0, 1) := by decide +kernel
theorem dX14_stone_149 : decode cX14_stone 149 = .ok (.bipush 31, 2) := by decide +kernel
theorem dX14_stone_151 : decode cX14_stone 151 = .ok (.invokevirtual 162, 3) := by decide +kernel
theorem dX14_stone_154 : decode cX14_stone 154 = .ok (.return_, 1) := by decide +kernel
theorem dX14_plan_0 : decode cX14_plan 0 = .ok (.bipush 16, 2) := by decide +kernel
theorem dX14_plan_2 : decode cX14_plan 2 = .ok (.aload_n 0, 1) := by decide +kernel
theorem dX14_plan_3 : decode cX14_plan 3 = .ok (.getfield 33, 3) := by decide +kernel
theorem dX14_plan_6 : decode cX14_plan 6 = .ok (.getfield 215, 3) := by decide +kernel
theorem dX14_plan_9 : decode cX14_plan 9 = .ok (.invokestatic 218, 3) := by decide +kernel
theorem dX14_plan_12 : decode cX14_plan 12 = .ok (.istore_n 1, 1) := by decide +kernel
theorem dX14_plan_13 : decode cX14_plan 13 = .ok (.aload_n 0, 1) := by decide +kernel
theorem dX14_plan_14 : decode cX14_plan 14 = .ok (.getfield 33, 3) := by decide +kernel
theorem dX14_plan_17 : decode cX14_plan 17 = .ok (.dup, 1) := by decide +kernel
theorem dX14_plan_18 : decode cX14_plan 18 = .ok (.getfield 215, 3) := by decide +kernel
theorem dX14_plan_21 : decode cX14_plan 21 = .ok (.iconst 1, 1) := by decide +kernel
theorem dX14_plan_22 : decode cX14_plan 22 = .ok (.iadd, 1) := by decide +kernel
theorem dX14_plan_23 : decode cX14_plan 23 = .ok (.putfield 215, 3) := by decide +kernel
theorem dX14_plan_26 : decode cX14_plan 26 = .ok (.aload_n 0, 1) := by decide +kernel
theorem dX14_plan_27 : decode cX14_plan 27 = .ok (.getfield 33, 3) := by decide +kernel
theorem dX14_plan_30 : decode cX14_plan 30 = .ok (.getfield 223, 3) := by decide +kernel
theorem dX14_plan_33 : decode cX14_plan 33 = .ok (.iload_n 1, 1) := by decide +kernel
theorem dX14_plan_34 : decode cX14_plan 34 = .ok (.aload_n 0, 1) := by decide +kernel
theorem dX14_plan_35 : decode cX14_plan 35 = .ok (.getfield 33, 3) := by decide +kernel
theorem dX14_plan_38 : decode cX14_plan 38 = .ok (.getfield 147, 3) := by decide +kernel
theorem dX14_plan_41 : decode cX14_plan 41 = .ok (.iastore, 1) := by decide +kernel
theorem dX14_plan_42 : decode cX14_plan 42 = .ok (.aload_n 0, 1) := by decide +kernel
theorem dX14_plan_43 : decode cX14_plan 43 = .ok (.getfield 33, 3) := by decide +kernel
theorem dX14_plan_46 : decode cX14_plan 46 = .ok (.getfield 226, 3) := by decide +kernel
theorem dX14_plan_49 : decode cX14_plan 49 = .ok (.iload_n 1, 1) := by decide +kernel
theorem dX14_plan_50 : decode cX14_plan 50 = .ok (.aload_n 0, 1) := by decide +kernel
theorem dX14_plan_51 : decode cX14_plan 51 = .ok (.invokevirtual 176, 3) := by decide +kernel
theorem dX14_plan_54 : decode cX14_plan 54 = .ok (.iastore, 1) := by decide +kernel
theorem dX14_plan_55 : decode cX14_plan 55 = .ok (.aload_n 0, 1) := by decide +kernel
theorem dX14_plan_56 : decode cX14_plan 56 = .ok (.getfield 33, 3) := by decide +kernel
theorem dX14_plan_59 : decode cX14_plan 59 = .ok (.getfield 228, 3) := by decide +kernel
theorem dX14_plan_62 : decode cX14_plan 62 = .ok (.iload_n 1, 1) := by decide +kernel
theorem dX14_plan_63 : decode cX14_plan 63 = .ok (.aload_n 0, 1) := by decide +kernel
theorem dX14_plan_64 : decode cX14_plan 64 = .ok (.getfield 17, 3) := by decide +kernel
theorem dX14_plan_67 : decode cX14_plan 67 = .ok (.aload_n 0, 1) := by decide +kernel
theorem dX14_plan_68 : decode cX14_plan 68 = .ok (.getfield 129, 3) := by decide +kernel
theorem dX14_plan_71 : decode cX14_plan 71 = .ok (.iaload, 1) := by decide +kernel
theorem dX14_plan_72 : decode cX14_plan 72 = .ok (.iastore, 1) := by decide +kernel
theorem dX14_plan_73 : decode cX14_plan 73 = .ok (.aload_n 0, 1) := by decide +kernel
theorem dX14_plan_74 : decode cX14_plan 74 = .ok (.getfield 125, 3) := by decide +kernel
theorem dX14_plan_77 : decode cX14_plan 77 = .ok (.ifCond .ne 22, 3) := by decide +kernel
theorem dX14_plan_80 : decode cX14_plan 80 = .ok (.aload_n 0, 1) := by decide +kernel
theorem dX14_plan_81 : decode cX14_plan 81 = .ok (.getfield 17, 3) := by decide +kernel
theorem dX14_plan_84 : decode cX14_plan 84 = .ok (.aload_n 0, 1) := by decide +kernel
theorem dX14_plan_85 : decode cX14_plan 85 = .ok (.getfield 129, 3) := by decide +kernel
theorem dX14_plan_88 : decode cX14_plan 88 = .ok (.iaload, 1) := by decide +kernel
theorem dX14_plan_89 : decode cX14_plan 89 = .ok (.bipush 6, 2) := by decide +kernel
theorem dX14_plan_91 : decode cX14_plan 91 = .ok (.bipush 10, 2) := by decide +kernel
theorem dX14_plan_93 : decode cX14_plan 93 = .ok (.invokestatic 76, 3) := by decide +kernel
theorem dX14_plan_96 : decode cX14_plan 96 = .ok (.ifCond .ne 8, 3) := by decide +kernel
theorem dX14_plan_99 : decode cX14_plan 99 = .ok (.aload_n 0, 1) := by decide +kernel
theorem dX14_plan_100 : decode cX14_plan 100 = .ok (.invokevirtual 141, 3) := by decide +kernel
theorem dX14_plan_103 : decode cX14_plan 103 = .ok (.return_, 1) := by decide +kernel
theorem dX14_plan_104 : decode cX14_plan 104 = .ok (.aload_n 0, 1) := by decide +kernel
theorem dX14_plan_105 : decode cX14_plan 105 = .ok (.dup, 1) := by decide +kernel
theorem dX14_plan_106 : decode cX14_plan 106 = .ok (.getfield 129, 3) := by decide +kernel
theorem dX14_plan_109 : decode cX14_plan 109 = .ok (.iconst 1, 1) := by decide +kernel
theorem dX14_plan_110 : decode cX14_plan 110 = .ok (.iadd, 1) := by decide +kernel
theorem dX14_plan_111 : decode cX14_plan 111 = .ok (.putfield 129, 3) := by decide +kernel
theorem dX14_plan_114 : decode cX14_plan 114 = .ok (.aload_n 0, 1) := by decide +kernel
theorem dX14_plan_115 : decode cX14_plan 115 = .ok (.getfield 33, 3) := by decide +kernel
theorem dX14_plan_118 : decode cX14_plan 118 = .ok (.getfield 228, 3) := by decide +kernel
theorem dX14_plan_121 : decode cX14_plan 121 = .ok (.iload_n 1, 1) := by decide +kernel
theorem dX14_plan_122 : decode cX14_plan 122 = .ok (.iaload, 1) := by decide +kernel
theorem dX14_plan_123 : decode cX14_plan 123 = .ok (.bipush 10, 2) := by decide +kernel
theorem dX14_plan_125 : decode cX14_plan 125 = .ok (.if_icmp .ne 35, 3) := by decide +kernel
theorem dX14_plan_128 : decode cX14_plan 128 = .ok (.aload_n 0, 1) := by decide +kernel
theorem dX14_plan_129 : decode cX14_plan 129 = .ok (.getfield 33, 3) := by decide +kernel
theorem dX14_plan_132 : decode cX14_plan 132 = .ok (.getfield 231, 3) := by decide +kernel
theorem dX14_plan_135 : decode cX14_plan 135 = .ok (.iload_n 1, 1) := by decide +kernel
theorem dX14_plan_136 : decode cX14_plan 136 = .ok (.aload_n 0, 1) := by decide +kernel
theorem dX14_plan_137 : decode cX14_plan 137 = .ok (.invokevirtual 169, 3) := by decide +kernel
theorem dX14_plan_140 : decode cX14_plan 140 = .ok (.iastore, 1) := by decide +kernel
theorem dX14_plan_141 : decode cX14_plan 141 = .ok (.aload_n 0, 1) := by decide +kernel
theorem dX14_plan_142 : decode cX14_plan 142 = .ok (.bipush 54, 2) := by decide +kernel
theorem dX14_plan_144 : decode cX14_plan 144 = .ok (.invokevirtual 162, 3) := by decide +kernel
theorem dX14_plan_147 : decode cX14_plan 147 = .ok (.aload_n 0, 1) := by decide +kernel
theorem dX14_plan_148 : decode cX14_plan 148 = .ok (.getfield 33, 3) := by decide +kernel
theorem dX14_plan_151 : decode cX14_plan 151 = .ok (.getfield 234, 3) := by decide +kernel
theorem dX14_plan_154 : decode cX14_plan 154 = .ok (.iload_n 1, 1) := by decide +kernel
theorem dX14_plan_155 : decode cX14_plan 155 = .ok (.aload_n 0, 1) := by decide +kernel
theorem dX14_plan_156 : decode cX14_plan 156 = .ok (.invokevirtual 169, 3) := by decide +kernel
theorem dX14_plan_159 : decode cX14_plan 159 = .ok (.iastore, 1) := by decide +kernel
theorem dX14_plan_160 : decode cX14_plan 160 = .ok (.aload_n 0, 1) := by decide +kernel
theorem dX14_plan_161 : decode cX14_plan 161 = .ok (.getfield 33, 3) := by decide +kernel
theorem dX14_plan_164 : decode cX14_plan 164 = .ok (.getfield 237, 3) := by decide +kernel
theorem dX14_plan_167 : decode cX14_plan 167 = .ok (.iload_n 1, 1) := by decide +kernel
theorem dX14_plan_168 : decode cX14_plan 168 = .ok (.aload_n 0, 1) := by decide +kernel
theorem dX14_plan_169 : decode cX14_plan 169 = .ok (.bipush 11, 2) := by decide +kernel
theorem dX14_plan_171 : decode cX14_plan 171 = .ok (.invokevirtual 159, 3) := by decide +kernel
theorem dX14_plan_174 : decode cX14_plan 174 = .ok (.ifCond .eq 10, 3) := by decide +kernel
theorem dX14_plan_177 : decode cX14_plan 177 = .ok (.aload_n 0, 1) := by decide +kernel
theorem dX14_plan_178 : decode cX14_plan 178 = .ok (.invokevirtual 193, 3) := by decide +kernel
theorem dX14_plan_181 : decode cX14_plan 181 = .ok (.goto 4, 3) := by decide +kernel
theorem dX14_plan_184 : decode cX14_plan 184 = .ok (.iconst (-1), 1) := by decide +kernel
theorem dX14_plan_185 : decode cX14_plan 185 = .ok (.iastore, 1) := by decide +kernel
theorem dX14_plan_186 : decode cX14_plan 186 = .ok (.aload_n 0, 1) := by decide +kernel
theorem dX14_plan_187 : decode cX14_plan 187 = .ok (.getfield 33, 3) := by decide +kernel
theorem dX14_plan_190 : decode cX14_plan 190 = .ok (.getfield 239, 3) := by decide +kernel
theorem dX14_plan_193 : decode cX14_plan 193 = .ok (.iload_n 1, 1) := by decide +kernel
theorem dX14_plan_194 : decode cX14_plan 194 = .ok (.aload_n 0, 1) := by decide +kernel
theorem dX14_plan_195 : decode cX14_plan 195 = .ok (.getfield 33, 3) := by decide +kernel
theorem dX14_plan_198 : decode cX14_plan 198 = .ok (.getfield 147, 3) := by decide +kernel
theorem dX14_plan_201 : decode cX14_plan 201 = .ok (.iastore, 1) := by decide +kernel
theorem dX14_plan_202 : decode cX14_plan 202 = .ok (.return_, 1) := by decide +kernel
theorem dX14_game_0 : decode cX14_game 0 = .ok (.aload_n 0, 1) := by decide +kernel
theorem dX14_game_1 : decode cX14_game 1 = .ok (.iconst 0, 1) := by decide +kernel
theorem dX14_game_2 : decode cX14_game 2 = .ok (.invokevirtual 159, 3) := by decide +kernel
theorem dX14_game_5 : decode cX14_game 5 = .ok (.ifCond .eq 7, 3) := by decide +kernel
theorem dX14_game_8 : decode cX14_game 8 = .ok (.aload_n 0, 1) := by decide +kernel
theorem dX14_game_9 : decode cX14_game 9 = .ok (.invokevirtual 242, 3) := by decide +kernel
theorem dX14_game_12 : decode cX14_game 12 = .ok (.aload_n 0, 1) := by decide +kernel
theorem dX14_game_13 : decode cX14_game 13 = .ok (.getfield 125, 3) := by decide +kernel
theorem dX14_game_16 : decode cX14_game 16 = .ok (.ifCond .ne 85, 3) := by decide +kernel
theorem dX14_game_19 : decode cX14_game 19 = .ok (.aload_n 0, 1) := by decide +kernel
theorem dX14_game_20 : decode cX14_game 20 = .ok (.getfield 17, 3) := by decide +kernel
theorem dX14_game_23 : decode cX14_game 23 = .ok (.aload_n 0, 1) := by decide +kernel
theorem dX14_game_24 : decode cX14_game 24 = .ok (.getfield 129, 3) := by decide +kernel
theorem dX14_game_27 : decode cX14_game 27 = .ok (.iaload, 1) := by decide +kernel
theorem dX14_game_28 : decode cX14_game 28 = .ok (.bipush 33, 2) := by decide +kernel
theorem dX14_game_30 : decode cX14_game 30 = .ok (.if_icmp .eq 71, 3) := by decide +kernel
theorem dX14_game_33 : decode cX14_game 33 = .ok (.aload_n 0, 1) := by decide +kernel
theorem dX14_game_34 : decode cX14_game 34 = .ok (.iconst 3, 1) := by decide +kernel
theorem dX14_game_35 : decode cX14_game 35 = .ok (.invokevirtual 138, 3) := by decide +kernel
theorem dX14_game_38 : decode cX14_game 38 = .ok (.ifCond .eq 20, 3) := by decide +kernel
theorem dX14_game_41 : decode cX14_game 41 = .ok (.aload_n 0, 1) := by decide +kernel
theorem dX14_game_42 : decode cX14_game 42 = .ok (.getfield 33, 3) := by decide +kernel
theorem dX14_game_45 : decode cX14_game 45 = .ok (.getfield 215, 3) := by decide +kernel
theorem dX14_game_48 : decode cX14_game 48 = .ok (.bipush 16, 2) := by decide +kernel
theorem dX14_game_50 : decode cX14_game 50 = .ok (.if_icmp .ne 8, 3) := by decide +kernel
theorem dX14_game_53 : decode cX14_game 53 = .ok (.aload_n 0, 1) := by decide +kernel
theorem dX14_game_54 : decode cX14_game 54 = .ok (.iconst 4, 1) := by decide +kernel
theorem dX14_game_55 : decode cX14_game 55 = .ok (.invokevirtual 202, 3) := by decide +kernel
theorem dX14_game_58 : decode cX14_game 58 = .ok (.aload_n 0, 1) := by decide +kernel
theorem dX14_game_59 : decode cX14_game 59 = .ok (.iconst 2, 1) := by decide +kernel
theorem dX14_game_60 : decode cX14_game 60 = .ok (.invokevirtual 159, 3) := by decide +kernel
theorem dX14_game_63 : decode cX14_game 63 = .ok (.ifCond .eq 10, 3) := by decide +kernel
theorem dX14_game_66 : decode cX14_game 66 = .ok (.aload_n 0, 1) := by decide +kernel
theorem dX14_game_67 : decode cX14_game 67 = .ok (.invokevirtual 245, 3) := by decide +kernel
theorem dX14_game_70 : decode cX14_game 70 = .ok (.goto 22, 3) := by decide +kernel
theorem dX14_game_73 : decode cX14_game 73 = .ok (.aload_n 0, 1) := by decide +kernel
theorem dX14_game_74 : decode cX14_game 74 = .ok (.iconst 3, 1) := by decide +kernel
theorem dX14_game_75 : decode cX14_game 75 = .ok (.invokevirtual 159, 3) := by decide +kernel
theorem dX14_game_78 : decode cX14_game 78 = .ok (.ifCond .eq 10, 3) := by decide +kernel
theorem dX14_game_81 : decode cX14_game 81 = .ok (.aload_n 0, 1) := by decide +kernel
theorem dX14_game_82 : decode cX14_game 82 = .ok (.invokevirtual 247, 3) := by decide +kernel
theorem dX14_game_85 : decode cX14_game 85 = .ok (.goto 7, 3) := by decide +kernel
theorem dX14_game_88 : decode cX14_game 88 = .ok (.aload_n 0, 1) := by decide +kernel
theorem dX14_game_89 : decode cX14_game 89 = .ok (.invokevirtual 141, 3) := by decide +kernel
theorem dX14_game_92 : decode cX14_game 92 = .ok (.aload_n 0, 1) := by decide +kernel
theorem dX14_game_93 : decode cX14_game 93 = .ok (.bipush 53, 2) := by decide +kernel
theorem dX14_game_95 : decode cX14_game 95 = .ok (.invokevirtual 162, 3) := by decide +kernel
theorem dX14_game_98 : decode cX14_game 98 = .ok (.goto (-86), 3) := by decide +kernel
theorem dX14_game_101 : decode cX14_game 101 = .ok (.return_, 1) := by decide +kernel
theorem dX14_feed_0 : decode cX14_feed 0 = .ok (.aload_n 0, 1) := by decide +kernel
theorem dX14_feed_1 : decode cX14_feed 1 = .ok (.iconst 0, 1) := by decide +kernel
theorem dX14_feed_2 : decode cX14_feed 2 = .ok (.putfield 73, 3) := by decide +kernel
theorem dX14_feed_5 : decode cX14_feed 5 = .ok (.aload_n 0, 1) := by decide +kernel
theorem dX14_feed_6 : decode cX14_feed 6 = .ok (.getfield 80, 3) := by decide +kernel
theorem dX14_feed_9 : decode cX14_feed 9 = .ok (.bipush 20, 2) := by decide +kernel
theorem dX14_feed_11 : decode cX14_feed 11 = .ok (.iadd, 1) := by decide +kernel
theorem dX14_feed_12 : decode cX14_feed 12 = .ok (.sipush 2000, 3) := by decide +kernel
theorem dX14_feed_15 : decode cX14_feed 15 = .ok (.if_icmp .le 9, 3) := by decide +kernel
theorem dX14_feed_18 : decode cX14_feed 18 = .ok (.aload_n 0, 1) := by decide +kernel
theorem dX14_feed_19 : decode cX14_feed 19 = .ok (.iconst 1, 1) := by decide +kernel
theorem dX14_feed_20 : decode cX14_feed 20 = .ok (.invokevirtual 250, 3) := by decide +kernel
theorem dX14_feed_23 : decode cX14_feed 23 = .ok (.ireturn, 1) := by decide +kernel
theorem dX14_feed_24 : decode cX14_feed 24 = .ok (.iconst 5, 1) := by decide +kernel
theorem dX14_feed_25 : decode cX14_feed 25 = .ok (.newarray .int, 2) := by decide +kernel
theorem dX14_feed_27 : decode cX14_feed 27 = .ok (.dup, 1) := by decide +kernel
theorem dX14_feed_28 : decode cX14_feed 28 = .ok (.iconst 0, 1) := by decide +kernel
theorem dX14_feed_29 : decode cX14_feed 29 = .ok (.iload_n 1, 1) := by decide +kernel
theorem dX14_feed_30 : decode cX14_feed 30 = .ok (.iastore, 1) := by decide +kernel
theorem dX14_feed_31 : decode cX14_feed 31 = .ok (.dup, 1) := by decide +kernel
theorem dX14_feed_32 : decode cX14_feed 32 = .ok (.iconst 1, 1) := by decide +kernel
theorem dX14_feed_33 : decode cX14_feed 33 = .ok (.iload_n 2, 1) := by decide +kernel
theorem dX14_feed_34 : decode cX14_feed 34 = .ok (.iastore, 1) := by decide +kernel
theorem dX14_feed_35 : decode cX14_feed 35 = .ok (.dup, 1) := by decide +kernel
theorem dX14_feed_36 : decode cX14_feed 36 = .ok (.iconst 2, 1) := by decide +kernel
theorem dX14_feed_37 : decode cX14_feed 37 = .ok (.iload_n 3, 1) := by decide +kernel
theorem dX14_feed_38 : decode cX14_feed 38 = .ok (.iastore, 1) := by decide +kernel
theorem dX14_feed_39 : decode cX14_feed 39 = .ok (.dup, 1) := by decide +kernel
theorem dX14_feed_40 : decode cX14_feed 40 = .ok (.iconst 3, 1) := by decide +kernel
theorem dX14_feed_41 : decode cX14_feed 41 = .ok (.iload 4, 2) := by decide +kernel
theorem dX14_feed_43 : decode cX14_feed 43 = .ok (.iastore, 1) := by decide +kernel
theorem dX14_feed_44 : decode cX14_feed 44 = .ok (.dup, 1) := by decide +kernel
theorem dX14_feed_45 : decode cX14_feed 45 = .ok (.iconst 4, 1) := by decide +kernel
theorem dX14_feed_46 : decode cX14_feed 46 = .ok (.iload 5, 2) := by decide +kernel
theorem dX14_feed_48 : decode cX14_feed 48 = .ok (.iastore, 1) := by decide +kernel
theorem dX14_feed_49 : decode cX14_feed 49 = .ok (.astore 6, 2) := by decide +kernel
theorem dX14_feed_51 : decode cX14_feed 51 = .ok (.aload 6, 2) := by decide +kernel
theorem dX14_feed_53 : decode cX14_feed 53 = .ok (.astore 7, 2) := by decide +kernel
theorem dX14_feed_55 : decode cX14_feed 55 = .ok (.aload 7, 2) := by decide +kernel
theorem dX14_feed_57 : decode cX14_feed 57 = .ok (.arraylength, 1) := by decide +kernel
theorem dX14_feed_58 : decode cX14_feed 58 = .ok (.istore 8, 2) := by decide +kernel
theorem dX14_feed_60 : decode cX14_feed 60 = .ok (.iconst 0, 1) := by decide +kernel
theorem dX14_feed_61 : decode cX14_feed 61 = .ok (.istore 9, 2) := by decide +kernel
theorem dX14_feed_63 : decode cX14_feed 63 = .ok (.iload 9, 2) := by decide +kernel
theorem dX14_feed_65 : decode cX14_feed 65 = .ok (.iload 8, 2) := by decide +kernel
theorem dX14_feed_67 : decode cX14_feed 67 = .ok (.if_icmp .ge 59, 3) := by decide +kernel
theorem dX14_feed_70 : decode cX14_feed 70 = .ok (.aload 7, 2) := by decide +kernel
theorem dX14_feed_72 : decode cX14_feed 72 = .ok (.iload 9, 2) := by decide +kernel
theorem dX14_feed_74 : decode cX14_feed 74 = .ok (.iaload, 1) := by decide +kernel
theorem dX14_feed_75 : decode cX14_feed 75 = .ok (.istore 10, 2) := by decide +kernel
theorem dX14_feed_77 : decode cX14_feed 77 = .ok (.bipush 24, 2) := by decide +kernel
theorem dX14_feed_79 : decode cX14_feed 79 = .ok (.istore 11, 2) := by decide +kernel
theorem dX14_feed_81 : decode cX14_feed 81 = .ok (.iload 11, 2) := by decide +kernel
theorem dX14_feed_83 : decode cX14_feed 83 = .ok (.ifCond .lt 37, 3) := by decide +kernel
theorem dX14_feed_86 : decode cX14_feed 86 = .ok (.aload_n 0, 1) := by decide +kernel
theorem dX14_feed_87 : decode cX14_feed 87 = .ok (.getfield 9, 3) := by decide +kernel
theorem dX14_feed_90 : decode cX14_feed 90 = .ok (.aload_n 0, 1) := by decide +kernel
theorem dX14_feed_91 : decode cX14_feed 91 = .ok (.getfield 80, 3) := by decide +kernel
theorem dX14_feed_94 : decode cX14_feed 94 = .ok (.iload 10, 2) := by decide +kernel
theorem dX14_feed_96 : decode cX14_feed 96 = .ok (.iload 11, 2) := by decide +kernel
theorem dX14_feed_98 : decode cX14_feed 98 = .ok (.ishr, 1) := by decide +kernel
theorem dX14_feed_99 : decode cX14_feed 99 = .ok (.sipush 255, 3) := by decide +kernel
theorem dX14_feed_102 : decode cX14_feed 102 = .ok (.iand, 1) := by decide +kernel
theorem dX14_feed_103 : decode cX14_feed 103 = .ok (.iastore, 1) := by decide +kernel
theorem dX14_feed_104 : decode cX14_feed 104 = .ok (.aload_n 0, 1) := by decide +kernel
theorem dX14_feed_105 : decode cX14_feed 105 = .ok (.dup, 1) := by decide +kernel
theorem dX14_feed_106 : decode cX14_feed 106 = .ok (.getfield 80, 3) := by decide +kernel
theorem dX14_feed_109 : decode cX14_feed 109 = .ok (.iconst 1, 1) := by decide +kernel
theorem dX14_feed_110 : decode cX14_feed 110 = .ok (.iadd, 1) := by decide +kernel
theorem dX14_feed_111 : decode cX14_feed 111 = .ok (.putfield 80, 3) := by decide +kernel
theorem dX14_feed_114 : decode cX14_feed 114 = .ok (.iinc 11 (-8), 3) := by decide +kernel
theorem dX14_feed_117 : decode cX14_feed 117 = .ok (.goto (-36), 3) := by decide +kernel
theorem dX14_feed_120 : decode cX14_feed 120 = .ok (.iinc 9 1, 3) := by decide +kernel
theorem dX14_feed_123 : decode cX14_feed 123 = .ok (.goto (-60), 3) := by decide +kernel
theorem dX14_feed_126 : decode cX14_feed 126 = .ok (.aload_n 0, 1) := by decide +kernel
theorem dX14_feed_127 : decode cX14_feed 127 = .ok (.getfield 80, 3) := by decide +kernel
theorem dX14_feed_130 : decode cX14_feed 130 = .ok (.ireturn, 1) := by decide +kernel
theorem dX14_trim_0 : decode cX14_trim 0 = .ok (.aload_n 0, 1) := by decide +kernel
theorem dX14_trim_1 : decode cX14_trim 1 = .ok (.iconst 0, 1) := by decide +kernel
theorem dX14_trim_2 : decode cX14_trim 2 = .ok (.putfield 73, 3) := by decide +kernel
theorem dX14_trim_5 : decode cX14_trim 5 = .ok (.iload_n 1, 1) := by decide +kernel
theorem dX14_trim_6 : decode cX14_trim 6 = .ok (.iconst 0, 1) := by decide +kernel
theorem dX14_trim_7 : decode cX14_trim 7 = .ok (.aload_n 0, 1) := by decide +kernel
theorem dX14_trim_8 : decode cX14_trim 8 = .ok (.getfield 80, 3) := by decide +kernel
theorem dX14_trim_11 : decode cX14_trim 11 = .ok (.invokestatic 76, 3) := by decide +kernel
theorem dX14_trim_14 : decode cX14_trim 14 = .ok (.ifCond .ne 9, 3) := by decide +kernel
theorem dX14_trim_17 : decode cX14_trim 17 = .ok (.aload_n 0, 1) := by decide +kernel
theorem dX14_trim_18 : decode cX14_trim 18 = .ok (.iconst 1, 1) := by decide +kernel
theorem dX14_trim_19 : decode cX14_trim 19 = .ok (.invokevirtual 250, 3) := by decide +kernel
theorem dX14_trim_22 : decode cX14_trim 22 = .ok (.ireturn, 1) := by decide +kernel
theorem dX14_trim_23 : decode cX14_trim 23 = .ok (.aload_n 0, 1) := by decide +kernel
theorem dX14_trim_24 : decode cX14_trim 24 = .ok (.iload_n 1, 1) := by decide +kernel
theorem dX14_trim_25 : decode cX14_trim 25 = .ok (.putfield 80, 3) := by decide +kernel
theorem dX14_trim_28 : decode cX14_trim 28 = .ok (.iload_n 1, 1) := by decide +kernel
theorem dX14_trim_29 : decode cX14_trim 29 = .ok (.ireturn, 1) := by decide +kernel
theorem dX14_teach_0 : decode cX14_teach 0 = .ok (.aload_n 0, 1) := by decide +kernel
theorem dX14_teach_1 : decode cX14_teach 1 = .ok (.iconst 0, 1) := by decide +kernel
theorem dX14_teach_2 : decode cX14_teach 2 = .ok (.putfield 73, 3) := by decide +kernel
theorem dX14_teach_5 : decode cX14_teach 5 = .ok (.aload_n 0, 1) := by decide +kernel
theorem dX14_teach_6 : decode cX14_teach 6 = .ok (.iconst 0, 1) := by decide +kernel
theorem dX14_teach_7 : decode cX14_teach 7 = .ok (.putfield 129, 3) := by decide +kernel
theorem dX14_teach_10 : decode cX14_teach 10 = .ok (.aload_n 0, 1) := by decide +kernel
theorem dX14_teach_11 : decode cX14_teach 11 = .ok (.iconst 0, 1) := by decide +kernel
theorem dX14_teach_12 : decode cX14_teach 12 = .ok (.putfield 125, 3) := by decide +kernel
theorem dX14_teach_15 : decode cX14_teach 15 = .ok (.aload_n 0, 1) := by decide +kernel
theorem dX14_teach_16 : decode cX14_teach 16 = .ok (.iconst 0, 1) := by decide +kernel
theorem dX14_teach_17 : decode cX14_teach 17 = .ok (.putfield 132, 3) := by decide +kernel
theorem dX14_teach_20 : decode cX14_teach 20 = .ok (.aload_n 0, 1) := by decide +kernel
theorem dX14_teach_21 : decode cX14_teach 21 = .ok (.iconst 0, 1) := by decide +kernel
theorem dX14_teach_22 : decode cX14_teach 22 = .ok (.putfield 144, 3) := by decide +kernel
theorem dX14_teach_25 : decode cX14_teach 25 = .ok (.aload_n 0, 1) := by decide +kernel
theorem dX14_teach_26 : decode cX14_teach 26 = .ok (.getfield 33, 3) := by decide +kernel
theorem dX14_teach_29 : decode cX14_teach 29 = .ok (.invokevirtual 70, 3) := by decide +kernel
theorem dX14_teach_32 : decode cX14_teach 32 = .ok (.aload_n 0, 1) := by decide +kernel
theorem dX14_teach_33 : decode cX14_teach 33 = .ok (.invokevirtual 253, 3) := by decide +kernel
theorem dX14_teach_36 : decode cX14_teach 36 = .ok (.aload_n 0, 1) := by decide +kernel
theorem dX14_teach_37 : decode cX14_teach 37 = .ok (.invokevirtual 256, 3) := by decide +kernel
theorem dX14_teach_40 : decode cX14_teach 40 = .ok (.aload_n 0, 1) := by decide +kernel
theorem dX14_teach_41 : decode cX14_teach 41 = .ok (.iconst 0, 1) := by decide +kernel
theorem dX14_teach_42 : decode cX14_teach 42 = .ok (.putfield 80, 3) := by decide +kernel
theorem dX14_teach_45 : decode cX14_teach 45 = .ok (.aload_n 0, 1) := by decide +kernel
theorem dX14_teach_46 : decode cX14_teach 46 = .ok (.aload_n 0, 1) := by decide +kernel
theorem dX14_teach_47 : decode cX14_teach 47 = .ok (.getfield 132, 3) := by decide +kernel
theorem dX14_teach_50 : decode cX14_teach 50 = .ok (.ifCond .ne 7, 3) := by decide +kernel
theorem dX14_teach_53 : decode cX14_teach 53 = .ok (.iconst (-1), 1) := by decide +kernel
theorem dX14_teach_54 : decode cX14_teach 54 = .ok (.goto 12, 3) := by decide +kernel
theorem dX14_teach_57 : decode cX14_teach 57 = .ok (.aload_n 0, 1) := by decide +kernel
theorem dX14_teach_58 : decode cX14_teach 58 = .ok (.getfield 23, 3) := by decide +kernel
theorem dX14_teach_61 : decode cX14_teach 61 = .ok (.aload_n 0, 1) := by decide +kernel
theorem dX14_teach_62 : decode cX14_teach 62 = .ok (.getfield 135, 3) := by decide +kernel
theorem dX14_teach_65 : decode cX14_teach 65 = .ok (.iaload, 1) := by decide +kernel
theorem dX14_teach_66 : decode cX14_teach 66 = .ok (.putfield 13, 3) := by decide +kernel
theorem dX14_teach_69 : decode cX14_teach 69 = .ok (.aload_n 0, 1) := by decide +kernel
theorem dX14_teach_70 : decode cX14_teach 70 = .ok (.getfield 132, 3) := by decide +kernel
theorem dX14_teach_73 : decode cX14_teach 73 = .ok (.ifCond .eq 8, 3) := by decide +kernel
theorem dX14_teach_76 : decode cX14_teach 76 = .ok (.aload_n 0, 1) := by decide +kernel
theorem dX14_teach_77 : decode cX14_teach 77 = .ok (.getfield 132, 3) := by decide +kernel
theorem dX14_teach_80 : decode cX14_teach 80 = .ok (.ireturn, 1) := by decide +kernel
theorem dX14_teach_81 : decode cX14_teach 81 = .ok (.aload_n 0, 1) := by decide +kernel
theorem dX14_teach_82 : decode cX14_teach 82 = .ok (.getfield 29, 3) := by decide +kernel
theorem dX14_teach_85 : decode cX14_teach 85 = .ok (.aload_n 0, 1) := by decide +kernel
theorem dX14_teach_86 : decode cX14_teach 86 = .ok (.getfield 33, 3) := by decide +kernel
theorem dX14_teach_89 : decode cX14_teach 89 = .ok (.invokevirtual 259, 3) := by decide +kernel
theorem dX14_teach_92 : decode cX14_teach 92 = .ok (.aload_n 0, 1) := by decide +kernel
theorem dX14_teach_93 : decode cX14_teach 93 = .ok (.getfield 29, 3) := by decide +kernel
theorem dX14_teach_96 : decode cX14_teach 96 = .ok (.getfield 214, 3) := by decide +kernel
theorem dX14_teach_99 : decode cX14_teach 99 = .ok (.iconst 0, 1) := by decide +kernel
theorem dX14_teach_100 : decode cX14_teach 100 = .ok (.aload_n 0, 1) := by decide +kernel
theorem dX14_teach_101 : decode cX14_teach 101 = .ok (.getfield 39, 3) := by decide +kernel
theorem dX14_teach_104 : decode cX14_teach 104 = .ok (.iconst 0, 1) := by decide +kernel
theorem dX14_teach_105 : decode cX14_teach 105 = .ok (.bipush 81, 2) := by decide +kernel
theorem dX14_teach_107 : decode cX14_teach 107 = .ok (.invokestatic 263, 3) := by decide +kernel
theorem dX14_teach_110 : decode cX14_teach 110 = .ok (.aload_n 0, 1) := by decide +kernel
theorem dX14_teach_111 : decode cX14_teach 111 = .ok (.iconst 0, 1) := by decide +kernel
theorem dX14_teach_112 : decode cX14_teach 112 = .ok (.putfield 269, 3) := by decide +kernel
theorem dX14_teach_115 : decode cX14_teach 115 = .ok (.iconst 0, 1) := by decide +kernel
theorem dX14_teach_116 : decode cX14_teach 116 = .ok (.ireturn, 1) := by decide +kernel
theorem dX14_errorAt_0 : decode cX14_errorAt 0 = .ok (.aload_n 0, 1) := by decide +kernel
theorem dX14_errorAt_1 : decode cX14_errorAt 1 = .ok (.aload_n 0, 1) := by decide +kernel
theorem dX14_errorAt_2 : decode cX14_errorAt 2 = .ok (.getfield 13, 3) := by decide +kernel
theorem dX14_errorAt_5 : decode cX14_errorAt 5 = .ok (.invokevirtual 272, 3) := by decide +kernel
theorem dX14_errorAt_8 : decode cX14_errorAt 8 = .ok (.ireturn, 1) := by decide +kernel
theorem dX14_cells_0 : decode cX14_cells 0 = .ok (.aload_n 0, 1) := by decide +kernel
theorem dX14_cells_1 : decode cX14_cells 1 = .ok (.getfield 29, 3) := by decide +kernel
theorem dX14_cells_4 : decode cX14_cells 4 = .ok (.getfield 208, 3) := by decide +kernel
theorem dX14_cells_7 : decode cX14_cells 7 = .ok (.aload_n 0, 1) := by decide +kernel
theorem dX14_cells_8 : decode cX14_cells 8 = .ok (.getfield 29, 3) := by decide +kernel
theorem dX14_cells_11 : decode cX14_cells 11 = .ok (.getfield 211, 3) := by decide +kernel
theorem dX14_cells_14 : decode cX14_cells 14 = .ok (.imul, 1) := by decide +kernel
theorem dX14_cells_15 : decode cX14_cells 15 = .ok (.ireturn, 1) := by decide +kernel
theorem dX14_isOn_0 : decode cX14_isOn 0 = .ok (.iload_n 1, 1) := by decide +kernel
theorem dX14_isOn_1 : decode cX14_isOn 1 = .ok (.iconst 0, 1) := by decide +kernel
theorem dX14_isOn_2 : decode cX14_isOn 2 = .ok (.aload_n 0, 1) := by decide +kernel
theorem dX14_isOn_3 : decode cX14_isOn 3 = .ok (.getfield 29, 3) := by decide +kernel
theorem dX14_isOn_6 : decode cX14_isOn 6 = .ok (.getfield 208, 3) := by decide +kernel
theorem dX14_isOn_9 : decode cX14_isOn 9 = .ok (.iconst 1, 1) := by decide +kernel
theorem dX14_isOn_10 : decode cX14_isOn 10 = .ok (.isub, 1) := by decide +kernel
theorem dX14_isOn_11 : decode cX14_isOn 11 = .ok (.invokestatic 76, 3) := by decide +kernel
theorem dX14_isOn_14 : decode cX14_isOn 14 = .ok (.ifCond .eq 24, 3) := by decide +kernel
theorem dX14_isOn_17 : decode cX14_isOn 17 = .ok (.iload_n 2, 1) := by decide +kernel
theorem dX14_isOn_18 : decode cX14_isOn 18 = .ok (.iconst 0, 1) := by decide +kernel
theorem dX14_isOn_19 : decode cX14_isOn 19 = .ok (.aload_n 0, 1) := by decide +kernel
theorem dX14_isOn_20 : decode cX14_isOn 20 = .ok (.getfield 29, 3) := by decide +kernel
theorem dX14_isOn_23 : decode cX14_isOn 23 = .ok (.getfield 211, 3) := by decide +kernel
theorem dX14_isOn_26 : decode cX14_isOn 26 = .ok (.iconst 1, 1) := by decide +kernel
theorem dX14_isOn_27 : decode cX14_isOn 27 = .ok (.isub, 1) := by decide +kernel
theorem dX14_isOn_28 : decode cX14_isOn 28 = .ok (.invokestatic 76, 3) := by decide +kernel
theorem dX14_isOn_31 : decode cX14_isOn 31 = .ok (.ifCond .eq 7, 3) := by decide +kernel
theorem dX14_isOn_34 : decode cX14_isOn 34 = .ok (.iconst 1, 1) := by decide +kernel
theorem dX14_isOn_35 : decode cX14_isOn 35 = .ok (.goto 4, 3) := by decide +kernel
theorem dX14_isOn_38 : decode cX14_isOn 38 = .ok (.iconst 0, 1) := by decide +kernel
theorem dX14_isOn_39 : decode cX14_isOn 39 = .ok (.ireturn, 1) := by decide +kernel
theorem dX14_at_0 : decode cX14_at 0 = .ok (.aload_n 0, 1) := by decide +kernel
theorem dX14_at_1 : decode cX14_at 1 = .ok (.getfield 29, 3) := by decide +kernel
theorem dX14_at_4 : decode cX14_at 4 = .ok (.getfield 208, 3) := by decide +kernel
theorem dX14_at_7 : decode cX14_at 7 = .ok (.iload_n 2, 1) := by decide +kernel
theorem dX14_at_8 : decode cX14_at 8 = .ok (.imul, 1) := by decide +kernel
theorem dX14_at_9 : decode cX14_at 9 = .ok (.iload_n 1, 1) := by decide +kernel
theorem dX14_at_10 : decode cX14_at 10 = .ok (.iadd, 1) := by decide +kernel
theorem dX14_at_11 : decode cX14_at 11 = .ok (.ireturn, 1) := by decide +kernel
theorem dX14_isPlayer_0 : decode cX14_isPlayer 0 = .ok (.iload_n 0, 1) := by decide +kernel
theorem dX14_isPlayer_1 : decode cX14_isPlayer 1 = .ok (.ifCond .eq 8, 3) := by decide +kernel
theorem dX14_isPlayer_4 : decode cX14_isPlayer 4 = .ok (.iload_n 0, 1) := by decide +kernel
theorem dX14_isPlayer_5 : decode cX14_isPlayer 5 = .ok (.iconst 1, 1) := by decide +kernel
theorem dX14_isPlayer_6 : decode cX14_isPlayer 6 = .ok (.if_icmp .ne 7, 3) := by decide +kernel
theorem dX14_isPlayer_9 : decode cX14_isPlayer 9 = .ok (.iconst 1, 1) := by decide +kernel
theorem dX14_isPlayer_10 : decode cX14_isPlayer 10 = .ok (.goto 4, 3) := by decide +kernel
theorem dX14_isPlayer_13 : decode cX14_isPlayer 13 = .ok (.iconst 0, 1) := by decide +kernel
theorem dX14_isPlayer_14 : decode cX14_isPlayer 14 = .ok (.ireturn, 1) := by decide +kernel
theorem dX14_isCell_0 : decode cX14_isCell 0 = .ok (.iload_n 1, 1) := by decide +kernel
theorem dX14_isCell_1 : decode cX14_isCell 1 = .ok (.iconst 0, 1) := by decide +kernel
theorem dX14_isCell_2 : decode cX14_isCell 2 = .ok (.aload_n 0, 1) := by decide +kernel
theorem dX14_isCell_3 : decode cX14_isCell 3 = .ok (.invokevirtual 275, 3) := by decide +kernel
theorem dX14_isCell_6 : decode cX14_isCell 6 = .ok (.iconst 1, 1) := by decide +kernel
theorem dX14_isCell_7 : decode cX14_isCell 7 = .ok (.isub, 1) := by decide +kernel
theorem dX14_isCell_8 : decode cX14_isCell 8 = .ok (.invokestatic 76, 3) := by decide +kernel
theorem dX14_isCell_11 : decode cX14_isCell 11 = .ok (.ireturn, 1) := by decide +kernel
theorem dX14_beside_0 : decode cX14_beside 0 = .ok (.iload_n 1, 1) := by decide +kernel
theorem dX14_beside_1 : decode cX14_beside 1 = .ok (.aload_n 0, 1) := by decide +kernel
theorem dX14_beside_2 : decode cX14_beside 2 = .ok (.getfield 29, 3) := by decide +kernel
theorem dX14_beside_5 : decode cX14_beside 5 = .ok (.getfield 208, 3) := by decide +kernel
theorem dX14_beside_8 : decode cX14_beside 8 = .ok (.irem, 1) := by decide +kernel
theorem dX14_beside_9 : decode cX14_beside 9 = .ok (.getstatic 278, 3) := by decide +kernel
theorem dX14_beside_12 : decode cX14_beside 12 = .ok (.iload_n 2, 1) := by decide +kernel
theorem dX14_beside_13 : decode cX14_beside 13 = .ok (.iaload, 1) := by decide +kernel
theorem dX14_beside_14 : decode cX14_beside 14 = .ok (.iadd, 1) := by decide +kernel
theorem dX14_beside_15 : decode cX14_beside 15 = .ok (.istore_n 3, 1) := by decide +kernel
theorem dX14_beside_16 : decode cX14_beside 16 = .ok (.iload_n 1, 1) := by decide +kernel
theorem dX14_beside_17 : decode cX14_beside 17 = .ok (.aload_n 0, 1) := by decide +kernel
theorem dX14_beside_18 : decode cX14_beside 18 = .ok (.getfield 29, 3) := by decide +kernel
theorem dX14_beside_21 : decode cX14_beside 21 = .ok (.getfield 208, 3) := by decide +kernel
theorem dX14_beside_24 : decode cX14_beside 24 = .ok (.idiv, 1) := by decide +kernel
theorem dX14_beside_25 : decode cX14_beside 25 = .ok (.getstatic 281, 3) := by decide +kernel
theorem dX14_beside_28 : decode cX14_beside 28 = .ok (.iload_n 2, 1) := by decide +kernel
theorem dX14_beside_29 : decode cX14_beside 29 = .ok (.iaload, 1) := by decide +kernel
theorem dX14_beside_30 : decode cX14_beside 30 = .ok (.iadd, 1) := by decide +kernel
theorem dX14_beside_31 : decode cX14_beside 31 = .ok (.istore 4, 2) := by decide +kernel
theorem dX14_beside_33 : decode cX14_beside 33 = .ok (.aload_n 0, 1) := by decide +kernel
theorem dX14_beside_34 : decode cX14_beside 34 = .ok (.iload_n 3, 1) := by decide +kernel
theorem dX14_beside_35 : decode cX14_beside 35 = .ok (.iload 4, 2) := by decide +kernel
theorem dX14_beside_37 : decode cX14_beside 37 = .ok (.invokevirtual 284, 3) := by decide +kernel
theorem dX14_beside_40 : decode cX14_beside 40 = .ok (.ifCond .eq 13, 3) := by decide +kernel
theorem dX14_beside_43 : decode cX14_beside 43 = .ok (.aload_n 0, 1) := by decide +kernel
theorem dX14_beside_44 : decode cX14_beside 44 = .ok (.iload_n 3, 1) := by decide +kernel
theorem dX14_beside_45 : decode cX14_beside 45 = .ok (.iload 4, 2) := by decide +kernel
theorem dX14_beside_47 : decode cX14_beside 47 = .ok (.invokevirtual 288, 3) := by decide +kernel
theorem dX14_beside_50 : decode cX14_beside 50 = .ok (.goto 4, 3) := by decide +kernel
theorem dX14_beside_53 : decode cX14_beside 53 = .ok (.iconst (-1), 1) := by decide +kernel
theorem dX14_beside_54 : decode cX14_beside 54 = .ok (.ireturn, 1) := by decide +kernel
theorem dX14_count_0 : decode cX14_count 0 = .ok (.iconst 0, 1) := by decide +kernel
theorem dX14_count_1 : decode cX14_count 1 = .ok (.istore_n 2, 1) := by decide +kernel
theorem dX14_count_2 : decode cX14_count 2 = .ok (.iconst 0, 1) := by decide +kernel
theorem dX14_count_3 : decode cX14_count 3 = .ok (.istore_n 3, 1) := by decide +kernel
theorem dX14_count_4 : decode cX14_count 4 = .ok (.iload_n 3, 1) := by decide +kernel
theorem dX14_count_5 : decode cX14_count 5 = .ok (.aload_n 0, 1) := by decide +kernel
theorem dX14_count_6 : decode cX14_count 6 = .ok (.invokevirtual 275, 3) := by decide +kernel
theorem dX14_count_9 : decode cX14_count 9 = .ok (.if_icmp .ge 27, 3) := by decide +kernel
theorem dX14_count_12 : decode cX14_count 12 = .ok (.iload_n 2, 1) := by decide +kernel
theorem dX14_count_13 : decode cX14_count 13 = .ok (.aload_n 0, 1) := by decide +kernel
theorem dX14_count_14 : decode cX14_count 14 = .ok (.getfield 39, 3) := by decide +kernel
theorem dX14_count_17 : decode cX14_count 17 = .ok (.iload_n 3, 1) := by decide +kernel
theorem dX14_count_18 : decode cX14_count 18 = .ok (.iaload, 1) := by decide +kernel
theorem dX14_count_19 : decode cX14_count 19 = .ok (.iload_n 1, 1) := by decide +kernel
theorem dX14_count_20 : decode cX14_count 20 = .ok (.if_icmp .ne 7, 3) := by decide +kernel
theorem dX14_count_23 : decode cX14_count 23 = .ok (.iconst 1, 1) := by decide +kernel
theorem dX14_count_24 : decode cX14_count 24 = .ok (.goto 4, 3) := by decide +kernel
theorem dX14_count_27 : decode cX14_count 27 = .ok (.iconst 0, 1) := by decide +kernel
theorem dX14_count_28 : decode cX14_count 28 = .ok (.iadd, 1) := by decide +kernel
theorem dX14_count_29 : decode cX14_count 29 = .ok (.istore_n 2, 1) := by decide +kernel
theorem dX14_count_30 : decode cX14_count 30 = .ok (.iinc 3 1, 3) := by decide +kernel
theorem dX14_count_33 : decode cX14_count 33 = .ok (.goto (-29), 3) := by decide +kernel
theorem dX14_count_36 : decode cX14_count 36 = .ok (.iload_n 2, 1) := by decide +kernel
theorem dX14_count_37 : decode cX14_count 37 = .ok (.ireturn, 1) := by decide +kernel
theorem dX14_isShore_0 : decode cX14_isShore 0 = .ok (.iload_n 2, 1) := by decide +kernel
theorem dX14_isShore_1 : decode cX14_isShore 1 = .ok (.ifCond .ne 15, 3) := by decide +kernel
theorem dX14_isShore_4 : decode cX14_isShore 4 = .ok (.iload_n 1, 1) := by decide +kernel
theorem dX14_isShore_5 : decode cX14_isShore 5 = .ok (.aload_n 0, 1) := by decide +kernel
theorem dX14_isShore_6 : decode cX14_isShore 6 = .ok (.getfield 29, 3) := by decide +kernel
theorem dX14_isShore_9 : decode cX14_isShore 9 = .ok (.getfield 208, 3) := by decide +kernel
theorem dX14_isShore_12 : decode cX14_isShore 12 = .ok (.irem, 1) := by decide +kernel
theorem dX14_isShore_13 : decode cX14_isShore 13 = .ok (.goto 12, 3) := by decide +kernel
theorem dX14_isShore_16 : decode cX14_isShore 16 = .ok (.iload_n 1, 1) := by decide +kernel
theorem dX14_isShore_17 : decode cX14_isShore 17 = .ok (.aload_n 0, 1) := by decide +kernel
theorem dX14_isShore_18 : decode cX14_isShore 18 = .ok (.getfield 29, 3) := by decide +kernel
theorem dX14_isShore_21 : decode cX14_isShore 21 = .ok (.getfield 208, 3) := by decide +kernel
theorem dX14_isShore_24 : decode cX14_isShore 24 = .ok (.idiv, 1) := by decide +kernel
theorem dX14_isShore_25 : decode cX14_isShore 25 = .ok (.istore 4, 2) := by decide +kernel
theorem dX14_isShore_27 : decode cX14_isShore 27 = .ok (.iload 4, 2) := by decide +kernel
theorem dX14_isShore_29 : decode cX14_isShore 29 = .ok (.iload_n 3, 1) := by decide +kernel
theorem dX14_isShore_30 : decode cX14_isShore 30 = .ok (.ifCond .ne 7, 3) := by decide +kernel
theorem dX14_isShore_33 : decode cX14_isShore 33 = .ok (.iconst 0, 1) := by decide +kernel
theorem dX14_isShore_34 : decode cX14_isShore 34 = .ok (.goto 28, 3) := by decide +kernel
theorem dX14_isShore_37 : decode cX14_isShore 37 = .ok (.iload_n 2, 1) := by decide +kernel
theorem dX14_isShore_38 : decode cX14_isShore 38 = .ok (.ifCond .ne 15, 3) := by decide +kernel
theorem dX14_isShore_41 : decode cX14_isShore 41 = .ok (.aload_n 0, 1) := by decide +kernel
theorem dX14_isShore_42 : decode cX14_isShore 42 = .ok (.getfield 29, 3) := by decide +kernel
theorem dX14_isShore_45 : decode cX14_isShore 45 = .ok (.getfield 208, 3) := by decide +kernel
theorem dX14_isShore_48 : decode cX14_isShore 48 = .ok (.iconst 1, 1) := by decide +kernel
theorem dX14_isShore_49 : decode cX14_isShore 49 = .ok (.isub, 1) := by decide +kernel
theorem dX14_isShore_50 : decode cX14_isShore 50 = .ok (.goto 12, 3) := by decide +kernel
theorem dX14_isShore_53 : decode cX14_isShore 53 = .ok (.aload_n 0, 1) := by decide +kernel
theorem dX14_isShore_54 : decode cX14_isShore 54 = .ok (.getfield 29, 3) := by decide +kernel
theorem dX14_isShore_57 : decode cX14_isShore 57 = .ok (.getfield 211, 3) := by decide +kernel
theorem dX14_isShore_60 : decode cX14_isShore 60 = .ok (.iconst 1, 1) := by decide +kernel
theorem dX14_isShore_61 : decode cX14_isShore 61 = .ok (.isub, 1) := by decide +kernel
theorem dX14_isShore_62 : decode cX14_isShore 62 = .ok (.if_icmp .ne 7, 3) := by decide +kernel
theorem dX14_isShore_65 : decode cX14_isShore 65 = .ok (.iconst 1, 1) := by decide +kernel
theorem dX14_isShore_66 : decode cX14_isShore 66 = .ok (.goto 4, 3) := by decide +kernel
theorem dX14_isShore_69 : decode cX14_isShore 69 = .ok (.iconst 0, 1) := by decide +kernel
theorem dX14_isShore_70 : decode cX14_isShore 70 = .ok (.ireturn, 1) := by decide +kernel
theorem dX14_gather_0 : decode cX14_gather 0 = .ok (.aload_n 0, 1) := by decide +kernel
theorem dX14_gather_1 : decode cX14_gather 1 = .ok (.iconst 0, 1) := by decide +kernel
theorem dX14_gather_2 : decode cX14_gather 2 = .ok (.putfield 291, 3) := by decide +kernel
theorem dX14_gather_5 : decode cX14_gather 5 = .ok (.iconst 0, 1) := by decide +kernel
theorem dX14_gather_6 : decode cX14_gather 6 = .ok (.istore_n 2, 1) := by decide +kernel
theorem dX14_gather_7 : decode cX14_gather 7 = .ok (.iload_n 2, 1) := by decide +kernel
theorem dX14_gather_8 : decode cX14_gather 8 = .ok (.aload_n 0, 1) := by decide +kernel
theorem dX14_gather_9 : decode cX14_gather 9 = .ok (.invokevirtual 275, 3) := by decide +kernel
theorem dX14_gather_12 : decode cX14_gather 12 = .ok (.if_icmp .ge 16, 3) := by decide +kernel
theorem dX14_gather_15 : decode cX14_gather 15 = .ok (.aload_n 0, 1) := by decide +kernel
theorem dX14_gather_16 : decode cX14_gather 16 = .ok (.getfield 54, 3) := by decide +kernel
theorem dX14_gather_19 : decode cX14_gather 19 = .ok (.iload_n 2, 1) := by decide +kernel
theorem dX14_gather_20 : decode cX14_gather 20 = .ok (.iconst (-1), 1) := by decide +kernel
theorem dX14_gather_21 : decode cX14_gather 21 = .ok (.iastore, 1) := by decide +kernel
theorem dX14_gather_22 : decode cX14_gather 22 = .ok (.iinc 2 1, 3) := by decide +kernel
theorem dX14_gather_25 : decode cX14_gather 25 = .ok (.goto (-18), 3) := by decide +kernel
theorem dX14_gather_28 : decode cX14_gather 28 = .ok (.iconst 0, 1) := by decide +kernel
theorem dX14_gather_29 : decode cX14_gather 29 = .ok (.istore_n 2, 1) := by decide +kernel
theorem dX14_gather_30 : decode cX14_gather 30 = .ok (.iload_n 2, 1) := by decide +kernel
theorem dX14_gather_31 : decode cX14_gather 31 = .ok (.aload_n 0, 1) := by decide +kernel
theorem dX14_gather_32 : decode cX14_gather 32 = .ok (.invokevirtual 275, 3) := by decide +kernel
theorem dX14_gather_35 : decode cX14_gather 35 = .ok (.if_icmp .ge 34, 3) := by decide +kernel
theorem dX14_gather_38 : decode cX14_gather 38 = .ok (.aload_n 0, 1) := by decide +kernel
theorem dX14_gather_39 : decode cX14_gather 39 = .ok (.getfield 39, 3) := by decide +kernel
theorem dX14_gather_42 : decode cX14_gather 42 = .ok (.iload_n 2, 1) := by decide +kernel
theorem dX14_gather_43 : decode cX14_gather 43 = .ok (.iaload, 1) := by decide +kernel
theorem dX14_gather_44 : decode cX14_gather 44 = .ok (.iload_n 1, 1) := by decide +kernel
theorem dX14_gather_45 : decode cX14_gather 45 = .ok (.if_icmp .ne 18, 3) := by decide +kernel
theorem dX14_gather_48 : decode cX14_gather 48 = .ok (.aload_n 0, 1) := by decide +kernel
theorem dX14_gather_49 : decode cX14_gather 49 = .ok (.getfield 54, 3) := by decide +kernel
theorem dX14_gather_52 : decode cX14_gather 52 = .ok (.iload_n 2, 1) := by decide +kernel
theorem dX14_gather_53 : decode cX14_gather 53 = .ok (.iaload, 1) := by decide +kernel
theorem dX14_gather_54 : decode cX14_gather 54 = .ok (.iconst (-1), 1) := by decide +kernel
theorem dX14_gather_55 : decode cX14_gather 55 = .ok (.if_icmp .ne 8, 3) := by decide +kernel
theorem dX14_gather_58 : decode cX14_gather 58 = .ok (.aload_n 0, 1) := by decide +kernel
theorem dX14_gather_59 : decode cX14_gather 59 = .ok (.iload_n 2, 1) := by decide +kernel
theorem dX14_gather_60 : decode cX14_gather 60 = .ok (.invokevirtual 294, 3) := by decide +kernel
theorem dX14_gather_63 : decode cX14_gather 63 = .ok (.iinc 2 1, 3) := by decide +kernel
theorem dX14_gather_66 : decode cX14_gather 66 = .ok (.goto (-36), 3) := by decide +kernel
theorem dX14_gather_69 : decode cX14_gather 69 = .ok (.return_, 1) := by decide +kernel
theorem dX14_spread_0 : decode cX14_spread 0 = .ok (.aload_n 0, 1) := by decide +kernel
theorem dX14_spread_1 : decode cX14_spread 1 = .ok (.getfield 54, 3) := by decide +kernel
theorem dX14_spread_4 : decode cX14_spread 4 = .ok (.iload_n 1, 1) := by decide +kernel
theorem dX14_spread_5 : decode cX14_spread 5 = .ok (.aload_n 0, 1) := by decide +kernel
theorem dX14_spread_6 : decode cX14_spread 6 = .ok (.getfield 291, 3) := by decide +kernel
theorem dX14_spread_9 : decode cX14_spread 9 = .ok (.iastore, 1) := by decide +kernel
theorem dX14_spread_10 : decode cX14_spread 10 = .ok (.aload_n 0, 1) := by decide +kernel
theorem dX14_spread_11 : decode cX14_spread 11 = .ok (.getfield 60, 3) := by decide +kernel
theorem dX14_spread_14 : decode cX14_spread 14 = .ok (.iconst 0, 1) := by decide +kernel
theorem dX14_spread_15 : decode cX14_spread 15 = .ok (.iload_n 1, 1) := by decide +kernel
theorem dX14_spread_16 : decode cX14_spread 16 = .ok (.iastore, 1) := by decide +kernel
theorem dX14_spread_17 : decode cX14_spread 17 = .ok (.iconst 1, 1) := by decide +kernel
theorem dX14_spread_18 : decode cX14_spread 18 = .ok (.istore_n 2, 1) := by decide +kernel
theorem dX14_spread_19 : decode cX14_spread 19 = .ok (.iconst 0, 1) := by decide +kernel
theorem dX14_spread_20 : decode cX14_spread 20 = .ok (.istore_n 3, 1) := by decide +kernel
theorem dX14_spread_21 : decode cX14_spread 21 = .ok (.iload_n 3, 1) := by decide +kernel
theorem dX14_spread_22 : decode cX14_spread 22 = .ok (.iload_n 2, 1) := by decide +kernel
theorem dX14_spread_23 : decode cX14_spread 23 = .ok (.if_icmp .ge 97, 3) := by decide +kernel
theorem dX14_spread_26 : decode cX14_spread 26 = .ok (.iconst 0, 1) := by decide +kernel
theorem dX14_spread_27 : decode cX14_spread 27 = .ok (.istore 4, 2) := by decide +kernel
theorem dX14_spread_29 : decode cX14_spread 29 = .ok (.iload 4, 2) := by decide +kernel
theorem dX14_spread_31 : decode cX14_spread 31 = .ok (.bipush 6, 2) := by decide +kernel
theorem dX14_spread_33 : decode cX14_spread 33 = .ok (.if_icmp .ge 81, 3) := by decide +kernel
theorem dX14_spread_36 : decode cX14_spread 36 = .ok (.aload_n 0, 1) := by decide +kernel
theorem dX14_spread_37 : decode cX14_spread 37 = .ok (.aload_n 0, 1) := by decide +kernel
theorem dX14_spread_38 : decode cX14_spread 38 = .ok (.getfield 60, 3) := by decide +kernel
theorem dX14_spread_41 : decode cX14_spread 41 = .ok (.iload_n 3, 1) := by decide +kernel
theorem dX14_spread_42 : decode cX14_spread 42 = .ok (.iaload, 1) := by decide +kernel
theorem dX14_spread_43 : decode cX14_spread 43 = .ok (.iload 4, 2) := by decide +kernel
theorem dX14_spread_45 : decode cX14_spread 45 = .ok (.invokevirtual 297, 3) := by decide +kernel
theorem dX14_spread_48 : decode cX14_spread 48 = .ok (.istore 5, 2) := by decide +kernel
theorem dX14_spread_50 : decode cX14_spread 50 = .ok (.iload 5, 2) := by decide +kernel
theorem dX14_spread_52 : decode cX14_spread 52 = .ok (.iconst (-1), 1) := by decide +kernel
theorem dX14_spread_53 : decode cX14_spread 53 = .ok (.if_icmp .eq 55, 3) := by decide +kernel
theorem dX14_spread_56 : decode cX14_spread 56 = .ok (.aload_n 0, 1) := by decide +kernel
theorem dX14_spread_57 : decode cX14_spread 57 = .ok (.getfield 54, 3) := by decide +kernel
theorem dX14_spread_60 : decode cX14_spread 60 = .ok (.iload 5, 2) := by decide +kernel
theorem dX14_spread_62 : decode cX14_spread 62 = .ok (.iaload, 1) := by decide +kernel
theorem dX14_spread_63 : decode cX14_spread 63 = .ok (.iconst (-1), 1) := by decide +kernel
theorem dX14_spread_64 : decode cX14_spread 64 = .ok (.if_icmp .ne 44, 3) := by decide +kernel
theorem dX14_spread_67 : decode cX14_spread 67 = .ok (.aload_n 0, 1) := by decide +kernel
theorem dX14_spread_68 : decode cX14_spread 68 = .ok (.getfield 39, 3) := by decide +kernel
theorem dX14_spread_71 : decode cX14_spread 71 = .ok (.iload 5, 2) := by decide +kernel
theorem dX14_spread_73 : decode cX14_spread 73 = .ok (.iaload, 1) := by decide +kernel
theorem dX14_spread_74 : decode cX14_spread 74 = .ok (.aload_n 0, 1) := by decide +kernel
theorem dX14_spread_75 : decode cX14_spread 75 = .ok (.getfield 39, 3) := by decide +kernel
theorem dX14_spread_78 : decode cX14_spread 78 = .ok (.iload_n 1, 1) := by decide +kernel
theorem dX14_spread_79 : decode cX14_spread 79 = .ok (.iaload, 1) := by decide +kernel
theorem dX14_spread_80 : decode cX14_spread 80 = .ok (.if_icmp .eq 6, 3) := by decide +kernel
theorem dX14_spread_83 : decode cX14_spread 83 = .ok (.goto 25, 3) := by decide +kernel
theorem dX14_spread_86 : decode cX14_spread 86 = .ok (.aload_n 0, 1) := by decide +kernel
theorem dX14_spread_87 : decode cX14_spread 87 = .ok (.getfield 54, 3) := by decide +kernel
theorem dX14_spread_90 : decode cX14_spread 90 = .ok (.iload 5, 2) := by decide +kernel
theorem dX14_spread_92 : decode cX14_spread 92 = .ok (.aload_n 0, 1) := by decide +kernel
theorem dX14_spread_93 : decode cX14_spread 93 = .ok (.getfield 291, 3) := by decide +kernel
theorem dX14_spread_96 : decode cX14_spread 96 = .ok (.iastore, 1) := by decide +kernel
theorem dX14_spread_97 : decode cX14_spread 97 = .ok (.aload_n 0, 1) := by decide +kernel
theorem dX14_spread_98 : decode cX14_spread 98 = .ok (.getfield 60, 3) := by decide +kernel
theorem dX14_spread_101 : decode cX14_spread 101 = .ok (.iload_n 2, 1) := by decide +kernel
theorem dX14_spread_102 : decode cX14_spread 102 = .ok (.iload 5, 2) := by decide +kernel
theorem dX14_spread_104 : decode cX14_spread 104 = .ok (.iastore, 1) := by decide +kernel
theorem dX14_spread_105 : decode cX14_spread 105 = .ok (.iinc 2 1, 3) := by decide +kernel
theorem dX14_spread_108 : decode cX14_spread 108 = .ok (.iinc 4 1, 3) := by decide +kernel
theorem dX14_spread_111 : decode cX14_spread 111 = .ok (.goto (-82), 3) := by decide +kernel
theorem dX14_spread_114 : decode cX14_spread 114 = .ok (.iinc 3 1, 3) := by decide +kernel
theorem dX14_spread_117 : decode cX14_spread 117 = .ok (.goto (-96), 3) := by decide +kernel
theorem dX14_spread_120 : decode cX14_spread 120 = .ok (.aload_n 0, 1) := by decide +kernel
theorem dX14_spread_121 : decode cX14_spread 121 = .ok (.getfield 57, 3) := by decide +kernel
theorem dX14_spread_124 : decode cX14_spread 124 = .ok (.aload_n 0, 1) := by decide +kernel
theorem dX14_spread_125 : decode cX14_spread 125 = .ok (.getfield 291, 3) := by decide +kernel
theorem dX14_spread_128 : decode cX14_spread 128 = .ok (.iload_n 2, 1) := by decide +kernel
theorem dX14_spread_129 : decode cX14_spread 129 = .ok (.iastore, 1) := by decide +kernel
theorem dX14_spread_130 : decode cX14_spread 130 = .ok (.aload_n 0, 1) := by decide +kernel
theorem dX14_spread_131 : decode cX14_spread 131 = .ok (.dup, 1) := by decide +kernel
theorem dX14_spread_132 : decode cX14_spread 132 = .ok (.getfield 291, 3) := by decide +kernel
theorem dX14_spread_135 : decode cX14_spread 135 = .ok (.iconst 1, 1) := by decide +kernel
theorem dX14_spread_136 : decode cX14_spread 136 = .ok (.iadd, 1) := by decide +kernel
theorem dX14_spread_137 : decode cX14_spread 137 = .ok (.putfield 291, 3) := by decide +kernel
theorem dX14_spread_140 : decode cX14_spread 140 = .ok (.return_, 1) := by decide +kernel
theorem dX14_hasShore_0 : decode cX14_hasShore 0 = .ok (.iconst 0, 1) := by decide +kernel
theorem dX14_hasShore_1 : decode cX14_hasShore 1 = .ok (.istore 4, 2) := by decide +kernel
theorem dX14_hasShore_3 : decode cX14_hasShore 3 = .ok (.iload 4, 2) := by decide +kernel
theorem dX14_hasShore_5 : decode cX14_hasShore 5 = .ok (.aload_n 0, 1) := by decide +kernel
theorem dX14_hasShore_6 : decode cX14_hasShore 6 = .ok (.invokevirtual 275, 3) := by decide +kernel
theorem dX14_hasShore_9 : decode cX14_hasShore 9 = .ok (.if_icmp .ge 33, 3) := by decide +kernel
theorem dX14_hasShore_12 : decode cX14_hasShore 12 = .ok (.aload_n 0, 1) := by decide +kernel
theorem dX14_hasShore_13 : decode cX14_hasShore 13 = .ok (.getfield 54, 3) := by decide +kernel
theorem dX14_hasShore_16 : decode cX14_hasShore 16 = .ok (.iload 4, 2) := by decide +kernel
theorem dX14_hasShore_18 : decode cX14_hasShore 18 = .ok (.iaload, 1) := by decide +kernel
theorem dX14_hasShore_19 : decode cX14_hasShore 19 = .ok (.iload_n 1, 1) := by decide +kernel
theorem dX14_hasShore_20 : decode cX14_hasShore 20 = .ok (.if_icmp .ne 16, 3) := by decide +kernel
theorem dX14_hasShore_23 : decode cX14_hasShore 23 = .ok (.aload_n 0, 1) := by decide +kernel
theorem dX14_hasShore_24 : decode cX14_hasShore 24 = .ok (.iload 4, 2) := by decide +kernel
theorem dX14_hasShore_26 : decode cX14_hasShore 26 = .ok (.iload_n 2, 1) := by decide +kernel
theorem dX14_hasShore_27 : decode cX14_hasShore 27 = .ok (.iload_n 3, 1) := by decide +kernel
theorem dX14_hasShore_28 : decode cX14_hasShore 28 = .ok (.invokevirtual 300, 3) := by decide +kernel
theorem dX14_hasShore_31 : decode cX14_hasShore 31 = .ok (.ifCond .eq 5, 3) := by decide +kernel
theorem dX14_hasShore_34 : decode cX14_hasShore 34 = .ok (.iconst 1, 1) := by decide +kernel
theorem dX14_hasShore_35 : decode cX14_hasShore 35 = .ok (.ireturn, 1) := by decide +kernel
theorem dX14_hasShore_36 : decode cX14_hasShore 36 = .ok (.iinc 4 1, 3) := by decide +kernel
theorem dX14_hasShore_39 : decode cX14_hasShore 39 = .ok (.goto (-36), 3) := by decide +kernel
theorem dX14_hasShore_42 : decode cX14_hasShore 42 = .ok (.iconst 0, 1) := by decide +kernel
theorem dX14_hasShore_43 : decode cX14_hasShore 43 = .ok (.ireturn, 1) := by decide +kernel
theorem dX14_won_0 : decode cX14_won 0 = .ok (.iconst 0, 1) := by decide +kernel
theorem dX14_won_1 : decode cX14_won 1 = .ok (.istore_n 2, 1) := by decide +kernel
theorem dX14_won_2 : decode cX14_won 2 = .ok (.iconst 0, 1) := by decide +kernel
theorem dX14_won_3 : decode cX14_won 3 = .ok (.istore_n 3, 1) := by decide +kernel
theorem dX14_won_4 : decode cX14_won 4 = .ok (.iload_n 3, 1) := by decide +kernel
theorem dX14_won_5 : decode cX14_won 5 = .ok (.aload_n 0, 1) := by decide +kernel
theorem dX14_won_6 : decode cX14_won 6 = .ok (.invokevirtual 275, 3) := by decide +kernel
theorem dX14_won_9 : decode cX14_won 9 = .ok (.if_icmp .ge 62, 3) := by decide +kernel
theorem dX14_won_12 : decode cX14_won 12 = .ok (.aload_n 0, 1) := by decide +kernel
theorem dX14_won_13 : decode cX14_won 13 = .ok (.getfield 63, 3) := by decide +kernel
theorem dX14_won_16 : decode cX14_won 16 = .ok (.iload_n 3, 1) := by decide +kernel
theorem dX14_won_17 : decode cX14_won 17 = .ok (.aload_n 0, 1) := by decide +kernel
theorem dX14_won_18 : decode cX14_won 18 = .ok (.getfield 39, 3) := by decide +kernel
theorem dX14_won_21 : decode cX14_won 21 = .ok (.iload_n 3, 1) := by decide +kernel
theorem dX14_won_22 : decode cX14_won 22 = .ok (.iaload, 1) := by decide +kernel
theorem dX14_won_23 : decode cX14_won 23 = .ok (.iload_n 1, 1) := by decide +kernel
theorem dX14_won_24 : decode cX14_won 24 = .ok (.if_icmp .ne 17, 3) := by decide +kernel
theorem dX14_won_27 : decode cX14_won 27 = .ok (.aload_n 0, 1) := by decide +kernel
theorem dX14_won_28 : decode cX14_won 28 = .ok (.iload_n 3, 1) := by decide +kernel
theorem dX14_won_29 : decode cX14_won 29 = .ok (.iload_n 1, 1) := by decide +kernel
theorem dX14_won_30 : decode cX14_won 30 = .ok (.iconst 0, 1) := by decide +kernel
theorem dX14_won_31 : decode cX14_won 31 = .ok (.invokevirtual 300, 3) := by decide +kernel
theorem dX14_won_34 : decode cX14_won 34 = .ok (.ifCond .eq 7, 3) := by decide +kernel
theorem dX14_won_37 : decode cX14_won 37 = .ok (.iconst 1, 1) := by decide +kernel
theorem dX14_won_38 : decode cX14_won 38 = .ok (.goto 4, 3) := by decide +kernel
theorem dX14_won_41 : decode cX14_won 41 = .ok (.iconst 0, 1) := by decide +kernel
theorem dX14_won_42 : decode cX14_won 42 = .ok (.bastore, 1) := by decide +kernel
theorem dX14_won_43 : decode cX14_won 43 = .ok (.aload_n 0, 1) := by decide +kernel
theorem dX14_won_44 : decode cX14_won 44 = .ok (.getfield 63, 3) := by decide +kernel
theorem dX14_won_47 : decode cX14_won 47 = .ok (.iload_n 3, 1) := by decide +kernel
theorem dX14_won_48 : decode cX14_won 48 = .ok (.baload, 1) := by decide +kernel
theorem dX14_won_49 : decode cX14_won 49 = .ok (.ifCond .ne 6, 3) := by decide +kernel
theorem dX14_won_52 : decode cX14_won 52 = .ok (.goto 13, 3) := by decide +kernel
theorem dX14_won_55 : decode cX14_won 55 = .ok (.aload_n 0, 1) := by decide +kernel
theorem dX14_won_56 : decode cX14_won 56 = .ok (.getfield 60, 3) := by decide +kernel
theorem dX14_won_59 : decode cX14_won 59 = .ok (.iload_n 2, 1) := by decide +kernel
theorem dX14_won_60 : decode cX14_won 60 = .ok (.iload_n 3, 1) := by decide +kernel
theorem dX14_won_61 : decode cX14_won 61 = .ok (.iastore, 1) := by decide +kernel
theorem dX14_won_62 : decode cX14_won 62 = .ok (.iinc 2 1, 3) := by decide +kernel
theorem dX14_won_65 : decode cX14_won 65 = .ok (.iinc 3 1, 3) := by decide +kernel
theorem dX14_won_68 : decode cX14_won 68 = .ok (.goto (-64), 3) := by decide +kernel
theorem dX14_won_71 : decode cX14_won 71 = .ok (.iconst 0, 1) := by decide +kernel
theorem dX14_won_72 : decode cX14_won 72 = .ok (.istore_n 3, 1) := by decide +kernel
theorem dX14_won_73 : decode cX14_won 73 = .ok (.iload_n 3, 1) := by decide +kernel
theorem dX14_won_74 : decode cX14_won 74 = .ok (.iload_n 2, 1) := by decide +kernel
theorem dX14_won_75 : decode cX14_won 75 = .ok (.if_icmp .ge 105, 3) := by decide +kernel
theorem dX14_won_78 : decode cX14_won 78 = .ok (.aload_n 0, 1) := by decide +kernel
theorem dX14_won_79 : decode cX14_won 79 = .ok (.aload_n 0, 1) := by decide +kernel
theorem dX14_won_80 : decode cX14_won 80 = .ok (.getfield 60, 3) := by decide +kernel
theorem dX14_won_83 : decode cX14_won 83 = .ok (.iload_n 3, 1) := by decide +kernel
theorem dX14_won_84 : decode cX14_won 84 = .ok (.iaload, 1) := by decide +kernel
theorem dX14_won_85 : decode cX14_won 85 = .ok (.iload_n 1, 1) := by decide +kernel
theorem dX14_won_86 : decode cX14_won 86 = .ok (.iconst 1, 1) := by decide +kernel
theorem dX14_won_87 : decode cX14_won 87 = .ok (.invokevirtual 300, 3) := by decide +kernel
theorem dX14_won_90 : decode cX14_won 90 = .ok (.ifCond .eq 5, 3) := by decide +kernel
theorem dX14_won_93 : decode cX14_won 93 = .ok (.iconst 1, 1) := by decide +kernel
theorem dX14_won_94 : decode cX14_won 94 = .ok (.ireturn, 1) := by decide +kernel
theorem dX14_won_95 : decode cX14_won 95 = .ok (.iconst 0, 1) := by decide +kernel
theorem dX14_won_96 : decode cX14_won 96 = .ok (.istore 4, 2) := by decide +kernel
theorem dX14_won_98 : decode cX14_won 98 = .ok (.iload 4, 2) := by decide +kernel
theorem dX14_won_100 : decode cX14_won 100 = .ok (.bipush 6, 2) := by decide +kernel
theorem dX14_won_102 : decode cX14_won 102 = .ok (.if_icmp .ge 72, 3) := by decide +kernel
theorem dX14_won_105 : decode cX14_won 105 = .ok (.aload_n 0, 1) := by decide +kernel
theorem dX14_won_106 : decode cX14_won 106 = .ok (.aload_n 0, 1) := by decide +kernel
theorem dX14_won_107 : decode cX14_won 107 = .ok (.getfield 60, 3) := by decide +kernel
theorem dX14_won_110 : decode cX14_won 110 = .ok (.iload_n 3, 1) := by decide +kernel
theorem dX14_won_111 : decode cX14_won 111 = .ok (.iaload, 1) := by decide +kernel
theorem dX14_won_112 : decode cX14_won 112 = .ok (.iload 4, 2) := by decide +kernel
theorem dX14_won_114 : decode cX14_won 114 = .ok (.invokevirtual 297, 3) := by decide +kernel
theorem dX14_won_117 : decode cX14_won 117 = .ok (.istore 5, 2) := by decide +kernel
theorem dX14_won_119 : decode cX14_won 119 = .ok (.iload 5, 2) := by decide +kernel
theorem dX14_won_121 : decode cX14_won 121 = .ok (.iconst (-1), 1) := by decide +kernel
theorem dX14_won_122 : decode cX14_won 122 = .ok (.if_icmp .eq 46, 3) := by decide +kernel
theorem dX14_won_125 : decode cX14_won 125 = .ok (.aload_n 0, 1) := by decide +kernel
theorem dX14_won_126 : decode cX14_won 126 = .ok (.getfield 63, 3) := by decide +kernel
theorem dX14_won_129 : decode cX14_won 129 = .ok (.iload 5, 2) := by decide +kernel
theorem dX14_won_131 : decode cX14_won 131 = .ok (.baload, 1) := by decide +kernel
theorem dX14_won_132 : decode cX14_won 132 = .ok (.ifCond .ne 36, 3) := by decide +kernel
theorem dX14_won_135 : decode cX14_won 135 = .ok (.aload_n 0, 1) := by decide +kernel
theorem dX14_won_136 : decode cX14_won 136 = .ok (.getfield 39, 3) := by decide +kernel
theorem dX14_won_139 : decode cX14_won 139 = .ok (.iload 5, 2) := by decide +kernel
theorem dX14_won_141 : decode cX14_won 141 = .ok (.iaload, 1) := by decide +kernel
theorem dX14_won_142 : decode cX14_won 142 = .ok (.iload_n 1, 1) := by decide +kernel
theorem dX14_won_143 : decode cX14_won 143 = .ok (.if_icmp .eq 6, 3) := by decide +kernel
theorem dX14_won_146 : decode cX14_won 146 = .ok (.goto 22, 3) := by decide +kernel
theorem dX14_won_149 : decode cX14_won 149 = .ok (.aload_n 0, 1) := by decide +kernel
theorem dX14_won_150 : decode cX14_won 150 = .ok (.getfield 63, 3) := by decide +kernel
theorem dX14_won_153 : decode cX14_won 153 = .ok (.iload 5, 2) := by decide +kernel
theorem dX14_won_155 : decode cX14_won 155 = .ok (.iconst 1, 1) := by decide +kernel
theorem dX14_won_156 : decode cX14_won 156 = .ok (.bastore, 1) := by decide +kernel
theorem dX14_won_157 : decode cX14_won 157 = .ok (.aload_n 0, 1) := by decide +kernel
theorem dX14_won_158 : decode cX14_won 158 = .ok (.getfield 60, 3) := by decide +kernel
theorem dX14_won_161 : decode cX14_won 161 = .ok (.iload_n 2, 1) := by decide +kernel
theorem dX14_won_162 : decode cX14_won 162 = .ok (.iload 5, 2) := by decide +kernel
theorem dX14_won_164 : decode cX14_won 164 = .ok (.iastore, 1) := by decide +kernel
theorem dX14_won_165 : decode cX14_won 165 = .ok (.iinc 2 1, 3) := by decide +kernel
theorem dX14_won_168 : decode cX14_won 168 = .ok (.iinc 4 1, 3) := by decide +kernel
theorem dX14_won_171 : decode cX14_won 171 = .ok (.goto (-73), 3) := by decide +kernel
theorem dX14_won_174 : decode cX14_won 174 = .ok (.iinc 3 1, 3) := by decide +kernel
theorem dX14_won_177 : decode cX14_won 177 = .ok (.goto (-104), 3) := by decide +kernel
theorem dX14_won_180 : decode cX14_won 180 = .ok (.iconst 0, 1) := by decide +kernel
theorem dX14_won_181 : decode cX14_won 181 = .ok (.ireturn, 1) := by decide +kernel
theorem dX14_over_0 : decode cX14_over 0 = .ok (.aload_n 0, 1) := by decide +kernel
theorem dX14_over_1 : decode cX14_over 1 = .ok (.iconst 0, 1) := by decide +kernel
theorem dX14_over_2 : decode cX14_over 2 = .ok (.invokevirtual 304, 3) := by decide +kernel
theorem dX14_over_5 : decode cX14_over 5 = .ok (.ifCond .ne 11, 3) := by decide +kernel
theorem dX14_over_8 : decode cX14_over 8 = .ok (.aload_n 0, 1) := by decide +kernel
theorem dX14_over_9 : decode cX14_over 9 = .ok (.iconst 1, 1) := by decide +kernel
theorem dX14_over_10 : decode cX14_over 10 = .ok (.invokevirtual 304, 3) := by decide +kernel
theorem dX14_over_13 : decode cX14_over 13 = .ok (.ifCond .eq 7, 3) := by decide +kernel
theorem dX14_over_16 : decode cX14_over 16 = .ok (.iconst 1, 1) := by decide +kernel
theorem dX14_over_17 : decode cX14_over 17 = .ok (.goto 4, 3) := by decide +kernel
theorem dX14_over_20 : decode cX14_over 20 = .ok (.iconst 0, 1) := by decide +kernel
theorem dX14_over_21 : decode cX14_over 21 = .ok (.ireturn, 1) := by decide +kernel
theorem dX14_inTurn_0 : decode cX14_inTurn 0 = .ok (.aload_n 0, 1) := by decide +kernel
theorem dX14_inTurn_1 : decode cX14_inTurn 1 = .ok (.iconst 0, 1) := by decide +kernel
theorem dX14_inTurn_2 : decode cX14_inTurn 2 = .ok (.invokevirtual 307, 3) := by decide +kernel
theorem dX14_inTurn_5 : decode cX14_inTurn 5 = .ok (.aload_n 0, 1) := by decide +kernel
theorem dX14_inTurn_6 : decode cX14_inTurn 6 = .ok (.iconst 1, 1) := by decide +kernel
theorem dX14_inTurn_7 : decode cX14_inTurn 7 = .ok (.invokevirtual 307, 3) := by decide +kernel
theorem dX14_inTurn_10 : decode cX14_inTurn 10 = .ok (.if_icmp .gt 7, 3) := by decide +kernel
theorem dX14_inTurn_13 : decode cX14_inTurn 13 = .ok (.iconst 0, 1) := by decide +kernel
theorem dX14_inTurn_14 : decode cX14_inTurn 14 = .ok (.goto 4, 3) := by decide +kernel
theorem dX14_inTurn_17 : decode cX14_inTurn 17 = .ok (.iconst 1, 1) := by decide +kernel
theorem dX14_inTurn_18 : decode cX14_inTurn 18 = .ok (.ireturn, 1) := by decide +kernel
theorem dX14_between_0 : decode cX14_between 0 = .ok (.iconst 0, 1) := by decide +kernel
theorem dX14_between_1 : decode cX14_between 1 = .ok (.istore 4, 2) := by decide +kernel
theorem dX14_between_3 : decode cX14_between 3 = .ok (.iload 4, 2) := by decide +kernel
theorem dX14_between_5 : decode cX14_between 5 = .ok (.bipush 6, 2) := by decide +kernel
theorem dX14_between_7 : decode cX14_between 7 = .ok (.if_icmp .ge 139, 3) := by decide +kernel
theorem dX14_between_10 : decode cX14_between 10 = .ok (.aload_n 0, 1) := by decide +kernel
theorem dX14_between_11 : decode cX14_between 11 = .ok (.iload_n 1, 1) := by decide +kernel
theorem dX14_between_12 : decode cX14_between 12 = .ok (.iload 4, 2) := by decide +kernel
theorem dX14_between_14 : decode cX14_between 14 = .ok (.invokevirtual 297, 3) := by decide +kernel
theorem dX14_between_17 : decode cX14_between 17 = .ok (.istore 5, 2) := by decide +kernel
theorem dX14_between_19 : decode cX14_between 19 = .ok (.aload_n 0, 1) := by decide +kernel
theorem dX14_between_20 : decode cX14_between 20 = .ok (.iload_n 1, 1) := by decide +kernel
theorem dX14_between_21 : decode cX14_between 21 = .ok (.iload 4, 2) := by decide +kernel
theorem dX14_between_23 : decode cX14_between 23 = .ok (.iconst 1, 1) := by decide +kernel
theorem dX14_between_24 : decode cX14_between 24 = .ok (.iadd, 1) := by decide +kernel
theorem dX14_between_25 : decode cX14_between 25 = .ok (.bipush 6, 2) := by decide +kernel
theorem dX14_between_27 : decode cX14_between 27 = .ok (.irem, 1) := by decide +kernel
theorem dX14_between_28 : decode cX14_between 28 = .ok (.invokevirtual 297, 3) := by decide +kernel
theorem dX14_between_31 : decode cX14_between 31 = .ok (.istore 6, 2) := by decide +kernel
theorem dX14_between_33 : decode cX14_between 33 = .ok (.iload_n 1, 1) := by decide +kernel
theorem dX14_between_34 : decode cX14_between 34 = .ok (.aload_n 0, 1) := by decide +kernel
theorem dX14_between_35 : decode cX14_between 35 = .ok (.getfield 29, 3) := by decide +kernel
theorem dX14_between_38 : decode cX14_between 38 = .ok (.getfield 208, 3) := by decide +kernel
theorem dX14_between_41 : decode cX14_between 41 = .ok (.irem, 1) := by decide +kernel
theorem dX14_between_42 : decode cX14_between 42 = .ok (.getstatic 278, 3) := by decide +kernel
theorem dX14_between_45 : decode cX14_between 45 = .ok (.iload 4, 2) := by decide +kernel
theorem dX14_between_47 : decode cX14_between 47 = .ok (.iaload, 1) := by decide +kernel
theorem dX14_between_48 : decode cX14_between 48 = .ok (.iadd, 1) := by decide +kernel
theorem dX14_between_49 : decode cX14_between 49 = .ok (.getstatic 278, 3) := by decide +kernel
theorem dX14_between_52 : decode cX14_between 52 = .ok (.iload 4, 2) := by decide +kernel
theorem dX14_between_54 : decode cX14_between 54 = .ok (.iconst 1, 1) := by decide +kernel
theorem dX14_between_55 : decode cX14_between 55 = .ok (.iadd, 1) := by decide +kernel
theorem dX14_between_56 : decode cX14_between 56 = .ok (.bipush 6, 2) := by decide +kernel
theorem dX14_between_58 : decode cX14_between 58 = .ok (.irem, 1) := by decide +kernel
theorem dX14_between_59 : decode cX14_between 59 = .ok (.iaload, 1) := by decide +kernel
theorem dX14_between_60 : decode cX14_between 60 = .ok (.iadd, 1) := by decide +kernel
theorem dX14_between_61 : decode cX14_between 61 = .ok (.istore 7, 2) := by decide +kernel
theorem dX14_between_63 : decode cX14_between 63 = .ok (.iload_n 1, 1) := by decide +kernel
theorem dX14_between_64 : decode cX14_between 64 = .ok (.aload_n 0, 1) := by decide +kernel
theorem dX14_between_65 : decode cX14_between 65 = .ok (.getfield 29, 3) := by decide +kernel
theorem dX14_between_68 : decode cX14_between 68 = .ok (.getfield 208, 3) := by decide +kernel
theorem dX14_between_71 : decode cX14_between 71 = .ok (.idiv, 1) := by decide +kernel
theorem dX14_between_72 : decode cX14_between 72 = .ok (.getstatic 281, 3) := by decide +kernel
theorem dX14_between_75 : decode cX14_between 75 = .ok (.iload 4, 2) := by decide +kernel
theorem dX14_between_77 : decode cX14_between 77 = .ok (.iaload, 1) := by decide +kernel
theorem dX14_between_78 : decode cX14_between 78 = .ok (.iadd, 1) := by decide +kernel
theorem dX14_between_79 : decode cX14_between 79 = .ok (.getstatic 281, 3) := by decide +kernel
theorem dX14_between_82 : decode cX14_between 82 = .ok (.iload 4, 2) := by decide +kernel
theorem dX14_between_84 : decode cX14_between 84 = .ok (.iconst 1, 1) := by decide +kernel
theorem dX14_between_85 : decode cX14_between 85 = .ok (.iadd, 1) := by decide +kernel
theorem dX14_between_86 : decode cX14_between 86 = .ok (.bipush 6, 2) := by decide +kernel
theorem dX14_between_88 : decode cX14_between 88 = .ok (.irem, 1) := by decide +kernel
theorem dX14_between_89 : decode cX14_between 89 = .ok (.iaload, 1) := by decide +kernel
theorem dX14_between_90 : decode cX14_between 90 = .ok (.iadd, 1) := by decide +kernel
theorem dX14_between_91 : decode cX14_between 91 = .ok (.istore 8, 2) := by decide +kernel
theorem dX14_between_93 : decode cX14_between 93 = .ok (.iload 5, 2) := by decide +kernel
theorem dX14_between_95 : decode cX14_between 95 = .ok (.iconst (-1), 1) := by decide +kernel
theorem dX14_between_96 : decode cX14_between 96 = .ok (.if_icmp .eq 44, 3) := by decide +kernel
theorem dX14_between_99 : decode cX14_between 99 = .ok (.iload 6, 2) := by decide +kernel
theorem dX14_between_101 : decode cX14_between 101 = .ok (.iconst (-1), 1) := by decide +kernel
theorem dX14_between_102 : decode cX14_between 102 = .ok (.if_icmp .eq 38, 3) := by decide +kernel
theorem dX14_between_105 : decode cX14_between 105 = .ok (.aload_n 0, 1) := by decide +kernel
theorem dX14_between_106 : decode cX14_between 106 = .ok (.iload 7, 2) := by decide +kernel
theorem dX14_between_108 : decode cX14_between 108 = .ok (.iload 8, 2) := by decide +kernel
theorem dX14_between_110 : decode cX14_between 110 = .ok (.invokevirtual 284, 3) := by decide +kernel
theorem dX14_between_113 : decode cX14_between 113 = .ok (.ifCond .eq 27, 3) := by decide +kernel
theorem dX14_between_116 : decode cX14_between 116 = .ok (.aload_n 0, 1) := by decide +kernel
theorem dX14_between_117 : decode cX14_between 117 = .ok (.iload 7, 2) := by decide +kernel
theorem dX14_between_119 : decode cX14_between 119 = .ok (.iload 8, 2) := by decide +kernel
theorem dX14_between_121 : decode cX14_between 121 = .ok (.invokevirtual 288, 3) := by decide +kernel
theorem dX14_between_124 : decode cX14_between 124 = .ok (.iload_n 2, 1) := by decide +kernel
theorem dX14_between_125 : decode cX14_between 125 = .ok (.if_icmp .ne 15, 3) := by decide +kernel
theorem dX14_between_128 : decode cX14_between 128 = .ok (.iload_n 3, 1) := by decide +kernel
theorem dX14_between_129 : decode cX14_between 129 = .ok (.ifCond .eq 8, 3) := by decide +kernel
theorem dX14_between_132 : decode cX14_between 132 = .ok (.iload 6, 2) := by decide +kernel
theorem dX14_between_134 : decode cX14_between 134 = .ok (.goto 5, 3) := by decide +kernel
theorem dX14_between_137 : decode cX14_between 137 = .ok (.iload 5, 2) := by decide +kernel
theorem dX14_between_139 : decode cX14_between 139 = .ok (.ireturn, 1) := by decide +kernel
theorem dX14_between_140 : decode cX14_between 140 = .ok (.iinc 4 1, 3) := by decide +kernel
theorem dX14_between_143 : decode cX14_between 143 = .ok (.goto (-140), 3) := by decide +kernel
theorem dX14_between_146 : decode cX14_between 146 = .ok (.iconst (-1), 1) := by decide +kernel
theorem dX14_between_147 : decode cX14_between 147 = .ok (.ireturn, 1) := by decide +kernel
theorem dX14_bridge_0 : decode cX14_bridge 0 = .ok (.aload_n 0, 1) := by decide +kernel
theorem dX14_bridge_1 : decode cX14_bridge 1 = .ok (.getfield 39, 3) := by decide +kernel
theorem dX14_bridge_4 : decode cX14_bridge 4 = .ok (.iload_n 1, 1) := by decide +kernel
theorem dX14_bridge_5 : decode cX14_bridge 5 = .ok (.iaload, 1) := by decide +kernel
theorem dX14_bridge_6 : decode cX14_bridge 6 = .ok (.iload_n 3, 1) := by decide +kernel
theorem dX14_bridge_7 : decode cX14_bridge 7 = .ok (.if_icmp .ne 13, 3) := by decide +kernel
theorem dX14_bridge_10 : decode cX14_bridge 10 = .ok (.aload_n 0, 1) := by decide +kernel
theorem dX14_bridge_11 : decode cX14_bridge 11 = .ok (.getfield 39, 3) := by decide +kernel
theorem dX14_bridge_14 : decode cX14_bridge 14 = .ok (.iload_n 2, 1) := by decide +kernel
theorem dX14_bridge_15 : decode cX14_bridge 15 = .ok (.iaload, 1) := by decide +kernel
theorem dX14_bridge_16 : decode cX14_bridge 16 = .ok (.iload_n 3, 1) := by decide +kernel
theorem dX14_bridge_17 : decode cX14_bridge 17 = .ok (.if_icmp .eq 5, 3) := by decide +kernel
theorem dX14_bridge_20 : decode cX14_bridge 20 = .ok (.iconst 0, 1) := by decide +kernel
theorem dX14_bridge_21 : decode cX14_bridge 21 = .ok (.ireturn, 1) := by decide +kernel
theorem dX14_bridge_22 : decode cX14_bridge 22 = .ok (.aload_n 0, 1) := by decide +kernel
theorem dX14_bridge_23 : decode cX14_bridge 23 = .ok (.iload_n 1, 1) := by decide +kernel
theorem dX14_bridge_24 : decode cX14_bridge 24 = .ok (.iload_n 2, 1) := by decide +kernel
theorem dX14_bridge_25 : decode cX14_bridge 25 = .ok (.iconst 0, 1) := by decide +kernel
theorem dX14_bridge_26 : decode cX14_bridge 26 = .ok (.invokevirtual 310, 3) := by decide +kernel
theorem dX14_bridge_29 : decode cX14_bridge 29 = .ok (.istore 4, 2) := by decide +kernel
theorem dX14_bridge_31 : decode cX14_bridge 31 = .ok (.iload 4, 2) := by decide +kernel
theorem dX14_bridge_33 : decode cX14_bridge 33 = .ok (.iconst (-1), 1) := by decide +kernel
theorem dX14_bridge_34 : decode cX14_bridge 34 = .ok (.if_icmp .ne 5, 3) := by decide +kernel
theorem dX14_bridge_37 : decode cX14_bridge 37 = .ok (.iconst 0, 1) := by decide +kernel
theorem dX14_bridge_38 : decode cX14_bridge 38 = .ok (.ireturn, 1) := by decide +kernel
theorem dX14_bridge_39 : decode cX14_bridge 39 = .ok (.aload_n 0, 1) := by decide +kernel
theorem dX14_bridge_40 : decode cX14_bridge 40 = .ok (.iload_n 1, 1) := by decide +kernel
theorem dX14_bridge_41 : decode cX14_bridge 41 = .ok (.iload_n 2, 1) := by decide +kernel
theorem dX14_bridge_42 : decode cX14_bridge 42 = .ok (.iconst 1, 1) := by decide +kernel
theorem dX14_bridge_43 : decode cX14_bridge 43 = .ok (.invokevirtual 310, 3) := by decide +kernel
theorem dX14_bridge_46 : decode cX14_bridge 46 = .ok (.istore 5, 2) := by decide +kernel
theorem dX14_bridge_48 : decode cX14_bridge 48 = .ok (.aload_n 0, 1) := by decide +kernel
theorem dX14_bridge_49 : decode cX14_bridge 49 = .ok (.getfield 39, 3) := by decide +kernel
theorem dX14_bridge_52 : decode cX14_bridge 52 = .ok (.iload 4, 2) := by decide +kernel
theorem dX14_bridge_54 : decode cX14_bridge 54 = .ok (.iaload, 1) := by decide +kernel
theorem dX14_bridge_55 : decode cX14_bridge 55 = .ok (.iconst (-1), 1) := by decide +kernel
theorem dX14_bridge_56 : decode cX14_bridge 56 = .ok (.if_icmp .ne 16, 3) := by decide +kernel
theorem dX14_bridge_59 : decode cX14_bridge 59 = .ok (.aload_n 0, 1) := by decide +kernel
theorem dX14_bridge_60 : decode cX14_bridge 60 = .ok (.getfield 39, 3) := by decide +kernel
theorem dX14_bridge_63 : decode cX14_bridge 63 = .ok (.iload 5, 2) := by decide +kernel
theorem dX14_bridge_65 : decode cX14_bridge 65 = .ok (.iaload, 1) := by decide +kernel
theorem dX14_bridge_66 : decode cX14_bridge 66 = .ok (.iconst (-1), 1) := by decide +kernel
theorem dX14_bridge_67 : decode cX14_bridge 67 = .ok (.if_icmp .ne 5, 3) := by decide +kernel
theorem dX14_bridge_70 : decode cX14_bridge 70 = .ok (.iconst 1, 1) := by decide +kernel
theorem dX14_bridge_71 : decode cX14_bridge 71 = .ok (.ireturn, 1) := by decide +kernel
theorem dX14_bridge_72 : decode cX14_bridge 72 = .ok (.aload_n 0, 1) := by decide +kernel
theorem dX14_bridge_73 : decode cX14_bridge 73 = .ok (.getfield 39, 3) := by decide +kernel
theorem dX14_bridge_76 : decode cX14_bridge 76 = .ok (.iload 4, 2) := by decide +kernel
theorem dX14_bridge_78 : decode cX14_bridge 78 = .ok (.iaload, 1) := by decide +kernel
theorem dX14_bridge_79 : decode cX14_bridge 79 = .ok (.iconst (-1), 1) := by decide +kernel
theorem dX14_bridge_80 : decode cX14_bridge 80 = .ok (.if_icmp .ne 16, 3) := by decide +kernel
theorem dX14_bridge_83 : decode cX14_bridge 83 = .ok (.aload_n 0, 1) := by decide +kernel
theorem dX14_bridge_84 : decode cX14_bridge 84 = .ok (.getfield 39, 3) := by decide +kernel
theorem dX14_bridge_87 : decode cX14_bridge 87 = .ok (.iload 5, 2) := by decide +kernel
theorem dX14_bridge_89 : decode cX14_bridge 89 = .ok (.iaload, 1) := by decide +kernel
theorem dX14_bridge_90 : decode cX14_bridge 90 = .ok (.iconst 1, 1) := by decide +kernel
theorem dX14_bridge_91 : decode cX14_bridge 91 = .ok (.iload_n 3, 1) := by decide +kernel
theorem dX14_bridge_92 : decode cX14_bridge 92 = .ok (.isub, 1) := by decide +kernel
theorem dX14_bridge_93 : decode cX14_bridge 93 = .ok (.if_icmp .eq 27, 3) := by decide +kernel
theorem dX14_bridge_96 : decode cX14_bridge 96 = .ok (.aload_n 0, 1) := by decide +kernel
theorem dX14_bridge_97 : decode cX14_bridge 97 = .ok (.getfield 39, 3) := by decide +kernel
theorem dX14_bridge_100 : decode cX14_bridge 100 = .ok (.iload 5, 2) := by decide +kernel
theorem dX14_bridge_102 : decode cX14_bridge 102 = .ok (.iaload, 1) := by decide +kernel
theorem dX14_bridge_103 : decode cX14_bridge 103 = .ok (.iconst (-1), 1) := by decide +kernel
theorem dX14_bridge_104 : decode cX14_bridge 104 = .ok (.if_icmp .ne 20, 3) := by decide +kernel
theorem dX14_bridge_107 : decode cX14_bridge 107 = .ok (.aload_n 0, 1) := by decide +kernel
theorem dX14_bridge_108 : decode cX14_bridge 108 = .ok (.getfield 39, 3) := by decide +kernel
theorem dX14_bridge_111 : decode cX14_bridge 111 = .ok (.iload 4, 2) := by decide +kernel
theorem dX14_bridge_113 : decode cX14_bridge 113 = .ok (.iaload, 1) := by decide +kernel
theorem dX14_bridge_114 : decode cX14_bridge 114 = .ok (.iconst 1, 1) := by decide +kernel
theorem dX14_bridge_115 : decode cX14_bridge 115 = .ok (.iload_n 3, 1) := by decide +kernel
theorem dX14_bridge_116 : decode cX14_bridge 116 = .ok (.isub, 1) := by decide +kernel
theorem dX14_bridge_117 : decode cX14_bridge 117 = .ok (.if_icmp .ne 7, 3) := by decide +kernel
theorem dX14_bridge_120 : decode cX14_bridge 120 = .ok (.iconst 2, 1) := by decide +kernel
theorem dX14_bridge_121 : decode cX14_bridge 121 = .ok (.goto 4, 3) := by decide +kernel
theorem dX14_bridge_124 : decode cX14_bridge 124 = .ok (.iconst 0, 1) := by decide +kernel
theorem dX14_bridge_125 : decode cX14_bridge 125 = .ok (.ireturn, 1) := by decide +kernel
theorem dX14_bridges_0 : decode cX14_bridges 0 = .ok (.iconst 0, 1) := by decide +kernel
theorem dX14_bridges_1 : decode cX14_bridges 1 = .ok (.istore_n 3, 1) := by decide +kernel
theorem dX14_bridges_2 : decode cX14_bridges 2 = .ok (.iconst 0, 1) := by decide +kernel
theorem dX14_bridges_3 : decode cX14_bridges 3 = .ok (.istore 4, 2) := by decide +kernel
theorem dX14_bridges_5 : decode cX14_bridges 5 = .ok (.iload 4, 2) := by decide +kernel
theorem dX14_bridges_7 : decode cX14_bridges 7 = .ok (.aload_n 0, 1) := by decide +kernel
theorem dX14_bridges_8 : decode cX14_bridges 8 = .ok (.invokevirtual 275, 3) := by decide +kernel
theorem dX14_bridges_11 : decode cX14_bridges 11 = .ok (.if_icmp .ge 51, 3) := by decide +kernel
theorem dX14_bridges_14 : decode cX14_bridges 14 = .ok (.iload 4, 2) := by decide +kernel
theorem dX14_bridges_16 : decode cX14_bridges 16 = .ok (.iconst 1, 1) := by decide +kernel
theorem dX14_bridges_17 : decode cX14_bridges 17 = .ok (.iadd, 1) := by decide +kernel
theorem dX14_bridges_18 : decode cX14_bridges 18 = .ok (.istore 5, 2) := by decide +kernel
theorem dX14_bridges_20 : decode cX14_bridges 20 = .ok (.iload 5, 2) := by decide +kernel
theorem dX14_bridges_22 : decode cX14_bridges 22 = .ok (.aload_n 0, 1) := by decide +kernel
theorem dX14_bridges_23 : decode cX14_bridges 23 = .ok (.invokevirtual 275, 3) := by decide +kernel
theorem dX14_bridges_26 : decode cX14_bridges 26 = .ok (.if_icmp .ge 30, 3) := by decide +kernel
theorem dX14_bridges_29 : decode cX14_bridges 29 = .ok (.iload_n 3, 1) := by decide +kernel
theorem dX14_bridges_30 : decode cX14_bridges 30 = .ok (.aload_n 0, 1) := by decide +kernel
theorem dX14_bridges_31 : decode cX14_bridges 31 = .ok (.iload 4, 2) := by decide +kernel
theorem dX14_bridges_33 : decode cX14_bridges 33 = .ok (.iload 5, 2) := by decide +kernel
theorem dX14_bridges_35 : decode cX14_bridges 35 = .ok (.iload_n 1, 1) := by decide +kernel
theorem dX14_bridges_36 : decode cX14_bridges 36 = .ok (.invokevirtual 314, 3) := by decide +kernel
theorem dX14_bridges_39 : decode cX14_bridges 39 = .ok (.iload_n 2, 1) := by decide +kernel
theorem dX14_bridges_40 : decode cX14_bridges 40 = .ok (.if_icmp .ne 7, 3) := by decide +kernel
theorem dX14_bridges_43 : decode cX14_bridges 43 = .ok (.iconst 1, 1) := by decide +kernel
theorem dX14_bridges_44 : decode cX14_bridges 44 = .ok (.goto 4, 3) := by decide +kernel
theorem dX14_bridges_47 : decode cX14_bridges 47 = .ok (.iconst 0, 1) := by decide +kernel
theorem dX14_bridges_48 : decode cX14_bridges 48 = .ok (.iadd, 1) := by decide +kernel
theorem dX14_bridges_49 : decode cX14_bridges 49 = .ok (.istore_n 3, 1) := by decide +kernel
theorem dX14_bridges_50 : decode cX14_bridges 50 = .ok (.iinc 5 1, 3) := by decide +kernel
theorem dX14_bridges_53 : decode cX14_bridges 53 = .ok (.goto (-33), 3) := by decide +kernel
theorem dX14_bridges_56 : decode cX14_bridges 56 = .ok (.iinc 4 1, 3) := by decide +kernel
theorem dX14_bridges_59 : decode cX14_bridges 59 = .ok (.goto (-54), 3) := by decide +kernel
theorem dX14_bridges_62 : decode cX14_bridges 62 = .ok (.iload_n 3, 1) := by decide +kernel
theorem dX14_bridges_63 : decode cX14_bridges 63 = .ok (.ireturn, 1) := by decide +kernel
theorem dX14_around_0 : decode cX14_around 0 = .ok (.iload_n 1, 1) := by decide +kernel
theorem dX14_around_1 : decode cX14_around 1 = .ok (.aload_n 0, 1) := by decide +kernel
theorem dX14_around_2 : decode cX14_around 2 = .ok (.getfield 29, 3) := by decide +kernel
theorem dX14_around_5 : decode cX14_around 5 = .ok (.getfield 208, 3) := by decide +kernel
theorem dX14_around_8 : decode cX14_around 8 = .ok (.irem, 1) := by decide +kernel
theorem dX14_around_9 : decode cX14_around 9 = .ok (.getstatic 278, 3) := by decide +kernel
theorem dX14_around_12 : decode cX14_around 12 = .ok (.iload_n 2, 1) := by decide +kernel
theorem dX14_around_13 : decode cX14_around 13 = .ok (.iaload, 1) := by decide +kernel
theorem dX14_around_14 : decode cX14_around 14 = .ok (.iadd, 1) := by decide +kernel
theorem dX14_around_15 : decode cX14_around 15 = .ok (.istore_n 3, 1) := by decide +kernel
theorem dX14_around_16 : decode cX14_around 16 = .ok (.iload_n 1, 1) := by decide +kernel
theorem dX14_around_17 : decode cX14_around 17 = .ok (.aload_n 0, 1) := by decide +kernel
theorem dX14_around_18 : decode cX14_around 18 = .ok (.getfield 29, 3) := by decide +kernel
theorem dX14_around_21 : decode cX14_around 21 = .ok (.getfield 208, 3) := by decide +kernel
theorem dX14_around_24 : decode cX14_around 24 = .ok (.idiv, 1) := by decide +kernel
theorem dX14_around_25 : decode cX14_around 25 = .ok (.getstatic 281, 3) := by decide +kernel
theorem dX14_around_28 : decode cX14_around 28 = .ok (.iload_n 2, 1) := by decide +kernel
theorem dX14_around_29 : decode cX14_around 29 = .ok (.iaload, 1) := by decide +kernel
theorem dX14_around_30 : decode cX14_around 30 = .ok (.iadd, 1) := by decide +kernel
theorem dX14_around_31 : decode cX14_around 31 = .ok (.istore 4, 2) := by decide +kernel
theorem dX14_around_33 : decode cX14_around 33 = .ok (.iload_n 3, 1) := by decide +kernel
theorem dX14_around_34 : decode cX14_around 34 = .ok (.iconst 0, 1) := by decide +kernel
theorem dX14_around_35 : decode cX14_around 35 = .ok (.aload_n 0, 1) := by decide +kernel
theorem dX14_around_36 : decode cX14_around 36 = .ok (.getfield 29, 3) := by decide +kernel
theorem dX14_around_39 : decode cX14_around 39 = .ok (.getfield 208, 3) := by decide +kernel
theorem dX14_around_42 : decode cX14_around 42 = .ok (.iconst 1, 1) := by decide +kernel
theorem dX14_around_43 : decode cX14_around 43 = .ok (.isub, 1) := by decide +kernel
theorem dX14_around_44 : decode cX14_around 44 = .ok (.invokestatic 76, 3) := by decide +kernel
theorem dX14_around_47 : decode cX14_around 47 = .ok (.istore 5, 2) := by decide +kernel
theorem dX14_around_49 : decode cX14_around 49 = .ok (.iload 4, 2) := by decide +kernel
theorem dX14_around_51 : decode cX14_around 51 = .ok (.iconst 0, 1) := by decide +kernel
theorem dX14_around_52 : decode cX14_around 52 = .ok (.aload_n 0, 1) := by decide +kernel
theorem dX14_around_53 : decode cX14_around 53 = .ok (.getfield 29, 3) := by decide +kernel
theorem dX14_around_56 : decode cX14_around 56 = .ok (.getfield 211, 3) := by decide +kernel
theorem dX14_around_59 : decode cX14_around 59 = .ok (.iconst 1, 1) := by decide +kernel
theorem dX14_around_60 : decode cX14_around 60 = .ok (.isub, 1) := by decide +kernel
theorem dX14_around_61 : decode cX14_around 61 = .ok (.invokestatic 76, 3) := by decide +kernel
theorem dX14_around_64 : decode cX14_around 64 = .ok (.istore 6, 2) := by decide +kernel
theorem dX14_around_66 : decode cX14_around 66 = .ok (.iload 5, 2) := by decide +kernel
theorem dX14_around_68 : decode cX14_around 68 = .ok (.ifCond .eq 21, 3) := by decide +kernel
theorem dX14_around_71 : decode cX14_around 71 = .ok (.iload 6, 2) := by decide +kernel
theorem dX14_around_73 : decode cX14_around 73 = .ok (.ifCond .eq 16, 3) := by decide +kernel
theorem dX14_around_76 : decode cX14_around 76 = .ok (.aload_n 0, 1) := by decide +kernel
theorem dX14_around_77 : decode cX14_around 77 = .ok (.getfield 39, 3) := by decide +kernel
theorem dX14_around_80 : decode cX14_around 80 = .ok (.aload_n 0, 1) := by decide +kernel
theorem dX14_around_81 : decode cX14_around 81 = .ok (.iload_n 3, 1) := by decide +kernel
theorem dX14_around_82 : decode cX14_around 82 = .ok (.iload 4, 2) := by decide +kernel
theorem dX14_around_84 : decode cX14_around 84 = .ok (.invokevirtual 288, 3) := by decide +kernel
theorem dX14_around_87 : decode cX14_around 87 = .ok (.iaload, 1) := by decide +kernel
theorem dX14_around_88 : decode cX14_around 88 = .ok (.ireturn, 1) := by decide +kernel
theorem dX14_around_89 : decode cX14_around 89 = .ok (.iload 6, 2) := by decide +kernel
theorem dX14_around_91 : decode cX14_around 91 = .ok (.ifCond .eq 7, 3) := by decide +kernel
theorem dX14_around_94 : decode cX14_around 94 = .ok (.iconst 0, 1) := by decide +kernel
theorem dX14_around_95 : decode cX14_around 95 = .ok (.goto 13, 3) := by decide +kernel
theorem dX14_around_98 : decode cX14_around 98 = .ok (.iload 5, 2) := by decide +kernel
theorem dX14_around_100 : decode cX14_around 100 = .ok (.ifCond .eq 7, 3) := by decide +kernel
theorem dX14_around_103 : decode cX14_around 103 = .ok (.iconst 1, 1) := by decide +kernel
theorem dX14_around_104 : decode cX14_around 104 = .ok (.goto 4, 3) := by decide +kernel
theorem dX14_around_107 : decode cX14_around 107 = .ok (.iconst (-1), 1) := by decide +kernel
theorem dX14_around_108 : decode cX14_around 108 = .ok (.ireturn, 1) := by decide +kernel
theorem dX14_frozen_0 : decode cX14_frozen 0 = .ok (.aload_n 0, 1) := by decide +kernel
theorem dX14_frozen_1 : decode cX14_frozen 1 = .ok (.getfield 39, 3) := by decide +kernel
theorem dX14_frozen_4 : decode cX14_frozen 4 = .ok (.iload_n 1, 1) := by decide +kernel
theorem dX14_frozen_5 : decode cX14_frozen 5 = .ok (.iaload, 1) := by decide +kernel
theorem dX14_frozen_6 : decode cX14_frozen 6 = .ok (.iconst (-1), 1) := by decide +kernel
theorem dX14_frozen_7 : decode cX14_frozen 7 = .ok (.if_icmp .eq 5, 3) := by decide +kernel
theorem dX14_frozen_10 : decode cX14_frozen 10 = .ok (.iconst 0, 1) := by decide +kernel
theorem dX14_frozen_11 : decode cX14_frozen 11 = .ok (.ireturn, 1) := by decide +kernel
theorem dX14_frozen_12 : decode cX14_frozen 12 = .ok (.iconst 0, 1) := by decide +kernel
theorem dX14_frozen_13 : decode cX14_frozen 13 = .ok (.istore_n 2, 1) := by decide +kernel
theorem dX14_frozen_14 : decode cX14_frozen 14 = .ok (.iload_n 2, 1) := by decide +kernel
theorem dX14_frozen_15 : decode cX14_frozen 15 = .ok (.bipush 6, 2) := by decide +kernel
theorem dX14_frozen_17 : decode cX14_frozen 17 = .ok (.if_icmp .ge 21, 3) := by decide +kernel
theorem dX14_frozen_20 : decode cX14_frozen 20 = .ok (.aload_n 0, 1) := by decide +kernel
theorem dX14_frozen_21 : decode cX14_frozen 21 = .ok (.getfield 67, 3) := by decide +kernel
theorem dX14_frozen_24 : decode cX14_frozen 24 = .ok (.iload_n 2, 1) := by decide +kernel
theorem dX14_frozen_25 : decode cX14_frozen 25 = .ok (.aload_n 0, 1) := by decide +kernel
theorem dX14_frozen_26 : decode cX14_frozen 26 = .ok (.iload_n 1, 1) := by decide +kernel
theorem dX14_frozen_27 : decode cX14_frozen 27 = .ok (.iload_n 2, 1) := by decide +kernel
theorem dX14_frozen_28 : decode cX14_frozen 28 = .ok (.invokevirtual 317, 3) := by decide +kernel
theorem dX14_frozen_31 : decode cX14_frozen 31 = .ok (.iastore, 1) := by decide +kernel
theorem dX14_frozen_32 : decode cX14_frozen 32 = .ok (.iinc 2 1, 3) := by decide +kernel
theorem dX14_frozen_35 : decode cX14_frozen 35 = .ok (.goto (-21), 3) := by decide +kernel
theorem dX14_frozen_38 : decode cX14_frozen 38 = .ok (.iconst 0, 1) := by decide +kernel
theorem dX14_frozen_39 : decode cX14_frozen 39 = .ok (.istore_n 2, 1) := by decide +kernel
theorem dX14_frozen_40 : decode cX14_frozen 40 = .ok (.iload_n 2, 1) := by decide +kernel
theorem dX14_frozen_41 : decode cX14_frozen 41 = .ok (.bipush 6, 2) := by decide +kernel
theorem dX14_frozen_43 : decode cX14_frozen 43 = .ok (.if_icmp .ge 59, 3) := by decide +kernel
theorem dX14_frozen_46 : decode cX14_frozen 46 = .ok (.iconst 0, 1) := by decide +kernel
theorem dX14_frozen_47 : decode cX14_frozen 47 = .ok (.istore_n 3, 1) := by decide +kernel
theorem dX14_frozen_48 : decode cX14_frozen 48 = .ok (.iload_n 3, 1) := by decide +kernel
theorem dX14_frozen_49 : decode cX14_frozen 49 = .ok (.iconst 4, 1) := by decide +kernel
theorem dX14_frozen_50 : decode cX14_frozen 50 = .ok (.if_icmp .ge 39, 3) := by decide +kernel
theorem dX14_frozen_53 : decode cX14_frozen 53 = .ok (.aload_n 0, 1) := by decide +kernel
theorem dX14_frozen_54 : decode cX14_frozen 54 = .ok (.getfield 67, 3) := by decide +kernel
theorem dX14_frozen_57 : decode cX14_frozen 57 = .ok (.iload_n 2, 1) := by decide +kernel
theorem dX14_frozen_58 : decode cX14_frozen 58 = .ok (.iaload, 1) := by decide +kernel
theorem dX14_frozen_59 : decode cX14_frozen 59 = .ok (.iconst (-1), 1) := by decide +kernel
theorem dX14_frozen_60 : decode cX14_frozen 60 = .ok (.if_icmp .eq 29, 3) := by decide +kernel
theorem dX14_frozen_63 : decode cX14_frozen 63 = .ok (.aload_n 0, 1) := by decide +kernel
theorem dX14_frozen_64 : decode cX14_frozen 64 = .ok (.getfield 67, 3) := by decide +kernel
theorem dX14_frozen_67 : decode cX14_frozen 67 = .ok (.iload_n 2, 1) := by decide +kernel
theorem dX14_frozen_68 : decode cX14_frozen 68 = .ok (.iload_n 3, 1) := by decide +kernel
theorem dX14_frozen_69 : decode cX14_frozen 69 = .ok (.iadd, 1) := by decide +kernel
theorem dX14_frozen_70 : decode cX14_frozen 70 = .ok (.bipush 6, 2) := by decide +kernel
theorem dX14_frozen_72 : decode cX14_frozen 72 = .ok (.irem, 1) := by decide +kernel
theorem dX14_frozen_73 : decode cX14_frozen 73 = .ok (.iaload, 1) := by decide +kernel
theorem dX14_frozen_74 : decode cX14_frozen 74 = .ok (.aload_n 0, 1) := by decide +kernel
theorem dX14_frozen_75 : decode cX14_frozen 75 = .ok (.getfield 67, 3) := by decide +kernel
theorem dX14_frozen_78 : decode cX14_frozen 78 = .ok (.iload_n 2, 1) := by decide +kernel
theorem dX14_frozen_79 : decode cX14_frozen 79 = .ok (.iaload, 1) := by decide +kernel
theorem dX14_frozen_80 : decode cX14_frozen 80 = .ok (.if_icmp .ne 9, 3) := by decide +kernel
theorem dX14_frozen_83 : decode cX14_frozen 83 = .ok (.iinc 3 1, 3) := by decide +kernel
theorem dX14_frozen_86 : decode cX14_frozen 86 = .ok (.goto (-38), 3) := by decide +kernel
theorem dX14_frozen_89 : decode cX14_frozen 89 = .ok (.iload_n 3, 1) := by decide +kernel
theorem dX14_frozen_90 : decode cX14_frozen 90 = .ok (.iconst 4, 1) := by decide +kernel
theorem dX14_frozen_91 : decode cX14_frozen 91 = .ok (.if_icmp .ne 5, 3) := by decide +kernel
theorem dX14_frozen_94 : decode cX14_frozen 94 = .ok (.iconst 1, 1) := by decide +kernel
theorem dX14_frozen_95 : decode cX14_frozen 95 = .ok (.ireturn, 1) := by decide +kernel
theorem dX14_frozen_96 : decode cX14_frozen 96 = .ok (.iinc 2 1, 3) := by decide +kernel
theorem dX14_frozen_99 : decode cX14_frozen 99 = .ok (.goto (-59), 3) := by decide +kernel
theorem dX14_frozen_102 : decode cX14_frozen 102 = .ok (.iconst 0, 1) := by decide +kernel
theorem dX14_frozen_103 : decode cX14_frozen 103 = .ok (.ireturn, 1) := by decide +kernel
theorem dX14_allFrozen_0 : decode cX14_allFrozen 0 = .ok (.iconst 0, 1) := by decide +kernel
theorem dX14_allFrozen_1 : decode cX14_allFrozen 1 = .ok (.istore_n 1, 1) := by decide +kernel
theorem dX14_allFrozen_2 : decode cX14_allFrozen 2 = .ok (.iconst 0, 1) := by decide +kernel
theorem dX14_allFrozen_3 : decode cX14_allFrozen 3 = .ok (.istore_n 2, 1) := by decide +kernel
theorem dX14_allFrozen_4 : decode cX14_allFrozen 4 = .ok (.iload_n 2, 1) := by decide +kernel
theorem dX14_allFrozen_5 : decode cX14_allFrozen 5 = .ok (.aload_n 0, 1) := by decide +kernel
theorem dX14_allFrozen_6 : decode cX14_allFrozen 6 = .ok (.invokevirtual 275, 3) := by decide +kernel
theorem dX14_allFrozen_9 : decode cX14_allFrozen 9 = .ok (.if_icmp .ge 25, 3) := by decide +kernel
theorem dX14_allFrozen_12 : decode cX14_allFrozen 12 = .ok (.iload_n 1, 1) := by decide +kernel
theorem dX14_allFrozen_13 : decode cX14_allFrozen 13 = .ok (.aload_n 0, 1) := by decide +kernel
theorem dX14_allFrozen_14 : decode cX14_allFrozen 14 = .ok (.iload_n 2, 1) := by decide +kernel
theorem dX14_allFrozen_15 : decode cX14_allFrozen 15 = .ok (.invokevirtual 320, 3) := by decide +kernel
theorem dX14_allFrozen_18 : decode cX14_allFrozen 18 = .ok (.ifCond .eq 7, 3) := by decide +kernel
theorem dX14_allFrozen_21 : decode cX14_allFrozen 21 = .ok (.iconst 1, 1) := by decide +kernel
theorem dX14_allFrozen_22 : decode cX14_allFrozen 22 = .ok (.goto 4, 3) := by decide +kernel
theorem dX14_allFrozen_25 : decode cX14_allFrozen 25 = .ok (.iconst 0, 1) := by decide +kernel
theorem dX14_allFrozen_26 : decode cX14_allFrozen 26 = .ok (.iadd, 1) := by decide +kernel
theorem dX14_allFrozen_27 : decode cX14_allFrozen 27 = .ok (.istore_n 1, 1) := by decide +kernel
theorem dX14_allFrozen_28 : decode cX14_allFrozen 28 = .ok (.iinc 2 1, 3) := by decide +kernel
theorem dX14_allFrozen_31 : decode cX14_allFrozen 31 = .ok (.goto (-27), 3) := by decide +kernel
theorem dX14_allFrozen_34 : decode cX14_allFrozen 34 = .ok (.iload_n 1, 1) := by decide +kernel
theorem dX14_allFrozen_35 : decode cX14_allFrozen 35 = .ok (.ireturn, 1) := by decide +kernel
theorem dX14_cost_0 : decode cX14_cost 0 = .ok (.aload_n 0, 1) := by decide +kernel
theorem dX14_cost_1 : decode cX14_cost 1 = .ok (.getfield 39, 3) := by decide +kernel
theorem dX14_cost_4 : decode cX14_cost 4 = .ok (.iload_n 1, 1) := by decide +kernel
theorem dX14_cost_5 : decode cX14_cost 5 = .ok (.iaload, 1) := by decide +kernel
theorem dX14_cost_6 : decode cX14_cost 6 = .ok (.iconst (-1), 1) := by decide +kernel
theorem dX14_cost_7 : decode cX14_cost 7 = .ok (.if_icmp .ne 7, 3) := by decide +kernel
theorem dX14_cost_10 : decode cX14_cost 10 = .ok (.iconst 1, 1) := by decide +kernel
theorem dX14_cost_11 : decode cX14_cost 11 = .ok (.goto 4, 3) := by decide +kernel
theorem dX14_cost_14 : decode cX14_cost 14 = .ok (.iconst 0, 1) := by decide +kernel
theorem dX14_cost_15 : decode cX14_cost 15 = .ok (.ireturn, 1) := by decide +kernel
theorem dX14_reach_0 : decode cX14_reach 0 = .ok (.iconst 0, 1) := by decide +kernel
theorem dX14_reach_1 : decode cX14_reach 1 = .ok (.istore 4, 2) := by decide +kernel
theorem dX14_reach_3 : decode cX14_reach 3 = .ok (.iload 4, 2) := by decide +kernel
theorem dX14_reach_5 : decode cX14_reach 5 = .ok (.aload_n 0, 1) := by decide +kernel
theorem dX14_reach_6 : decode cX14_reach 6 = .ok (.invokevirtual 275, 3) := by decide +kernel
theorem dX14_reach_9 : decode cX14_reach 9 = .ok (.if_icmp .ge 49, 3) := by decide +kernel
theorem dX14_reach_12 : decode cX14_reach 12 = .ok (.aload_n 1, 1) := by decide +kernel
theorem dX14_reach_13 : decode cX14_reach 13 = .ok (.iload 4, 2) := by decide +kernel
theorem dX14_reach_15 : decode cX14_reach 15 = .ok (.aload_n 0, 1) := by decide +kernel
theorem dX14_reach_16 : decode cX14_reach 16 = .ok (.getfield 39, 3) := by decide +kernel
theorem dX14_reach_19 : decode cX14_reach 19 = .ok (.iload 4, 2) := by decide +kernel
theorem dX14_reach_21 : decode cX14_reach 21 = .ok (.iaload, 1) := by decide +kernel
theorem dX14_reach_22 : decode cX14_reach 22 = .ok (.iconst 1, 1) := by decide +kernel
theorem dX14_reach_23 : decode cX14_reach 23 = .ok (.iload_n 2, 1) := by decide +kernel
theorem dX14_reach_24 : decode cX14_reach 24 = .ok (.isub, 1) := by decide +kernel
theorem dX14_reach_25 : decode cX14_reach 25 = .ok (.if_icmp .eq 23, 3) := by decide +kernel
theorem dX14_reach_28 : decode cX14_reach 28 = .ok (.aload_n 0, 1) := by decide +kernel
theorem dX14_reach_29 : decode cX14_reach 29 = .ok (.iload 4, 2) := by decide +kernel
theorem dX14_reach_31 : decode cX14_reach 31 = .ok (.iload_n 2, 1) := by decide +kernel
theorem dX14_reach_32 : decode cX14_reach 32 = .ok (.iload_n 3, 1) := by decide +kernel
theorem dX14_reach_33 : decode cX14_reach 33 = .ok (.invokevirtual 300, 3) := by decide +kernel
theorem dX14_reach_36 : decode cX14_reach 36 = .ok (.ifCond .eq 12, 3) := by decide +kernel
theorem dX14_reach_39 : decode cX14_reach 39 = .ok (.aload_n 0, 1) := by decide +kernel
theorem dX14_reach_40 : decode cX14_reach 40 = .ok (.iload 4, 2) := by decide +kernel
theorem dX14_reach_42 : decode cX14_reach 42 = .ok (.invokevirtual 323, 3) := by decide +kernel
theorem dX14_reach_45 : decode cX14_reach 45 = .ok (.goto 6, 3) := by decide +kernel
theorem dX14_reach_48 : decode cX14_reach 48 = .ok (.sipush 9999, 3) := by decide +kernel
theorem dX14_reach_51 : decode cX14_reach 51 = .ok (.iastore, 1) := by decide +kernel
theorem dX14_reach_52 : decode cX14_reach 52 = .ok (.iinc 4 1, 3) := by decide +kernel
theorem dX14_reach_55 : decode cX14_reach 55 = .ok (.goto (-52), 3) := by decide +kernel
theorem dX14_reach_58 : decode cX14_reach 58 = .ok (.iconst 1, 1) := by decide +kernel
theorem dX14_reach_59 : decode cX14_reach 59 = .ok (.istore 4, 2) := by decide +kernel
theorem dX14_reach_61 : decode cX14_reach 61 = .ok (.iload 4, 2) := by decide +kernel
theorem dX14_reach_63 : decode cX14_reach 63 = .ok (.ifCond .eq 111, 3) := by decide +kernel
theorem dX14_reach_66 : decode cX14_reach 66 = .ok (.iconst 0, 1) := by decide +kernel
theorem dX14_reach_67 : decode cX14_reach 67 = .ok (.istore 4, 2) := by decide +kernel
theorem dX14_reach_69 : decode cX14_reach 69 = .ok (.iconst 0, 1) := by decide +kernel
theorem dX14_reach_70 : decode cX14_reach 70 = .ok (.istore 5, 2) := by decide +kernel
theorem dX14_reach_72 : decode cX14_reach 72 = .ok (.iload 5, 2) := by decide +kernel
theorem dX14_reach_74 : decode cX14_reach 74 = .ok (.aload_n 0, 1) := by decide +kernel
theorem dX14_reach_75 : decode cX14_reach 75 = .ok (.invokevirtual 275, 3) := by decide +kernel
theorem dX14_reach_78 : decode cX14_reach 78 = .ok (.if_icmp .ge 93, 3) := by decide +kernel
theorem dX14_reach_81 : decode cX14_reach 81 = .ok (.iconst 0, 1) := by decide +kernel
theorem dX14_reach_82 : decode cX14_reach 82 = .ok (.istore 6, 2) := by decide +kernel
theorem dX14_reach_84 : decode cX14_reach 84 = .ok (.iload 6, 2) := by decide +kernel
theorem dX14_reach_86 : decode cX14_reach 86 = .ok (.bipush 6, 2) := by decide +kernel
theorem dX14_reach_88 : decode cX14_reach 88 = .ok (.if_icmp .ge 77, 3) := by decide +kernel
theorem dX14_reach_91 : decode cX14_reach 91 = .ok (.aload_n 0, 1) := by decide +kernel
theorem dX14_reach_92 : decode cX14_reach 92 = .ok (.getfield 39, 3) := by decide +kernel
theorem dX14_reach_95 : decode cX14_reach 95 = .ok (.iload 5, 2) := by decide +kernel
theorem dX14_reach_97 : decode cX14_reach 97 = .ok (.iaload, 1) := by decide +kernel
theorem dX14_reach_98 : decode cX14_reach 98 = .ok (.iconst 1, 1) := by decide +kernel
theorem dX14_reach_99 : decode cX14_reach 99 = .ok (.iload_n 2, 1) := by decide +kernel
theorem dX14_reach_100 : decode cX14_reach 100 = .ok (.isub, 1) := by decide +kernel
theorem dX14_reach_101 : decode cX14_reach 101 = .ok (.if_icmp .eq 64, 3) := by decide +kernel
theorem dX14_reach_104 : decode cX14_reach 104 = .ok (.aload_n 0, 1) := by decide +kernel
theorem dX14_reach_105 : decode cX14_reach 105 = .ok (.iload 5, 2) := by decide +kernel
theorem dX14_reach_107 : decode cX14_reach 107 = .ok (.iload 6, 2) := by decide +kernel
theorem dX14_reach_109 : decode cX14_reach 109 = .ok (.invokevirtual 297, 3) := by decide +kernel
theorem dX14_reach_112 : decode cX14_reach 112 = .ok (.istore 7, 2) := by decide +kernel
theorem dX14_reach_114 : decode cX14_reach 114 = .ok (.iload 7, 2) := by decide +kernel
theorem dX14_reach_116 : decode cX14_reach 116 = .ok (.iconst (-1), 1) := by decide +kernel
theorem dX14_reach_117 : decode cX14_reach 117 = .ok (.if_icmp .eq 42, 3) := by decide +kernel
theorem dX14_reach_120 : decode cX14_reach 120 = .ok (.aload_n 1, 1) := by decide +kernel
theorem dX14_reach_121 : decode cX14_reach 121 = .ok (.iload 7, 2) := by decide +kernel
theorem dX14_reach_123 : decode cX14_reach 123 = .ok (.iaload, 1) := by decide +kernel
theorem dX14_reach_124 : decode cX14_reach 124 = .ok (.aload_n 0, 1) := by decide +kernel
theorem dX14_reach_125 : decode cX14_reach 125 = .ok (.iload 5, 2) := by decide +kernel
theorem dX14_reach_127 : decode cX14_reach 127 = .ok (.invokevirtual 323, 3) := by decide +kernel
theorem dX14_reach_130 : decode cX14_reach 130 = .ok (.iadd, 1) := by decide +kernel
theorem dX14_reach_131 : decode cX14_reach 131 = .ok (.aload_n 1, 1) := by decide +kernel
theorem dX14_reach_132 : decode cX14_reach 132 = .ok (.iload 5, 2) := by decide +kernel
theorem dX14_reach_134 : decode cX14_reach 134 = .ok (.iaload, 1) := by decide +kernel
theorem dX14_reach_135 : decode cX14_reach 135 = .ok (.if_icmp .lt 6, 3) := by decide +kernel
theorem dX14_reach_138 : decode cX14_reach 138 = .ok (.goto 21, 3) := by decide +kernel
theorem dX14_reach_141 : decode cX14_reach 141 = .ok (.aload_n 1, 1) := by decide +kernel
theorem dX14_reach_142 : decode cX14_reach 142 = .ok (.iload 5, 2) := by decide +kernel
theorem dX14_reach_144 : decode cX14_reach 144 = .ok (.aload_n 1, 1) := by decide +kernel
theorem dX14_reach_145 : decode cX14_reach 145 = .ok (.iload 7, 2) := by decide +kernel
theorem dX14_reach_147 : decode cX14_reach 147 = .ok (.iaload, 1) := by decide +kernel
theorem dX14_reach_148 : decode cX14_reach 148 = .ok (.aload_n 0, 1) := by decide +kernel
theorem dX14_reach_149 : decode cX14_reach 149 = .ok (.iload 5, 2) := by decide +kernel
theorem dX14_reach_151 : decode cX14_reach 151 = .ok (.invokevirtual 323, 3) := by decide +kernel
theorem dX14_reach_154 : decode cX14_reach 154 = .ok (.iadd, 1) := by decide +kernel
theorem dX14_reach_155 : decode cX14_reach 155 = .ok (.iastore, 1) := by decide +kernel
theorem dX14_reach_156 : decode cX14_reach 156 = .ok (.iconst 1, 1) := by decide +kernel
theorem dX14_reach_157 : decode cX14_reach 157 = .ok (.istore 4, 2) := by decide +kernel
theorem dX14_reach_159 : decode cX14_reach 159 = .ok (.iinc 6 1, 3) := by decide +kernel
theorem dX14_reach_162 : decode cX14_reach 162 = .ok (.goto (-78), 3) := by decide +kernel
theorem dX14_reach_165 : decode cX14_reach 165 = .ok (.iinc 5 1, 3) := by decide +kernel
theorem dX14_reach_168 : decode cX14_reach 168 = .ok (.goto (-96), 3) := by decide +kernel
theorem dX14_reach_171 : decode cX14_reach 171 = .ok (.goto (-110), 3) := by decide +kernel
theorem dX14_reach_174 : decode cX14_reach 174 = .ok (.return_, 1) := by decide +kernel
theorem dX14_reachBoth_0 : decode cX14_reachBoth 0 = .ok (.aload_n 0, 1) := by decide +kernel
theorem dX14_reachBoth_1 : decode cX14_reachBoth 1 = .ok (.aload_n 0, 1) := by decide +kernel
theorem dX14_reachBoth_2 : decode cX14_reachBoth 2 = .ok (.getfield 48, 3) := by decide +kernel
theorem dX14_reachBoth_5 : decode cX14_reachBoth 5 = .ok (.iload_n 1, 1) := by decide +kernel
theorem dX14_reachBoth_6 : decode cX14_reachBoth 6 = .ok (.iconst 0, 1) := by decide +kernel
theorem dX14_reachBoth_7 : decode cX14_reachBoth 7 = .ok (.invokevirtual 326, 3) := by decide +kernel
theorem dX14_reachBoth_10 : decode cX14_reachBoth 10 = .ok (.aload_n 0, 1) := by decide +kernel
theorem dX14_reachBoth_11 : decode cX14_reachBoth 11 = .ok (.aload_n 0, 1) := by decide +kernel
theorem dX14_reachBoth_12 : decode cX14_reachBoth 12 = .ok (.getfield 51, 3) := by decide +kernel
theorem dX14_reachBoth_15 : decode cX14_reachBoth 15 = .ok (.iload_n 1, 1) := by decide +kernel
theorem dX14_reachBoth_16 : decode cX14_reachBoth 16 = .ok (.iconst 1, 1) := by decide +kernel
theorem dX14_reachBoth_17 : decode cX14_reachBoth 17 = .ok (.invokevirtual 326, 3) := by decide +kernel
theorem dX14_reachBoth_20 : decode cX14_reachBoth 20 = .ok (.return_, 1) := by decide +kernel
theorem dX14_throughThen_0 : decode cX14_throughThen 0 = .ok (.aload_n 0, 1) := by decide +kernel
theorem dX14_throughThen_1 : decode cX14_throughThen 1 = .ok (.getfield 48, 3) := by decide +kernel
theorem dX14_throughThen_4 : decode cX14_throughThen 4 = .ok (.iload_n 1, 1) := by decide +kernel
theorem dX14_throughThen_5 : decode cX14_throughThen 5 = .ok (.iaload, 1) := by decide +kernel
theorem dX14_throughThen_6 : decode cX14_throughThen 6 = .ok (.sipush 9999, 3) := by decide +kernel
theorem dX14_throughThen_9 : decode cX14_throughThen 9 = .ok (.if_icmp .ge 15, 3) := by decide +kernel
theorem dX14_throughThen_12 : decode cX14_throughThen 12 = .ok (.aload_n 0, 1) := by decide +kernel
theorem dX14_throughThen_13 : decode cX14_throughThen 13 = .ok (.getfield 51, 3) := by decide +kernel
theorem dX14_throughThen_16 : decode cX14_throughThen 16 = .ok (.iload_n 1, 1) := by decide +kernel
theorem dX14_throughThen_17 : decode cX14_throughThen 17 = .ok (.iaload, 1) := by decide +kernel
theorem dX14_throughThen_18 : decode cX14_throughThen 18 = .ok (.sipush 9999, 3) := by decide +kernel
theorem dX14_throughThen_21 : decode cX14_throughThen 21 = .ok (.if_icmp .lt 9, 3) := by decide +kernel
theorem dX14_throughThen_24 : decode cX14_throughThen 24 = .ok (.sipush 9999, 3) := by decide +kernel
theorem dX14_throughThen_27 : decode cX14_throughThen 27 = .ok (.goto 22, 3) := by decide +kernel
theorem dX14_throughThen_30 : decode cX14_throughThen 30 = .ok (.aload_n 0, 1) := by decide +kernel
theorem dX14_throughThen_31 : decode cX14_throughThen 31 = .ok (.getfield 48, 3) := by decide +kernel
theorem dX14_throughThen_34 : decode cX14_throughThen 34 = .ok (.iload_n 1, 1) := by decide +kernel
theorem dX14_throughThen_35 : decode cX14_throughThen 35 = .ok (.iaload, 1) := by decide +kernel
theorem dX14_throughThen_36 : decode cX14_throughThen 36 = .ok (.aload_n 0, 1) := by decide +kernel
theorem dX14_throughThen_37 : decode cX14_throughThen 37 = .ok (.getfield 51, 3) := by decide +kernel
theorem dX14_throughThen_40 : decode cX14_throughThen 40 = .ok (.iload_n 1, 1) := by decide +kernel
theorem dX14_throughThen_41 : decode cX14_throughThen 41 = .ok (.iaload, 1) := by decide +kernel
theorem dX14_throughThen_42 : decode cX14_throughThen 42 = .ok (.iadd, 1) := by decide +kernel
theorem dX14_throughThen_43 : decode cX14_throughThen 43 = .ok (.aload_n 0, 1) := by decide +kernel
theorem dX14_throughThen_44 : decode cX14_throughThen 44 = .ok (.iload_n 1, 1) := by decide +kernel
theorem dX14_throughThen_45 : decode cX14_throughThen 45 = .ok (.invokevirtual 323, 3) := by decide +kernel
theorem dX14_throughThen_48 : decode cX14_throughThen 48 = .ok (.isub, 1) := by decide +kernel
theorem dX14_throughThen_49 : decode cX14_throughThen 49 = .ok (.ireturn, 1) := by decide +kernel
theorem dX14_through_0 : decode cX14_through 0 = .ok (.aload_n 0, 1) := by decide +kernel
theorem dX14_through_1 : decode cX14_through 1 = .ok (.iload_n 1, 1) := by decide +kernel
theorem dX14_through_2 : decode cX14_through 2 = .ok (.invokevirtual 330, 3) := by decide +kernel
theorem dX14_through_5 : decode cX14_through 5 = .ok (.aload_n 0, 1) := by decide +kernel
theorem dX14_through_6 : decode cX14_through 6 = .ok (.iload_n 2, 1) := by decide +kernel
theorem dX14_through_7 : decode cX14_through 7 = .ok (.invokevirtual 333, 3) := by decide +kernel
theorem dX14_through_10 : decode cX14_through 10 = .ok (.ireturn, 1) := by decide +kernel
theorem dX14_needs_0 : decode cX14_needs 0 = .ok (.aload_n 0, 1) := by decide +kernel
theorem dX14_needs_1 : decode cX14_needs 1 = .ok (.aload_n 0, 1) := by decide +kernel
theorem dX14_needs_2 : decode cX14_needs 2 = .ok (.getfield 48, 3) := by decide +kernel
theorem dX14_needs_5 : decode cX14_needs 5 = .ok (.iload_n 1, 1) := by decide +kernel
theorem dX14_needs_6 : decode cX14_needs 6 = .ok (.iconst 0, 1) := by decide +kernel
theorem dX14_needs_7 : decode cX14_needs 7 = .ok (.invokevirtual 326, 3) := by decide +kernel
theorem dX14_needs_10 : decode cX14_needs 10 = .ok (.sipush 9999, 3) := by decide +kernel
theorem dX14_needs_13 : decode cX14_needs 13 = .ok (.istore_n 2, 1) := by decide +kernel
theorem dX14_needs_14 : decode cX14_needs 14 = .ok (.iconst 0, 1) := by decide +kernel
theorem dX14_needs_15 : decode cX14_needs 15 = .ok (.istore_n 3, 1) := by decide +kernel
theorem dX14_needs_16 : decode cX14_needs 16 = .ok (.iload_n 3, 1) := by decide +kernel
theorem dX14_needs_17 : decode cX14_needs 17 = .ok (.aload_n 0, 1) := by decide +kernel
theorem dX14_needs_18 : decode cX14_needs 18 = .ok (.invokevirtual 275, 3) := by decide +kernel
theorem dX14_needs_21 : decode cX14_needs 21 = .ok (.if_icmp .ge 30, 3) := by decide +kernel
theorem dX14_needs_24 : decode cX14_needs 24 = .ok (.aload_n 0, 1) := by decide +kernel
theorem dX14_needs_25 : decode cX14_needs 25 = .ok (.iload_n 3, 1) := by decide +kernel
theorem dX14_needs_26 : decode cX14_needs 26 = .ok (.iload_n 1, 1) := by decide +kernel
theorem dX14_needs_27 : decode cX14_needs 27 = .ok (.iconst 1, 1) := by decide +kernel
theorem dX14_needs_28 : decode cX14_needs 28 = .ok (.invokevirtual 300, 3) := by decide +kernel
theorem dX14_needs_31 : decode cX14_needs 31 = .ok (.ifCond .eq 14, 3) := by decide +kernel
theorem dX14_needs_34 : decode cX14_needs 34 = .ok (.iload_n 2, 1) := by decide +kernel
theorem dX14_needs_35 : decode cX14_needs 35 = .ok (.aload_n 0, 1) := by decide +kernel
theorem dX14_needs_36 : decode cX14_needs 36 = .ok (.getfield 48, 3) := by decide +kernel
theorem dX14_needs_39 : decode cX14_needs 39 = .ok (.iload_n 3, 1) := by decide +kernel
theorem dX14_needs_40 : decode cX14_needs 40 = .ok (.iaload, 1) := by decide +kernel
theorem dX14_needs_41 : decode cX14_needs 41 = .ok (.invokestatic 218, 3) := by decide +kernel
theorem dX14_needs_44 : decode cX14_needs 44 = .ok (.istore_n 2, 1) := by decide +kernel
theorem dX14_needs_45 : decode cX14_needs 45 = .ok (.iinc 3 1, 3) := by decide +kernel
theorem dX14_needs_48 : decode cX14_needs 48 = .ok (.goto (-32), 3) := by decide +kernel
theorem dX14_needs_51 : decode cX14_needs 51 = .ok (.bipush 99, 2) := by decide +kernel
theorem dX14_needs_53 : decode cX14_needs 53 = .ok (.iload_n 2, 1) := by decide +kernel
theorem dX14_needs_54 : decode cX14_needs 54 = .ok (.invokestatic 218, 3) := by decide +kernel
theorem dX14_needs_57 : decode cX14_needs 57 = .ok (.ireturn, 1) := by decide +kernel
theorem dX14_wins_0 : decode cX14_wins 0 = .ok (.aload_n 0, 1) := by decide +kernel
theorem dX14_wins_1 : decode cX14_wins 1 = .ok (.getfield 39, 3) := by decide +kernel
theorem dX14_wins_4 : decode cX14_wins 4 = .ok (.iload_n 2, 1) := by decide +kernel
theorem dX14_wins_5 : decode cX14_wins 5 = .ok (.iaload, 1) := by decide +kernel
theorem dX14_wins_6 : decode cX14_wins 6 = .ok (.iconst (-1), 1) := by decide +kernel
theorem dX14_wins_7 : decode cX14_wins 7 = .ok (.if_icmp .eq 5, 3) := by decide +kernel
theorem dX14_wins_10 : decode cX14_wins 10 = .ok (.iconst 0, 1) := by decide +kernel
theorem dX14_wins_11 : decode cX14_wins 11 = .ok (.ireturn, 1) := by decide +kernel
theorem dX14_wins_12 : decode cX14_wins 12 = .ok (.aload_n 0, 1) := by decide +kernel
theorem dX14_wins_13 : decode cX14_wins 13 = .ok (.getfield 39, 3) := by decide +kernel
theorem dX14_wins_16 : decode cX14_wins 16 = .ok (.iload_n 2, 1) := by decide +kernel
theorem dX14_wins_17 : decode cX14_wins 17 = .ok (.iload_n 1, 1) := by decide +kernel
theorem dX14_wins_18 : decode cX14_wins 18 = .ok (.iastore, 1) := by decide +kernel
theorem dX14_wins_19 : decode cX14_wins 19 = .ok (.aload_n 0, 1) := by decide +kernel
theorem dX14_wins_20 : decode cX14_wins 20 = .ok (.iload_n 1, 1) := by decide +kernel
theorem dX14_wins_21 : decode cX14_wins 21 = .ok (.invokevirtual 304, 3) := by decide +kernel
theorem dX14_wins_24 : decode cX14_wins 24 = .ok (.istore_n 3, 1) := by decide +kernel
theorem dX14_wins_25 : decode cX14_wins 25 = .ok (.aload_n 0, 1) := by decide +kernel
theorem dX14_wins_26 : decode cX14_wins 26 = .ok (.getfield 39, 3) := by decide +kernel
theorem dX14_wins_29 : decode cX14_wins 29 = .ok (.iload_n 2, 1) := by decide +kernel
theorem dX14_wins_30 : decode cX14_wins 30 = .ok (.iconst (-1), 1) := by decide +kernel
theorem dX14_wins_31 : decode cX14_wins 31 = .ok (.iastore, 1) := by decide +kernel
theorem dX14_wins_32 : decode cX14_wins 32 = .ok (.iload_n 3, 1) := by decide +kernel
theorem dX14_wins_33 : decode cX14_wins 33 = .ok (.ireturn, 1) := by decide +kernel
theorem dX14_winning_0 : decode cX14_winning 0 = .ok (.iconst 0, 1) := by decide +kernel
theorem dX14_winning_1 : decode cX14_winning 1 = .ok (.istore_n 3, 1) := by decide +kernel
theorem dX14_winning_2 : decode cX14_winning 2 = .ok (.iconst 0, 1) := by decide +kernel
theorem dX14_winning_3 : decode cX14_winning 3 = .ok (.istore 4, 2) := by decide +kernel
theorem dX14_winning_5 : decode cX14_winning 5 = .ok (.iload 4, 2) := by decide +kernel
theorem dX14_winning_7 : decode cX14_winning 7 = .ok (.aload_n 0, 1) := by decide +kernel
theorem dX14_winning_8 : decode cX14_winning 8 = .ok (.invokevirtual 275, 3) := by decide +kernel
theorem dX14_winning_11 : decode cX14_winning 11 = .ok (.if_icmp .ge 32, 3) := by decide +kernel
theorem dX14_winning_14 : decode cX14_winning 14 = .ok (.aload_n 0, 1) := by decide +kernel
theorem dX14_winning_15 : decode cX14_winning 15 = .ok (.iload_n 1, 1) := by decide +kernel
theorem dX14_winning_16 : decode cX14_winning 16 = .ok (.iload 4, 2) := by decide +kernel
theorem dX14_winning_18 : decode cX14_winning 18 = .ok (.invokevirtual 336, 3) := by decide +kernel
theorem dX14_winning_21 : decode cX14_winning 21 = .ok (.ifCond .ne 6, 3) := by decide +kernel
theorem dX14_winning_24 : decode cX14_winning 24 = .ok (.goto 13, 3) := by decide +kernel
theorem dX14_winning_27 : decode cX14_winning 27 = .ok (.iload_n 2, 1) := by decide +kernel
theorem dX14_winning_28 : decode cX14_winning 28 = .ok (.ifCond .eq 6, 3) := by decide +kernel
theorem dX14_winning_31 : decode cX14_winning 31 = .ok (.iload 4, 2) := by decide +kernel
theorem dX14_winning_33 : decode cX14_winning 33 = .ok (.ireturn, 1) := by decide +kernel
theorem dX14_winning_34 : decode cX14_winning 34 = .ok (.iinc 3 1, 3) := by decide +kernel
theorem dX14_winning_37 : decode cX14_winning 37 = .ok (.iinc 4 1, 3) := by decide +kernel
theorem dX14_winning_40 : decode cX14_winning 40 = .ok (.goto (-35), 3) := by decide +kernel
theorem dX14_winning_43 : decode cX14_winning 43 = .ok (.iload_n 2, 1) := by decide +kernel
theorem dX14_winning_44 : decode cX14_winning 44 = .ok (.ifCond .eq 7, 3) := by decide +kernel
theorem dX14_winning_47 : decode cX14_winning 47 = .ok (.iconst (-1), 1) := by decide +kernel
theorem dX14_winning_48 : decode cX14_winning 48 = .ok (.goto 4, 3) := by decide +kernel
theorem dX14_winning_51 : decode cX14_winning 51 = .ok (.iload_n 3, 1) := by decide +kernel
theorem dX14_winning_52 : decode cX14_winning 52 = .ok (.ireturn, 1) := by decide +kernel
theorem dX14_reckon_0 : decode cX14_reckon 0 = .ok (.iload_n 1, 1) := by decide +kernel
theorem dX14_reckon_1 : decode cX14_reckon 1 = .ok (.tableswitch 410 12 60 #[213, 231, 237, 225, 244, 250, 272, 382, 396, 350, 366, 410, 410, 410, 410, 410, 410, 410, 410, 211, 410, 410, 410, 410, 410, 410, 410, 410, 281, 295, 309, 323, 410, 410, 410, 410, 410, 410, 410, 410, 410, 410, 410, 410, 410, 410, 410, 410, 264], 211) := by decide +kernel
theorem dX14_reckon_212 : decode cX14_reckon 212 = .ok (.iload_n 2, 1) := by decide +kernel
theorem dX14_reckon_213 : decode cX14_reckon 213 = .ok (.ireturn, 1) := by decide +kernel
theorem dX14_reckon_214 : decode cX14_reckon 214 = .ok (.aload_n 0, 1) := by decide +kernel
theorem dX14_reckon_215 : decode cX14_reckon 215 = .ok (.iconst 0, 1) := by decide +kernel
theorem dX14_reckon_216 : decode cX14_reckon 216 = .ok (.invokevirtual 307, 3) := by decide +kernel
theorem dX14_reckon_219 : decode cX14_reckon 219 = .ok (.aload_n 0, 1) := by decide +kernel
theorem dX14_reckon_220 : decode cX14_reckon 220 = .ok (.iconst 1, 1) := by decide +kernel
theorem dX14_reckon_221 : decode cX14_reckon 221 = .ok (.invokevirtual 307, 3) := by decide +kernel
theorem dX14_reckon_224 : decode cX14_reckon 224 = .ok (.iadd, 1) := by decide +kernel
theorem dX14_reckon_225 : decode cX14_reckon 225 = .ok (.ireturn, 1) := by decide +kernel
theorem dX14_reckon_226 : decode cX14_reckon 226 = .ok (.aload_n 0, 1) := by decide +kernel
theorem dX14_reckon_227 : decode cX14_reckon 227 = .ok (.iconst (-1), 1) := by decide +kernel
theorem dX14_reckon_228 : decode cX14_reckon 228 = .ok (.invokevirtual 307, 3) := by decide +kernel
theorem dX14_reckon_231 : decode cX14_reckon 231 = .ok (.ireturn, 1) := by decide +kernel
theorem dX14_reckon_232 : decode cX14_reckon 232 = .ok (.aload_n 0, 1) := by decide +kernel
theorem dX14_reckon_233 : decode cX14_reckon 233 = .ok (.iload_n 2, 1) := by decide +kernel
theorem dX14_reckon_234 : decode cX14_reckon 234 = .ok (.invokevirtual 307, 3) := by decide +kernel
theorem dX14_reckon_237 : decode cX14_reckon 237 = .ok (.ireturn, 1) := by decide +kernel
theorem dX14_reckon_238 : decode cX14_reckon 238 = .ok (.aload_n 0, 1) := by decide +kernel
theorem dX14_reckon_239 : decode cX14_reckon 239 = .ok (.iload_n 2, 1) := by decide +kernel
theorem dX14_reckon_240 : decode cX14_reckon 240 = .ok (.iconst 1, 1) := by decide +kernel
theorem dX14_reckon_241 : decode cX14_reckon 241 = .ok (.invokevirtual 339, 3) := by decide +kernel
theorem dX14_reckon_244 : decode cX14_reckon 244 = .ok (.ireturn, 1) := by decide +kernel
theorem dX14_reckon_245 : decode cX14_reckon 245 = .ok (.aload_n 0, 1) := by decide +kernel
theorem dX14_reckon_246 : decode cX14_reckon 246 = .ok (.iload_n 2, 1) := by decide +kernel
theorem dX14_reckon_247 : decode cX14_reckon 247 = .ok (.invokevirtual 342, 3) := by decide +kernel
theorem dX14_reckon_250 : decode cX14_reckon 250 = .ok (.ireturn, 1) := by decide +kernel
theorem dX14_reckon_251 : decode cX14_reckon 251 = .ok (.aload_n 0, 1) := by decide +kernel
theorem dX14_reckon_252 : decode cX14_reckon 252 = .ok (.iload_n 2, 1) := by decide +kernel
theorem dX14_reckon_253 : decode cX14_reckon 253 = .ok (.invokevirtual 304, 3) := by decide +kernel
theorem dX14_reckon_256 : decode cX14_reckon 256 = .ok (.ifCond .eq 7, 3) := by decide +kernel
theorem dX14_reckon_259 : decode cX14_reckon 259 = .ok (.iconst 1, 1) := by decide +kernel
theorem dX14_reckon_260 : decode cX14_reckon 260 = .ok (.goto 4, 3) := by decide +kernel
theorem dX14_reckon_263 : decode cX14_reckon 263 = .ok (.iconst 0, 1) := by decide +kernel
theorem dX14_reckon_264 : decode cX14_reckon 264 = .ok (.ireturn, 1) := by decide +kernel
theorem dX14_reckon_265 : decode cX14_reckon 265 = .ok (.aload_n 0, 1) := by decide +kernel
theorem dX14_reckon_266 : decode cX14_reckon 266 = .ok (.getfield 36, 3) := by decide +kernel
theorem dX14_reckon_269 : decode cX14_reckon 269 = .ok (.iload_n 2, 1) := by decide +kernel
theorem dX14_reckon_270 : decode cX14_reckon 270 = .ok (.iaload, 1) := by decide +kernel
theorem dX14_reckon_271 : decode cX14_reckon 271 = .ok (.ineg, 1) := by decide +kernel
theorem dX14_reckon_272 : decode cX14_reckon 272 = .ok (.ireturn, 1) := by decide +kernel
theorem dX14_reckon_273 : decode cX14_reckon 273 = .ok (.iconst 1, 1) := by decide +kernel
theorem dX14_reckon_274 : decode cX14_reckon 274 = .ok (.aload_n 0, 1) := by decide +kernel
theorem dX14_reckon_275 : decode cX14_reckon 275 = .ok (.getfield 36, 3) := by decide +kernel
theorem dX14_reckon_278 : decode cX14_reckon 278 = .ok (.iload_n 2, 1) := by decide +kernel
theorem dX14_reckon_279 : decode cX14_reckon 279 = .ok (.iaload, 1) := by decide +kernel
theorem dX14_reckon_280 : decode cX14_reckon 280 = .ok (.isub, 1) := by decide +kernel
theorem dX14_reckon_281 : decode cX14_reckon 281 = .ok (.ireturn, 1) := by decide +kernel
theorem dX14_reckon_282 : decode cX14_reckon 282 = .ok (.aload_n 0, 1) := by decide +kernel
theorem dX14_reckon_283 : decode cX14_reckon 283 = .ok (.getfield 36, 3) := by decide +kernel
theorem dX14_reckon_286 : decode cX14_reckon 286 = .ok (.iload_n 2, 1) := by decide +kernel
theorem dX14_reckon_287 : decode cX14_reckon 287 = .ok (.iaload, 1) := by decide +kernel
theorem dX14_reckon_288 : decode cX14_reckon 288 = .ok (.aload_n 0, 1) := by decide +kernel
theorem dX14_reckon_289 : decode cX14_reckon 289 = .ok (.getfield 36, 3) := by decide +kernel
theorem dX14_reckon_292 : decode cX14_reckon 292 = .ok (.iload_n 3, 1) := by decide +kernel
theorem dX14_reckon_293 : decode cX14_reckon 293 = .ok (.iaload, 1) := by decide +kernel
theorem dX14_reckon_294 : decode cX14_reckon 294 = .ok (.iadd, 1) := by decide +kernel
theorem dX14_reckon_295 : decode cX14_reckon 295 = .ok (.ireturn, 1) := by decide +kernel
theorem dX14_reckon_296 : decode cX14_reckon 296 = .ok (.aload_n 0, 1) := by decide +kernel
theorem dX14_reckon_297 : decode cX14_reckon 297 = .ok (.getfield 36, 3) := by decide +kernel
theorem dX14_reckon_300 : decode cX14_reckon 300 = .ok (.iload_n 2, 1) := by decide +kernel
theorem dX14_reckon_301 : decode cX14_reckon 301 = .ok (.iaload, 1) := by decide +kernel
theorem dX14_reckon_302 : decode cX14_reckon 302 = .ok (.aload_n 0, 1) := by decide +kernel
theorem dX14_reckon_303 : decode cX14_reckon 303 = .ok (.getfield 36, 3) := by decide +kernel
theorem dX14_reckon_306 : decode cX14_reckon 306 = .ok (.iload_n 3, 1) := by decide +kernel
theorem dX14_reckon_307 : decode cX14_reckon 307 = .ok (.iaload, 1) := by decide +kernel
theorem dX14_reckon_308 : decode cX14_reckon 308 = .ok (.isub, 1) := by decide +kernel
theorem dX14_reckon_309 : decode cX14_reckon 309 = .ok (.ireturn, 1) := by decide +kernel
theorem dX14_reckon_310 : decode cX14_reckon 310 = .ok (.aload_n 0, 1) := by decide +kernel
theorem dX14_reckon_311 : decode cX14_reckon 311 = .ok (.getfield 36, 3) := by decide +kernel
theorem dX14_reckon_314 : decode cX14_reckon 314 = .ok (.iload_n 2, 1) := by decide +kernel
theorem dX14_reckon_315 : decode cX14_reckon 315 = .ok (.iaload, 1) := by decide +kernel
theorem dX14_reckon_316 : decode cX14_reckon 316 = .ok (.aload_n 0, 1) := by decide +kernel
theorem dX14_reckon_317 : decode cX14_reckon 317 = .ok (.getfield 36, 3) := by decide +kernel
theorem dX14_reckon_320 : decode cX14_reckon 320 = .ok (.iload_n 3, 1) := by decide +kernel
theorem dX14_reckon_321 : decode cX14_reckon 321 = .ok (.iaload, 1) := by decide +kernel
theorem dX14_reckon_322 : decode cX14_reckon 322 = .ok (.imul, 1) := by decide +kernel
theorem dX14_reckon_323 : decode cX14_reckon 323 = .ok (.ireturn, 1) := by decide +kernel
theorem dX14_reckon_324 : decode cX14_reckon 324 = .ok (.aload_n 0, 1) := by decide +kernel
theorem dX14_reckon_325 : decode cX14_reckon 325 = .ok (.getfield 36, 3) := by decide +kernel
theorem dX14_reckon_328 : decode cX14_reckon 328 = .ok (.iload_n 3, 1) := by decide +kernel
theorem dX14_reckon_329 : decode cX14_reckon 329 = .ok (.iaload, 1) := by decide +kernel
theorem dX14_reckon_330 : decode cX14_reckon 330 = .ok (.ifCond .ne 7, 3) := by decide +kernel
theorem dX14_reckon_333 : decode cX14_reckon 333 = .ok (.iconst 0, 1) := by decide +kernel
theorem dX14_reckon_334 : decode cX14_reckon 334 = .ok (.goto 16, 3) := by decide +kernel
theorem dX14_reckon_337 : decode cX14_reckon 337 = .ok (.aload_n 0, 1) := by decide +kernel
theorem dX14_reckon_338 : decode cX14_reckon 338 = .ok (.getfield 36, 3) := by decide +kernel
theorem dX14_reckon_341 : decode cX14_reckon 341 = .ok (.iload_n 2, 1) := by decide +kernel
theorem dX14_reckon_342 : decode cX14_reckon 342 = .ok (.iaload, 1) := by decide +kernel
theorem dX14_reckon_343 : decode cX14_reckon 343 = .ok (.aload_n 0, 1) := by decide +kernel
theorem dX14_reckon_344 : decode cX14_reckon 344 = .ok (.getfield 36, 3) := by decide +kernel
theorem dX14_reckon_347 : decode cX14_reckon 347 = .ok (.iload_n 3, 1) := by decide +kernel
theorem dX14_reckon_348 : decode cX14_reckon 348 = .ok (.iaload, 1) := by decide +kernel
theorem dX14_reckon_349 : decode cX14_reckon 349 = .ok (.idiv, 1) := by decide +kernel
theorem dX14_reckon_350 : decode cX14_reckon 350 = .ok (.ireturn, 1) := by decide +kernel
theorem dX14_reckon_351 : decode cX14_reckon 351 = .ok (.aload_n 0, 1) := by decide +kernel
theorem dX14_reckon_352 : decode cX14_reckon 352 = .ok (.getfield 36, 3) := by decide +kernel
theorem dX14_reckon_355 : decode cX14_reckon 355 = .ok (.iload_n 2, 1) := by decide +kernel
theorem dX14_reckon_356 : decode cX14_reckon 356 = .ok (.iaload, 1) := by decide +kernel
theorem dX14_reckon_357 : decode cX14_reckon 357 = .ok (.aload_n 0, 1) := by decide +kernel
theorem dX14_reckon_358 : decode cX14_reckon 358 = .ok (.getfield 36, 3) := by decide +kernel
theorem dX14_reckon_361 : decode cX14_reckon 361 = .ok (.iload_n 3, 1) := by decide +kernel
theorem dX14_reckon_362 : decode cX14_reckon 362 = .ok (.iaload, 1) := by decide +kernel
theorem dX14_reckon_363 : decode cX14_reckon 363 = .ok (.invokestatic 218, 3) := by decide +kernel
theorem dX14_reckon_366 : decode cX14_reckon 366 = .ok (.ireturn, 1) := by decide +kernel
theorem dX14_reckon_367 : decode cX14_reckon 367 = .ok (.aload_n 0, 1) := by decide +kernel
theorem dX14_reckon_368 : decode cX14_reckon 368 = .ok (.getfield 36, 3) := by decide +kernel
theorem dX14_reckon_371 : decode cX14_reckon 371 = .ok (.iload_n 2, 1) := by decide +kernel
theorem dX14_reckon_372 : decode cX14_reckon 372 = .ok (.iaload, 1) := by decide +kernel
theorem dX14_reckon_373 : decode cX14_reckon 373 = .ok (.aload_n 0, 1) := by decide +kernel
theorem dX14_reckon_374 : decode cX14_reckon 374 = .ok (.getfield 36, 3) := by decide +kernel
theorem dX14_reckon_377 : decode cX14_reckon 377 = .ok (.iload_n 3, 1) := by decide +kernel
theorem dX14_reckon_378 : decode cX14_reckon 378 = .ok (.iaload, 1) := by decide +kernel
theorem dX14_reckon_379 : decode cX14_reckon 379 = .ok (.invokestatic 345, 3) := by decide +kernel
theorem dX14_reckon_382 : decode cX14_reckon 382 = .ok (.ireturn, 1) := by decide +kernel
theorem dX14_reckon_383 : decode cX14_reckon 383 = .ok (.aload_n 0, 1) := by decide +kernel
theorem dX14_reckon_384 : decode cX14_reckon 384 = .ok (.getfield 36, 3) := by decide +kernel
theorem dX14_reckon_387 : decode cX14_reckon 387 = .ok (.iload_n 2, 1) := by decide +kernel
theorem dX14_reckon_388 : decode cX14_reckon 388 = .ok (.iaload, 1) := by decide +kernel
theorem dX14_reckon_389 : decode cX14_reckon 389 = .ok (.aload_n 0, 1) := by decide +kernel
theorem dX14_reckon_390 : decode cX14_reckon 390 = .ok (.getfield 36, 3) := by decide +kernel
theorem dX14_reckon_393 : decode cX14_reckon 393 = .ok (.iload_n 3, 1) := by decide +kernel
theorem dX14_reckon_394 : decode cX14_reckon 394 = .ok (.iaload, 1) := by decide +kernel
theorem dX14_reckon_395 : decode cX14_reckon 395 = .ok (.iand, 1) := by decide +kernel
theorem dX14_reckon_396 : decode cX14_reckon 396 = .ok (.ireturn, 1) := by decide +kernel
theorem dX14_reckon_397 : decode cX14_reckon 397 = .ok (.aload_n 0, 1) := by decide +kernel
theorem dX14_reckon_398 : decode cX14_reckon 398 = .ok (.getfield 36, 3) := by decide +kernel
theorem dX14_reckon_401 : decode cX14_reckon 401 = .ok (.iload_n 2, 1) := by decide +kernel
theorem dX14_reckon_402 : decode cX14_reckon 402 = .ok (.iaload, 1) := by decide +kernel
theorem dX14_reckon_403 : decode cX14_reckon 403 = .ok (.aload_n 0, 1) := by decide +kernel
theorem dX14_reckon_404 : decode cX14_reckon 404 = .ok (.getfield 36, 3) := by decide +kernel
theorem dX14_reckon_407 : decode cX14_reckon 407 = .ok (.iload_n 3, 1) := by decide +kernel
theorem dX14_reckon_408 : decode cX14_reckon 408 = .ok (.iaload, 1) := by decide +kernel
theorem dX14_reckon_409 : decode cX14_reckon 409 = .ok (.ior, 1) := by decide +kernel
theorem dX14_reckon_410 : decode cX14_reckon 410 = .ok (.ireturn, 1) := by decide +kernel
theorem dX14_reckon_411 : decode cX14_reckon 411 = .ok (.iload_n 1, 1) := by decide +kernel
theorem dX14_reckon_412 : decode cX14_reckon 412 = .ok (.aload_n 0, 1) := by decide +kernel
theorem dX14_reckon_413 : decode cX14_reckon 413 = .ok (.getfield 36, 3) := by decide +kernel
theorem dX14_reckon_416 : decode cX14_reckon 416 = .ok (.iload_n 2, 1) := by decide +kernel
theorem dX14_reckon_417 : decode cX14_reckon 417 = .ok (.iaload, 1) := by decide +kernel
theorem dX14_reckon_418 : decode cX14_reckon 418 = .ok (.aload_n 0, 1) := by decide +kernel
theorem dX14_reckon_419 : decode cX14_reckon 419 = .ok (.getfield 36, 3) := by decide +kernel
theorem dX14_reckon_422 : decode cX14_reckon 422 = .ok (.iload_n 3, 1) := by decide +kernel
theorem dX14_reckon_423 : decode cX14_reckon 423 = .ok (.iaload, 1) := by decide +kernel
theorem dX14_reckon_424 : decode cX14_reckon 424 = .ok (.invokestatic 348, 3) := by decide +kernel
theorem dX14_reckon_427 : decode cX14_reckon 427 = .ok (.ifCond .eq 7, 3) := by decide +kernel
theorem dX14_reckon_430 : decode cX14_reckon 430 = .ok (.iconst 1, 1) := by decide +kernel
theorem dX14_reckon_431 : decode cX14_reckon 431 = .ok (.goto 4, 3) := by decide +kernel
theorem dX14_reckon_434 : decode cX14_reckon 434 = .ok (.iconst 0, 1) := by decide +kernel
theorem dX14_reckon_435 : decode cX14_reckon 435 = .ok (.ireturn, 1) := by decide +kernel
theorem dX14_compared_0 : decode cX14_compared 0 = .ok (.iload_n 0, 1) := by decide +kernel
theorem dX14_compared_1 : decode cX14_compared 1 = .ok (.tableswitch 75 44 47 #[31, 42, 53, 64], 31) := by decide +kernel
theorem dX14_compared_32 : decode cX14_compared 32 = .ok (.iload_n 1, 1) := by decide +kernel
theorem dX14_compared_33 : decode cX14_compared 33 = .ok (.iload_n 2, 1) := by decide +kernel
theorem dX14_compared_34 : decode cX14_compared 34 = .ok (.if_icmp .ge 7, 3) := by decide +kernel
theorem dX14_compared_37 : decode cX14_compared 37 = .ok (.iconst 1, 1) := by decide +kernel
theorem dX14_compared_38 : decode cX14_compared 38 = .ok (.goto 4, 3) := by decide +kernel
theorem dX14_compared_41 : decode cX14_compared 41 = .ok (.iconst 0, 1) := by decide +kernel
theorem dX14_compared_42 : decode cX14_compared 42 = .ok (.ireturn, 1) := by decide +kernel
theorem dX14_compared_43 : decode cX14_compared 43 = .ok (.iload_n 1, 1) := by decide +kernel
theorem dX14_compared_44 : decode cX14_compared 44 = .ok (.iload_n 2, 1) := by decide +kernel
theorem dX14_compared_45 : decode cX14_compared 45 = .ok (.if_icmp .le 7, 3) := by decide +kernel
theorem dX14_compared_48 : decode cX14_compared 48 = .ok (.iconst 1, 1) := by decide +kernel
theorem dX14_compared_49 : decode cX14_compared 49 = .ok (.goto 4, 3) := by decide +kernel
theorem dX14_compared_52 : decode cX14_compared 52 = .ok (.iconst 0, 1) := by decide +kernel
theorem dX14_compared_53 : decode cX14_compared 53 = .ok (.ireturn, 1) := by decide +kernel
theorem dX14_compared_54 : decode cX14_compared 54 = .ok (.iload_n 1, 1) := by decide +kernel
theorem dX14_compared_55 : decode cX14_compared 55 = .ok (.iload_n 2, 1) := by decide +kernel
theorem dX14_compared_56 : decode cX14_compared 56 = .ok (.if_icmp .ne 7, 3) := by decide +kernel
theorem dX14_compared_59 : decode cX14_compared 59 = .ok (.iconst 1, 1) := by decide +kernel
theorem dX14_compared_60 : decode cX14_compared 60 = .ok (.goto 4, 3) := by decide +kernel
theorem dX14_compared_63 : decode cX14_compared 63 = .ok (.iconst 0, 1) := by decide +kernel
theorem dX14_compared_64 : decode cX14_compared 64 = .ok (.ireturn, 1) := by decide +kernel
theorem dX14_compared_65 : decode cX14_compared 65 = .ok (.iload_n 1, 1) := by decide +kernel
theorem dX14_compared_66 : decode cX14_compared 66 = .ok (.iload_n 2, 1) := by decide +kernel
theorem dX14_compared_67 : decode cX14_compared 67 = .ok (.if_icmp .gt 7, 3) := by decide +kernel
theorem dX14_compared_70 : decode cX14_compared 70 = .ok (.iconst 1, 1) := by decide +kernel
theorem dX14_compared_71 : decode cX14_compared 71 = .ok (.goto 4, 3) := by decide +kernel
theorem dX14_compared_74 : decode cX14_compared 74 = .ok (.iconst 0, 1) := by decide +kernel
theorem dX14_compared_75 : decode cX14_compared 75 = .ok (.ireturn, 1) := by decide +kernel
theorem dX14_compared_76 : decode cX14_compared 76 = .ok (.iload_n 1, 1) := by decide +kernel
theorem dX14_compared_77 : decode cX14_compared 77 = .ok (.iload_n 2, 1) := by decide +kernel
theorem dX14_compared_78 : decode cX14_compared 78 = .ok (.if_icmp .lt 7, 3) := by decide +kernel
theorem dX14_compared_81 : decode cX14_compared 81 = .ok (.iconst 1, 1) := by decide +kernel
theorem dX14_compared_82 : decode cX14_compared 82 = .ok (.goto 4, 3) := by decide +kernel
theorem dX14_compared_85 : decode cX14_compared 85 = .ok (.iconst 0, 1) := by decide +kernel
theorem dX14_compared_86 : decode cX14_compared 86 = .ok (.ireturn, 1) := by decide +kernel
theorem dX14_saved_0 : decode cX14_saved 0 = .ok (.iconst (-1), 1) := by decide +kernel
theorem dX14_saved_1 : decode cX14_saved 1 = .ok (.istore_n 2, 1) := by decide +kernel
theorem dX14_saved_2 : decode cX14_saved 2 = .ok (.iconst 0, 1) := by decide +kernel
theorem dX14_saved_3 : decode cX14_saved 3 = .ok (.istore_n 3, 1) := by decide +kernel
theorem dX14_saved_4 : decode cX14_saved 4 = .ok (.iload_n 3, 1) := by decide +kernel
theorem dX14_saved_5 : decode cX14_saved 5 = .ok (.aload_n 0, 1) := by decide +kernel
theorem dX14_saved_6 : decode cX14_saved 6 = .ok (.invokevirtual 275, 3) := by decide +kernel
theorem dX14_saved_9 : decode cX14_saved 9 = .ok (.if_icmp .ge 97, 3) := by decide +kernel
theorem dX14_saved_12 : decode cX14_saved 12 = .ok (.iload_n 3, 1) := by decide +kernel
theorem dX14_saved_13 : decode cX14_saved 13 = .ok (.iconst 1, 1) := by decide +kernel
theorem dX14_saved_14 : decode cX14_saved 14 = .ok (.iadd, 1) := by decide +kernel
theorem dX14_saved_15 : decode cX14_saved 15 = .ok (.istore 4, 2) := by decide +kernel
theorem dX14_saved_17 : decode cX14_saved 17 = .ok (.iload 4, 2) := by decide +kernel
theorem dX14_saved_19 : decode cX14_saved 19 = .ok (.aload_n 0, 1) := by decide +kernel
theorem dX14_saved_20 : decode cX14_saved 20 = .ok (.invokevirtual 275, 3) := by decide +kernel
theorem dX14_saved_23 : decode cX14_saved 23 = .ok (.if_icmp .ge 77, 3) := by decide +kernel
theorem dX14_saved_26 : decode cX14_saved 26 = .ok (.aload_n 0, 1) := by decide +kernel
theorem dX14_saved_27 : decode cX14_saved 27 = .ok (.iload_n 3, 1) := by decide +kernel
theorem dX14_saved_28 : decode cX14_saved 28 = .ok (.iload 4, 2) := by decide +kernel
theorem dX14_saved_30 : decode cX14_saved 30 = .ok (.iload_n 1, 1) := by decide +kernel
theorem dX14_saved_31 : decode cX14_saved 31 = .ok (.invokevirtual 314, 3) := by decide +kernel
theorem dX14_saved_34 : decode cX14_saved 34 = .ok (.iconst 2, 1) := by decide +kernel
theorem dX14_saved_35 : decode cX14_saved 35 = .ok (.if_icmp .eq 6, 3) := by decide +kernel
theorem dX14_saved_38 : decode cX14_saved 38 = .ok (.goto 56, 3) := by decide +kernel
theorem dX14_saved_41 : decode cX14_saved 41 = .ok (.aload_n 0, 1) := by decide +kernel
theorem dX14_saved_42 : decode cX14_saved 42 = .ok (.iload_n 3, 1) := by decide +kernel
theorem dX14_saved_43 : decode cX14_saved 43 = .ok (.iload 4, 2) := by decide +kernel
theorem dX14_saved_45 : decode cX14_saved 45 = .ok (.iconst 0, 1) := by decide +kernel
theorem dX14_saved_46 : decode cX14_saved 46 = .ok (.invokevirtual 310, 3) := by decide +kernel
theorem dX14_saved_49 : decode cX14_saved 49 = .ok (.istore 5, 2) := by decide +kernel
theorem dX14_saved_51 : decode cX14_saved 51 = .ok (.aload_n 0, 1) := by decide +kernel
theorem dX14_saved_52 : decode cX14_saved 52 = .ok (.getfield 39, 3) := by decide +kernel
theorem dX14_saved_55 : decode cX14_saved 55 = .ok (.iload 5, 2) := by decide +kernel
theorem dX14_saved_57 : decode cX14_saved 57 = .ok (.iaload, 1) := by decide +kernel
theorem dX14_saved_58 : decode cX14_saved 58 = .ok (.iconst (-1), 1) := by decide +kernel
theorem dX14_saved_59 : decode cX14_saved 59 = .ok (.if_icmp .ne 8, 3) := by decide +kernel
theorem dX14_saved_62 : decode cX14_saved 62 = .ok (.iload 5, 2) := by decide +kernel
theorem dX14_saved_64 : decode cX14_saved 64 = .ok (.goto 11, 3) := by decide +kernel
theorem dX14_saved_67 : decode cX14_saved 67 = .ok (.aload_n 0, 1) := by decide +kernel
theorem dX14_saved_68 : decode cX14_saved 68 = .ok (.iload_n 3, 1) := by decide +kernel
theorem dX14_saved_69 : decode cX14_saved 69 = .ok (.iload 4, 2) := by decide +kernel
theorem dX14_saved_71 : decode cX14_saved 71 = .ok (.iconst 1, 1) := by decide +kernel
theorem dX14_saved_72 : decode cX14_saved 72 = .ok (.invokevirtual 310, 3) := by decide +kernel
theorem dX14_saved_75 : decode cX14_saved 75 = .ok (.istore 6, 2) := by decide +kernel
theorem dX14_saved_77 : decode cX14_saved 77 = .ok (.iload_n 2, 1) := by decide +kernel
theorem dX14_saved_78 : decode cX14_saved 78 = .ok (.iconst (-1), 1) := by decide +kernel
theorem dX14_saved_79 : decode cX14_saved 79 = .ok (.if_icmp .ne 8, 3) := by decide +kernel
theorem dX14_saved_82 : decode cX14_saved 82 = .ok (.iload 6, 2) := by decide +kernel
theorem dX14_saved_84 : decode cX14_saved 84 = .ok (.goto 9, 3) := by decide +kernel
theorem dX14_saved_87 : decode cX14_saved 87 = .ok (.iload_n 2, 1) := by decide +kernel
theorem dX14_saved_88 : decode cX14_saved 88 = .ok (.iload 6, 2) := by decide +kernel
theorem dX14_saved_90 : decode cX14_saved 90 = .ok (.invokestatic 218, 3) := by decide +kernel
theorem dX14_saved_93 : decode cX14_saved 93 = .ok (.istore_n 2, 1) := by decide +kernel
theorem dX14_saved_94 : decode cX14_saved 94 = .ok (.iinc 4 1, 3) := by decide +kernel
theorem dX14_saved_97 : decode cX14_saved 97 = .ok (.goto (-80), 3) := by decide +kernel
theorem dX14_saved_100 : decode cX14_saved 100 = .ok (.iinc 3 1, 3) := by decide +kernel
theorem dX14_saved_103 : decode cX14_saved 103 = .ok (.goto (-99), 3) := by decide +kernel
theorem dX14_saved_106 : decode cX14_saved 106 = .ok (.iload_n 2, 1) := by decide +kernel
theorem dX14_saved_107 : decode cX14_saved 107 = .ok (.ireturn, 1) := by decide +kernel
theorem dX14_nearest_0 : decode cX14_nearest 0 = .ok (.aload_n 0, 1) := by decide +kernel
theorem dX14_nearest_1 : decode cX14_nearest 1 = .ok (.iload_n 1, 1) := by decide +kernel
theorem dX14_nearest_2 : decode cX14_nearest 2 = .ok (.invokevirtual 330, 3) := by decide +kernel
theorem dX14_nearest_5 : decode cX14_nearest 5 = .ok (.iconst (-1), 1) := by decide +kernel
theorem dX14_nearest_6 : decode cX14_nearest 6 = .ok (.istore_n 2, 1) := by decide +kernel
theorem dX14_nearest_7 : decode cX14_nearest 7 = .ok (.sipush 9999, 3) := by decide +kernel
theorem dX14_nearest_10 : decode cX14_nearest 10 = .ok (.istore_n 3, 1) := by decide +kernel
theorem dX14_nearest_11 : decode cX14_nearest 11 = .ok (.iconst 0, 1) := by decide +kernel
theorem dX14_nearest_12 : decode cX14_nearest 12 = .ok (.istore 4, 2) := by decide +kernel
theorem dX14_nearest_14 : decode cX14_nearest 14 = .ok (.iload 4, 2) := by decide +kernel
theorem dX14_nearest_16 : decode cX14_nearest 16 = .ok (.aload_n 0, 1) := by decide +kernel
theorem dX14_nearest_17 : decode cX14_nearest 17 = .ok (.invokevirtual 275, 3) := by decide +kernel
theorem dX14_nearest_20 : decode cX14_nearest 20 = .ok (.if_icmp .ge 43, 3) := by decide +kernel
theorem dX14_nearest_23 : decode cX14_nearest 23 = .ok (.aload_n 0, 1) := by decide +kernel
theorem dX14_nearest_24 : decode cX14_nearest 24 = .ok (.getfield 39, 3) := by decide +kernel
theorem dX14_nearest_27 : decode cX14_nearest 27 = .ok (.iload 4, 2) := by decide +kernel
theorem dX14_nearest_29 : decode cX14_nearest 29 = .ok (.iaload, 1) := by decide +kernel
theorem dX14_nearest_30 : decode cX14_nearest 30 = .ok (.iconst (-1), 1) := by decide +kernel
theorem dX14_nearest_31 : decode cX14_nearest 31 = .ok (.if_icmp .ne 26, 3) := by decide +kernel
theorem dX14_nearest_34 : decode cX14_nearest 34 = .ok (.aload_n 0, 1) := by decide +kernel
theorem dX14_nearest_35 : decode cX14_nearest 35 = .ok (.iload 4, 2) := by decide +kernel
theorem dX14_nearest_37 : decode cX14_nearest 37 = .ok (.invokevirtual 333, 3) := by decide +kernel
theorem dX14_nearest_40 : decode cX14_nearest 40 = .ok (.iload_n 3, 1) := by decide +kernel
theorem dX14_nearest_41 : decode cX14_nearest 41 = .ok (.if_icmp .lt 6, 3) := by decide +kernel
theorem dX14_nearest_44 : decode cX14_nearest 44 = .ok (.goto 13, 3) := by decide +kernel
theorem dX14_nearest_47 : decode cX14_nearest 47 = .ok (.iload 4, 2) := by decide +kernel
theorem dX14_nearest_49 : decode cX14_nearest 49 = .ok (.istore_n 2, 1) := by decide +kernel
theorem dX14_nearest_50 : decode cX14_nearest 50 = .ok (.aload_n 0, 1) := by decide +kernel
theorem dX14_nearest_51 : decode cX14_nearest 51 = .ok (.iload 4, 2) := by decide +kernel
theorem dX14_nearest_53 : decode cX14_nearest 53 = .ok (.invokevirtual 333, 3) := by decide +kernel
theorem dX14_nearest_56 : decode cX14_nearest 56 = .ok (.istore_n 3, 1) := by decide +kernel
theorem dX14_nearest_57 : decode cX14_nearest 57 = .ok (.iinc 4 1, 3) := by decide +kernel
theorem dX14_nearest_60 : decode cX14_nearest 60 = .ok (.goto (-46), 3) := by decide +kernel
theorem dX14_nearest_63 : decode cX14_nearest 63 = .ok (.iload_n 2, 1) := by decide +kernel
theorem dX14_nearest_64 : decode cX14_nearest 64 = .ok (.ireturn, 1) := by decide +kernel
theorem dX14_found_0 : decode cX14_found 0 = .ok (.aload_n 0, 1) := by decide +kernel
theorem dX14_found_1 : decode cX14_found 1 = .ok (.getfield 29, 3) := by decide +kernel
theorem dX14_found_4 : decode cX14_found 4 = .ok (.getfield 226, 3) := by decide +kernel
theorem dX14_found_7 : decode cX14_found 7 = .ok (.iload_n 1, 1) := by decide +kernel
theorem dX14_found_8 : decode cX14_found 8 = .ok (.iaload, 1) := by decide +kernel
theorem dX14_found_9 : decode cX14_found 9 = .ok (.istore_n 2, 1) := by decide +kernel
theorem dX14_found_10 : decode cX14_found 10 = .ok (.aload_n 0, 1) := by decide +kernel
theorem dX14_found_11 : decode cX14_found 11 = .ok (.getfield 29, 3) := by decide +kernel
theorem dX14_found_14 : decode cX14_found 14 = .ok (.getfield 228, 3) := by decide +kernel
theorem dX14_found_17 : decode cX14_found 17 = .ok (.iload_n 1, 1) := by decide +kernel
theorem dX14_found_18 : decode cX14_found 18 = .ok (.iaload, 1) := by decide +kernel
theorem dX14_found_19 : decode cX14_found 19 = .ok (.tableswitch 57 6 9 #[29, 36, 45, 51], 29) := by decide +kernel
theorem dX14_found_48 : decode cX14_found 48 = .ok (.aload_n 0, 1) := by decide +kernel
theorem dX14_found_49 : decode cX14_found 49 = .ok (.iload_n 2, 1) := by decide +kernel
theorem dX14_found_50 : decode cX14_found 50 = .ok (.iconst 1, 1) := by decide +kernel
theorem dX14_found_51 : decode cX14_found 51 = .ok (.invokevirtual 351, 3) := by decide +kernel
theorem dX14_found_54 : decode cX14_found 54 = .ok (.ireturn, 1) := by decide +kernel
theorem dX14_found_55 : decode cX14_found 55 = .ok (.aload_n 0, 1) := by decide +kernel
theorem dX14_found_56 : decode cX14_found 56 = .ok (.iconst 1, 1) := by decide +kernel
theorem dX14_found_57 : decode cX14_found 57 = .ok (.iload_n 2, 1) := by decide +kernel
theorem dX14_found_58 : decode cX14_found 58 = .ok (.isub, 1) := by decide +kernel
theorem dX14_found_59 : decode cX14_found 59 = .ok (.iconst 1, 1) := by decide +kernel
theorem dX14_found_60 : decode cX14_found 60 = .ok (.invokevirtual 351, 3) := by decide +kernel
theorem dX14_found_63 : decode cX14_found 63 = .ok (.ireturn, 1) := by decide +kernel
theorem dX14_found_64 : decode cX14_found 64 = .ok (.aload_n 0, 1) := by decide +kernel
theorem dX14_found_65 : decode cX14_found 65 = .ok (.iload_n 2, 1) := by decide +kernel
theorem dX14_found_66 : decode cX14_found 66 = .ok (.invokevirtual 355, 3) := by decide +kernel
theorem dX14_found_69 : decode cX14_found 69 = .ok (.ireturn, 1) := by decide +kernel
theorem dX14_found_70 : decode cX14_found 70 = .ok (.aload_n 0, 1) := by decide +kernel
theorem dX14_found_71 : decode cX14_found 71 = .ok (.iload_n 2, 1) := by decide +kernel
theorem dX14_found_72 : decode cX14_found 72 = .ok (.invokevirtual 358, 3) := by decide +kernel
theorem dX14_found_75 : decode cX14_found 75 = .ok (.ireturn, 1) := by decide +kernel
theorem dX14_found_76 : decode cX14_found 76 = .ok (.aload_n 0, 1) := by decide +kernel
theorem dX14_found_77 : decode cX14_found 77 = .ok (.aload_n 0, 1) := by decide +kernel
theorem dX14_found_78 : decode cX14_found 78 = .ok (.getfield 36, 3) := by decide +kernel
theorem dX14_found_81 : decode cX14_found 81 = .ok (.aload_n 0, 1) := by decide +kernel
theorem dX14_found_82 : decode cX14_found 82 = .ok (.getfield 29, 3) := by decide +kernel
theorem dX14_found_85 : decode cX14_found 85 = .ok (.getfield 231, 3) := by decide +kernel
theorem dX14_found_88 : decode cX14_found 88 = .ok (.iload_n 1, 1) := by decide +kernel
theorem dX14_found_89 : decode cX14_found 89 = .ok (.iaload, 1) := by decide +kernel
theorem dX14_found_90 : decode cX14_found 90 = .ok (.iaload, 1) := by decide +kernel
theorem dX14_found_91 : decode cX14_found 91 = .ok (.aload_n 0, 1) := by decide +kernel
theorem dX14_found_92 : decode cX14_found 92 = .ok (.getfield 29, 3) := by decide +kernel
theorem dX14_found_95 : decode cX14_found 95 = .ok (.getfield 208, 3) := by decide +kernel
theorem dX14_found_98 : decode cX14_found 98 = .ok (.invokestatic 361, 3) := by decide +kernel
theorem dX14_found_101 : decode cX14_found 101 = .ok (.aload_n 0, 1) := by decide +kernel
theorem dX14_found_102 : decode cX14_found 102 = .ok (.getfield 36, 3) := by decide +kernel
theorem dX14_found_105 : decode cX14_found 105 = .ok (.aload_n 0, 1) := by decide +kernel
theorem dX14_found_106 : decode cX14_found 106 = .ok (.getfield 29, 3) := by decide +kernel
theorem dX14_found_109 : decode cX14_found 109 = .ok (.getfield 234, 3) := by decide +kernel
theorem dX14_found_112 : decode cX14_found 112 = .ok (.iload_n 1, 1) := by decide +kernel
theorem dX14_found_113 : decode cX14_found 113 = .ok (.iaload, 1) := by decide +kernel
theorem dX14_found_114 : decode cX14_found 114 = .ok (.iaload, 1) := by decide +kernel
theorem dX14_found_115 : decode cX14_found 115 = .ok (.aload_n 0, 1) := by decide +kernel
theorem dX14_found_116 : decode cX14_found 116 = .ok (.getfield 29, 3) := by decide +kernel
theorem dX14_found_119 : decode cX14_found 119 = .ok (.getfield 211, 3) := by decide +kernel
theorem dX14_found_122 : decode cX14_found 122 = .ok (.invokestatic 361, 3) := by decide +kernel
theorem dX14_found_125 : decode cX14_found 125 = .ok (.invokevirtual 288, 3) := by decide +kernel
theorem dX14_found_128 : decode cX14_found 128 = .ok (.istore_n 3, 1) := by decide +kernel
theorem dX14_found_129 : decode cX14_found 129 = .ok (.aload_n 0, 1) := by decide +kernel
theorem dX14_found_130 : decode cX14_found 130 = .ok (.getfield 39, 3) := by decide +kernel
theorem dX14_found_133 : decode cX14_found 133 = .ok (.iload_n 3, 1) := by decide +kernel
theorem dX14_found_134 : decode cX14_found 134 = .ok (.iaload, 1) := by decide +kernel
theorem dX14_found_135 : decode cX14_found 135 = .ok (.iconst (-1), 1) := by decide +kernel
theorem dX14_found_136 : decode cX14_found 136 = .ok (.if_icmp .ne 7, 3) := by decide +kernel
theorem dX14_found_139 : decode cX14_found 139 = .ok (.iload_n 3, 1) := by decide +kernel
theorem dX14_found_140 : decode cX14_found 140 = .ok (.goto 4, 3) := by decide +kernel
theorem dX14_found_143 : decode cX14_found 143 = .ok (.iconst (-1), 1) := by decide +kernel
theorem dX14_found_144 : decode cX14_found 144 = .ok (.ireturn, 1) := by decide +kernel
theorem dX14_planned_0 : decode cX14_planned 0 = .ok (.iconst 0, 1) := by decide +kernel
theorem dX14_planned_1 : decode cX14_planned 1 = .ok (.istore_n 2, 1) := by decide +kernel
theorem dX14_planned_2 : decode cX14_planned 2 = .ok (.iload_n 2, 1) := by decide +kernel
theorem dX14_planned_3 : decode cX14_planned 3 = .ok (.aload_n 0, 1) := by decide +kernel
theorem dX14_planned_4 : decode cX14_planned 4 = .ok (.getfield 29, 3) := by decide +kernel
theorem dX14_planned_7 : decode cX14_planned 7 = .ok (.getfield 215, 3) := by decide +kernel
theorem dX14_planned_10 : decode cX14_planned 10 = .ok (.if_icmp .ge 137, 3) := by decide +kernel
theorem dX14_planned_13 : decode cX14_planned 13 = .ok (.aload_n 0, 1) := by decide +kernel
theorem dX14_planned_14 : decode cX14_planned 14 = .ok (.getfield 29, 3) := by decide +kernel
theorem dX14_planned_17 : decode cX14_planned 17 = .ok (.getfield 226, 3) := by decide +kernel
theorem dX14_planned_20 : decode cX14_planned 20 = .ok (.iload_n 2, 1) := by decide +kernel
theorem dX14_planned_21 : decode cX14_planned 21 = .ok (.iaload, 1) := by decide +kernel
theorem dX14_planned_22 : decode cX14_planned 22 = .ok (.iload_n 1, 1) := by decide +kernel
theorem dX14_planned_23 : decode cX14_planned 23 = .ok (.if_icmp .eq 6, 3) := by decide +kernel
theorem dX14_planned_26 : decode cX14_planned 26 = .ok (.goto 115, 3) := by decide +kernel
theorem dX14_planned_29 : decode cX14_planned 29 = .ok (.aload_n 0, 1) := by decide +kernel
theorem dX14_planned_30 : decode cX14_planned 30 = .ok (.getfield 29, 3) := by decide +kernel
theorem dX14_planned_33 : decode cX14_planned 33 = .ok (.getfield 223, 3) := by decide +kernel
theorem dX14_planned_36 : decode cX14_planned 36 = .ok (.iload_n 2, 1) := by decide +kernel
theorem dX14_planned_37 : decode cX14_planned 37 = .ok (.iaload, 1) := by decide +kernel
theorem dX14_planned_38 : decode cX14_planned 38 = .ok (.istore_n 3, 1) := by decide +kernel
theorem dX14_planned_39 : decode cX14_planned 39 = .ok (.iload_n 3, 1) := by decide +kernel
theorem dX14_planned_40 : decode cX14_planned 40 = .ok (.aload_n 0, 1) := by decide +kernel
theorem dX14_planned_41 : decode cX14_planned 41 = .ok (.getfield 29, 3) := by decide +kernel
theorem dX14_planned_44 : decode cX14_planned 44 = .ok (.getfield 239, 3) := by decide +kernel
theorem dX14_planned_47 : decode cX14_planned 47 = .ok (.iload_n 2, 1) := by decide +kernel
theorem dX14_planned_48 : decode cX14_planned 48 = .ok (.iaload, 1) := by decide +kernel
theorem dX14_planned_49 : decode cX14_planned 49 = .ok (.if_icmp .ge 46, 3) := by decide +kernel
theorem dX14_planned_52 : decode cX14_planned 52 = .ok (.aload_n 0, 1) := by decide +kernel
theorem dX14_planned_53 : decode cX14_planned 53 = .ok (.getfield 36, 3) := by decide +kernel
theorem dX14_planned_56 : decode cX14_planned 56 = .ok (.iload_n 3, 1) := by decide +kernel
theorem dX14_planned_57 : decode cX14_planned 57 = .ok (.aload_n 0, 1) := by decide +kernel
theorem dX14_planned_58 : decode cX14_planned 58 = .ok (.aload_n 0, 1) := by decide +kernel
theorem dX14_planned_59 : decode cX14_planned 59 = .ok (.getfield 29, 3) := by decide +kernel
theorem dX14_planned_62 : decode cX14_planned 62 = .ok (.getfield 150, 3) := by decide +kernel
theorem dX14_planned_65 : decode cX14_planned 65 = .ok (.iload_n 3, 1) := by decide +kernel
theorem dX14_planned_66 : decode cX14_planned 66 = .ok (.iaload, 1) := by decide +kernel
theorem dX14_planned_67 : decode cX14_planned 67 = .ok (.aload_n 0, 1) := by decide +kernel
theorem dX14_planned_68 : decode cX14_planned 68 = .ok (.getfield 29, 3) := by decide +kernel
theorem dX14_planned_71 : decode cX14_planned 71 = .ok (.getfield 153, 3) := by decide +kernel
theorem dX14_planned_74 : decode cX14_planned 74 = .ok (.iload_n 3, 1) := by decide +kernel
theorem dX14_planned_75 : decode cX14_planned 75 = .ok (.iaload, 1) := by decide +kernel
theorem dX14_planned_76 : decode cX14_planned 76 = .ok (.aload_n 0, 1) := by decide +kernel
theorem dX14_planned_77 : decode cX14_planned 77 = .ok (.getfield 29, 3) := by decide +kernel
theorem dX14_planned_80 : decode cX14_planned 80 = .ok (.getfield 156, 3) := by decide +kernel
theorem dX14_planned_83 : decode cX14_planned 83 = .ok (.iload_n 3, 1) := by decide +kernel
theorem dX14_planned_84 : decode cX14_planned 84 = .ok (.iaload, 1) := by decide +kernel
theorem dX14_planned_85 : decode cX14_planned 85 = .ok (.invokevirtual 364, 3) := by decide +kernel
theorem dX14_planned_88 : decode cX14_planned 88 = .ok (.iastore, 1) := by decide +kernel
theorem dX14_planned_89 : decode cX14_planned 89 = .ok (.iinc 3 1, 3) := by decide +kernel
theorem dX14_planned_92 : decode cX14_planned 92 = .ok (.goto (-53), 3) := by decide +kernel
theorem dX14_planned_95 : decode cX14_planned 95 = .ok (.aload_n 0, 1) := by decide +kernel
theorem dX14_planned_96 : decode cX14_planned 96 = .ok (.getfield 29, 3) := by decide +kernel
theorem dX14_planned_99 : decode cX14_planned 99 = .ok (.getfield 237, 3) := by decide +kernel
theorem dX14_planned_102 : decode cX14_planned 102 = .ok (.iload_n 2, 1) := by decide +kernel
theorem dX14_planned_103 : decode cX14_planned 103 = .ok (.iaload, 1) := by decide +kernel
theorem dX14_planned_104 : decode cX14_planned 104 = .ok (.iconst (-1), 1) := by decide +kernel
theorem dX14_planned_105 : decode cX14_planned 105 = .ok (.if_icmp .eq 23, 3) := by decide +kernel
theorem dX14_planned_108 : decode cX14_planned 108 = .ok (.aload_n 0, 1) := by decide +kernel
theorem dX14_planned_109 : decode cX14_planned 109 = .ok (.getfield 36, 3) := by decide +kernel
theorem dX14_planned_112 : decode cX14_planned 112 = .ok (.aload_n 0, 1) := by decide +kernel
theorem dX14_planned_113 : decode cX14_planned 113 = .ok (.getfield 29, 3) := by decide +kernel
theorem dX14_planned_116 : decode cX14_planned 116 = .ok (.getfield 237, 3) := by decide +kernel
theorem dX14_planned_119 : decode cX14_planned 119 = .ok (.iload_n 2, 1) := by decide +kernel
theorem dX14_planned_120 : decode cX14_planned 120 = .ok (.iaload, 1) := by decide +kernel
theorem dX14_planned_121 : decode cX14_planned 121 = .ok (.iaload, 1) := by decide +kernel
theorem dX14_planned_122 : decode cX14_planned 122 = .ok (.ifCond .ne 6, 3) := by decide +kernel
theorem dX14_planned_125 : decode cX14_planned 125 = .ok (.goto 16, 3) := by decide +kernel
theorem dX14_planned_128 : decode cX14_planned 128 = .ok (.aload_n 0, 1) := by decide +kernel
theorem dX14_planned_129 : decode cX14_planned 129 = .ok (.iload_n 2, 1) := by decide +kernel
theorem dX14_planned_130 : decode cX14_planned 130 = .ok (.invokevirtual 367, 3) := by decide +kernel
theorem dX14_planned_133 : decode cX14_planned 133 = .ok (.istore_n 3, 1) := by decide +kernel
theorem dX14_planned_134 : decode cX14_planned 134 = .ok (.iload_n 3, 1) := by decide +kernel
theorem dX14_planned_135 : decode cX14_planned 135 = .ok (.iconst (-1), 1) := by decide +kernel
theorem dX14_planned_136 : decode cX14_planned 136 = .ok (.if_icmp .eq 5, 3) := by decide +kernel
theorem dX14_planned_139 : decode cX14_planned 139 = .ok (.iload_n 3, 1) := by decide +kernel
theorem dX14_planned_140 : decode cX14_planned 140 = .ok (.ireturn, 1) := by decide +kernel
theorem dX14_planned_141 : decode cX14_planned 141 = .ok (.iinc 2 1, 3) := by decide +kernel
theorem dX14_planned_144 : decode cX14_planned 144 = .ok (.goto (-142), 3) := by decide +kernel
theorem dX14_planned_147 : decode cX14_planned 147 = .ok (.iconst (-1), 1) := by decide +kernel
theorem dX14_planned_148 : decode cX14_planned 148 = .ok (.ireturn, 1) := by decide +kernel
theorem dX14_play_0 : decode cX14_play 0 = .ok (.iconst 0, 1) := by decide +kernel
theorem dX14_play_1 : decode cX14_play 1 = .ok (.istore_n 3, 1) := by decide +kernel
theorem dX14_play_2 : decode cX14_play 2 = .ok (.iload_n 3, 1) := by decide +kernel
theorem dX14_play_3 : decode cX14_play 3 = .ok (.iload_n 1, 1) := by decide +kernel
theorem dX14_play_4 : decode cX14_play 4 = .ok (.if_icmp .ge 75, 3) := by decide +kernel
theorem dX14_play_7 : decode cX14_play 7 = .ok (.aload_n 0, 1) := by decide +kernel
theorem dX14_play_8 : decode cX14_play 8 = .ok (.invokevirtual 370, 3) := by decide +kernel
theorem dX14_play_11 : decode cX14_play 11 = .ok (.ifCond .ne 68, 3) := by decide +kernel
theorem dX14_play_14 : decode cX14_play 14 = .ok (.aload_n 0, 1) := by decide +kernel
theorem dX14_play_15 : decode cX14_play 15 = .ok (.invokevirtual 374, 3) := by decide +kernel
theorem dX14_play_18 : decode cX14_play 18 = .ok (.istore 4, 2) := by decide +kernel
theorem dX14_play_20 : decode cX14_play 20 = .ok (.aload_n 0, 1) := by decide +kernel
theorem dX14_play_21 : decode cX14_play 21 = .ok (.iload 4, 2) := by decide +kernel
theorem dX14_play_23 : decode cX14_play 23 = .ok (.invokevirtual 377, 3) := by decide +kernel
theorem dX14_play_26 : decode cX14_play 26 = .ok (.istore 5, 2) := by decide +kernel
theorem dX14_play_28 : decode cX14_play 28 = .ok (.iload 5, 2) := by decide +kernel
theorem dX14_play_30 : decode cX14_play 30 = .ok (.iconst (-1), 1) := by decide +kernel
theorem dX14_play_31 : decode cX14_play 31 = .ok (.if_icmp .ne 5, 3) := by decide +kernel
theorem dX14_play_34 : decode cX14_play 34 = .ok (.iload_n 3, 1) := by decide +kernel
theorem dX14_play_35 : decode cX14_play 35 = .ok (.ireturn, 1) := by decide +kernel
theorem dX14_play_36 : decode cX14_play 36 = .ok (.aload_n 0, 1) := by decide +kernel
theorem dX14_play_37 : decode cX14_play 37 = .ok (.getfield 39, 3) := by decide +kernel
theorem dX14_play_40 : decode cX14_play 40 = .ok (.iload 5, 2) := by decide +kernel
theorem dX14_play_42 : decode cX14_play 42 = .ok (.iload 4, 2) := by decide +kernel
theorem dX14_play_44 : decode cX14_play 44 = .ok (.iastore, 1) := by decide +kernel
theorem dX14_play_45 : decode cX14_play 45 = .ok (.iinc 3 1, 3) := by decide +kernel
theorem dX14_play_48 : decode cX14_play 48 = .ok (.iload_n 2, 1) := by decide +kernel
theorem dX14_play_49 : decode cX14_play 49 = .ok (.ifCond .ne 6, 3) := by decide +kernel
theorem dX14_play_52 : decode cX14_play 52 = .ok (.goto (-50), 3) := by decide +kernel
theorem dX14_play_55 : decode cX14_play 55 = .ok (.aload_n 0, 1) := by decide +kernel
theorem dX14_play_56 : decode cX14_play 56 = .ok (.getfield 42, 3) := by decide +kernel
theorem dX14_play_59 : decode cX14_play 59 = .ok (.aload_n 0, 1) := by decide +kernel
theorem dX14_play_60 : decode cX14_play 60 = .ok (.getfield 269, 3) := by decide +kernel
theorem dX14_play_63 : decode cX14_play 63 = .ok (.iload 5, 2) := by decide +kernel
theorem dX14_play_65 : decode cX14_play 65 = .ok (.iastore, 1) := by decide +kernel
theorem dX14_play_66 : decode cX14_play 66 = .ok (.aload_n 0, 1) := by decide +kernel
theorem dX14_play_67 : decode cX14_play 67 = .ok (.dup, 1) := by decide +kernel
theorem dX14_play_68 : decode cX14_play 68 = .ok (.getfield 269, 3) := by decide +kernel
theorem dX14_play_71 : decode cX14_play 71 = .ok (.iconst 1, 1) := by decide +kernel
theorem dX14_play_72 : decode cX14_play 72 = .ok (.iadd, 1) := by decide +kernel
theorem dX14_play_73 : decode cX14_play 73 = .ok (.putfield 269, 3) := by decide +kernel
theorem dX14_play_76 : decode cX14_play 76 = .ok (.goto (-74), 3) := by decide +kernel
theorem dX14_play_79 : decode cX14_play 79 = .ok (.iload_n 3, 1) := by decide +kernel
theorem dX14_play_80 : decode cX14_play 80 = .ok (.ireturn, 1) := by decide +kernel
theorem dX14_keep_0 : decode cX14_keep 0 = .ok (.aload_n 0, 1) := by decide +kernel
theorem dX14_keep_1 : decode cX14_keep 1 = .ok (.getfield 39, 3) := by decide +kernel
theorem dX14_keep_4 : decode cX14_keep 4 = .ok (.iconst 0, 1) := by decide +kernel
theorem dX14_keep_5 : decode cX14_keep 5 = .ok (.aload_n 0, 1) := by decide +kernel
theorem dX14_keep_6 : decode cX14_keep 6 = .ok (.getfield 45, 3) := by decide +kernel
theorem dX14_keep_9 : decode cX14_keep 9 = .ok (.iconst 0, 1) := by decide +kernel
theorem dX14_keep_10 : decode cX14_keep 10 = .ok (.bipush 81, 2) := by decide +kernel
theorem dX14_keep_12 : decode cX14_keep 12 = .ok (.invokestatic 263, 3) := by decide +kernel
theorem dX14_keep_15 : decode cX14_keep 15 = .ok (.return_, 1) := by decide +kernel
theorem dX14_bringBack_0 : decode cX14_bringBack 0 = .ok (.aload_n 0, 1) := by decide +kernel
theorem dX14_bringBack_1 : decode cX14_bringBack 1 = .ok (.getfield 45, 3) := by decide +kernel
theorem dX14_bringBack_4 : decode cX14_bringBack 4 = .ok (.iconst 0, 1) := by decide +kernel
theorem dX14_bringBack_5 : decode cX14_bringBack 5 = .ok (.aload_n 0, 1) := by decide +kernel
theorem dX14_bringBack_6 : decode cX14_bringBack 6 = .ok (.getfield 39, 3) := by decide +kernel
theorem dX14_bringBack_9 : decode cX14_bringBack 9 = .ok (.iconst 0, 1) := by decide +kernel
theorem dX14_bringBack_10 : decode cX14_bringBack 10 = .ok (.bipush 81, 2) := by decide +kernel
theorem dX14_bringBack_12 : decode cX14_bringBack 12 = .ok (.invokestatic 263, 3) := by decide +kernel
theorem dX14_bringBack_15 : decode cX14_bringBack 15 = .ok (.return_, 1) := by decide +kernel
theorem dX14_columns_0 : decode cX14_columns 0 = .ok (.aload_n 0, 1) := by decide +kernel
theorem dX14_columns_1 : decode cX14_columns 1 = .ok (.aload_n 0, 1) := by decide +kernel
theorem dX14_columns_2 : decode cX14_columns 2 = .ok (.getfield 29, 3) := by decide +kernel
theorem dX14_columns_5 : decode cX14_columns 5 = .ok (.getfield 208, 3) := by decide +kernel
theorem dX14_columns_8 : decode cX14_columns 8 = .ok (.invokevirtual 272, 3) := by decide +kernel
theorem dX14_columns_11 : decode cX14_columns 11 = .ok (.ireturn, 1) := by decide +kernel
theorem dX14_rows_0 : decode cX14_rows 0 = .ok (.aload_n 0, 1) := by decide +kernel
theorem dX14_rows_1 : decode cX14_rows 1 = .ok (.aload_n 0, 1) := by decide +kernel
theorem dX14_rows_2 : decode cX14_rows 2 = .ok (.getfield 29, 3) := by decide +kernel
theorem dX14_rows_5 : decode cX14_rows 5 = .ok (.getfield 211, 3) := by decide +kernel
theorem dX14_rows_8 : decode cX14_rows 8 = .ok (.invokevirtual 272, 3) := by decide +kernel
theorem dX14_rows_11 : decode cX14_rows 11 = .ok (.ireturn, 1) := by decide +kernel
theorem dX14_plans_0 : decode cX14_plans 0 = .ok (.aload_n 0, 1) := by decide +kernel
theorem dX14_plans_1 : decode cX14_plans 1 = .ok (.aload_n 0, 1) := by decide +kernel
theorem dX14_plans_2 : decode cX14_plans 2 = .ok (.getfield 29, 3) := by decide +kernel
theorem dX14_plans_5 : decode cX14_plans 5 = .ok (.getfield 215, 3) := by decide +kernel
theorem dX14_plans_8 : decode cX14_plans 8 = .ok (.invokevirtual 272, 3) := by decide +kernel
theorem dX14_plans_11 : decode cX14_plans 11 = .ok (.ireturn, 1) := by decide +kernel
theorem dX14_stonesToTakeBack_0 : decode cX14_stonesToTakeBack 0 = .ok (.aload_n 0, 1) := by decide +kernel
theorem dX14_stonesToTakeBack_1 : decode cX14_stonesToTakeBack 1 = .ok (.aload_n 0, 1) := by decide +kernel
theorem dX14_stonesToTakeBack_2 : decode cX14_stonesToTakeBack 2 = .ok (.getfield 269, 3) := by decide +kernel
theorem dX14_stonesToTakeBack_5 : decode cX14_stonesToTakeBack 5 = .ok (.invokevirtual 272, 3) := by decide +kernel
theorem dX14_stonesToTakeBack_8 : decode cX14_stonesToTakeBack 8 = .ok (.ireturn, 1) := by decide +kernel
theorem dX14_tapeBytes_0 : decode cX14_tapeBytes 0 = .ok (.aload_n 0, 1) := by decide +kernel
theorem dX14_tapeBytes_1 : decode cX14_tapeBytes 1 = .ok (.aload_n 0, 1) := by decide +kernel
theorem dX14_tapeBytes_2 : decode cX14_tapeBytes 2 = .ok (.getfield 80, 3) := by decide +kernel
theorem dX14_tapeBytes_5 : decode cX14_tapeBytes 5 = .ok (.invokevirtual 272, 3) := by decide +kernel
theorem dX14_tapeBytes_8 : decode cX14_tapeBytes 8 = .ok (.ireturn, 1) := by decide +kernel
theorem dX14_emptyCells_0 : decode cX14_emptyCells 0 = .ok (.aload_n 0, 1) := by decide +kernel
theorem dX14_emptyCells_1 : decode cX14_emptyCells 1 = .ok (.aload_n 0, 1) := by decide +kernel
theorem dX14_emptyCells_2 : decode cX14_emptyCells 2 = .ok (.iconst (-1), 1) := by decide +kernel
theorem dX14_emptyCells_3 : decode cX14_emptyCells 3 = .ok (.invokevirtual 307, 3) := by decide +kernel
theorem dX14_emptyCells_6 : decode cX14_emptyCells 6 = .ok (.invokevirtual 272, 3) := by decide +kernel
theorem dX14_emptyCells_9 : decode cX14_emptyCells 9 = .ok (.ireturn, 1) := by decide +kernel
theorem dX14_stonesOf_0 : decode cX14_stonesOf 0 = .ok (.aload_n 0, 1) := by decide +kernel
theorem dX14_stonesOf_1 : decode cX14_stonesOf 1 = .ok (.iconst 0, 1) := by decide +kernel
theorem dX14_stonesOf_2 : decode cX14_stonesOf 2 = .ok (.putfield 73, 3) := by decide +kernel
theorem dX14_stonesOf_5 : decode cX14_stonesOf 5 = .ok (.iload_n 1, 1) := by decide +kernel
theorem dX14_stonesOf_6 : decode cX14_stonesOf 6 = .ok (.invokestatic 380, 3) := by decide +kernel
theorem dX14_stonesOf_9 : decode cX14_stonesOf 9 = .ok (.ifCond .eq 11, 3) := by decide +kernel
theorem dX14_stonesOf_12 : decode cX14_stonesOf 12 = .ok (.aload_n 0, 1) := by decide +kernel
theorem dX14_stonesOf_13 : decode cX14_stonesOf 13 = .ok (.iload_n 1, 1) := by decide +kernel
theorem dX14_stonesOf_14 : decode cX14_stonesOf 14 = .ok (.invokevirtual 307, 3) := by decide +kernel
theorem dX14_stonesOf_17 : decode cX14_stonesOf 17 = .ok (.goto 8, 3) := by decide +kernel
theorem dX14_stonesOf_20 : decode cX14_stonesOf 20 = .ok (.aload_n 0, 1) := by decide +kernel
theorem dX14_stonesOf_21 : decode cX14_stonesOf 21 = .ok (.iconst 1, 1) := by decide +kernel
theorem dX14_stonesOf_22 : decode cX14_stonesOf 22 = .ok (.invokevirtual 250, 3) := by decide +kernel
theorem dX14_stonesOf_25 : decode cX14_stonesOf 25 = .ok (.ireturn, 1) := by decide +kernel
theorem dX14_isEmpty_0 : decode cX14_isEmpty 0 = .ok (.aload_n 0, 1) := by decide +kernel
theorem dX14_isEmpty_1 : decode cX14_isEmpty 1 = .ok (.iconst 0, 1) := by decide +kernel
theorem dX14_isEmpty_2 : decode cX14_isEmpty 2 = .ok (.putfield 73, 3) := by decide +kernel
theorem dX14_isEmpty_5 : decode cX14_isEmpty 5 = .ok (.aload_n 0, 1) := by decide +kernel
theorem dX14_isEmpty_6 : decode cX14_isEmpty 6 = .ok (.iload_n 1, 1) := by decide +kernel
theorem dX14_isEmpty_7 : decode cX14_isEmpty 7 = .ok (.iload_n 2, 1) := by decide +kernel
theorem dX14_isEmpty_8 : decode cX14_isEmpty 8 = .ok (.invokevirtual 284, 3) := by decide +kernel
theorem dX14_isEmpty_11 : decode cX14_isEmpty 11 = .ok (.ifCond .eq 26, 3) := by decide +kernel
theorem dX14_isEmpty_14 : decode cX14_isEmpty 14 = .ok (.aload_n 0, 1) := by decide +kernel
theorem dX14_isEmpty_15 : decode cX14_isEmpty 15 = .ok (.getfield 39, 3) := by decide +kernel
theorem dX14_isEmpty_18 : decode cX14_isEmpty 18 = .ok (.aload_n 0, 1) := by decide +kernel
theorem dX14_isEmpty_19 : decode cX14_isEmpty 19 = .ok (.iload_n 1, 1) := by decide +kernel
theorem dX14_isEmpty_20 : decode cX14_isEmpty 20 = .ok (.iload_n 2, 1) := by decide +kernel
theorem dX14_isEmpty_21 : decode cX14_isEmpty 21 = .ok (.invokevirtual 288, 3) := by decide +kernel
theorem dX14_isEmpty_24 : decode cX14_isEmpty 24 = .ok (.iaload, 1) := by decide +kernel
theorem dX14_isEmpty_25 : decode cX14_isEmpty 25 = .ok (.iconst (-1), 1) := by decide +kernel
theorem dX14_isEmpty_26 : decode cX14_isEmpty 26 = .ok (.if_icmp .ne 7, 3) := by decide +kernel
theorem dX14_isEmpty_29 : decode cX14_isEmpty 29 = .ok (.iconst 1, 1) := by decide +kernel
theorem dX14_isEmpty_30 : decode cX14_isEmpty 30 = .ok (.goto 12, 3) := by decide +kernel
theorem dX14_isEmpty_33 : decode cX14_isEmpty 33 = .ok (.iconst 0, 1) := by decide +kernel
theorem dX14_isEmpty_34 : decode cX14_isEmpty 34 = .ok (.goto 8, 3) := by decide +kernel
theorem dX14_isEmpty_37 : decode cX14_isEmpty 37 = .ok (.aload_n 0, 1) := by decide +kernel
theorem dX14_isEmpty_38 : decode cX14_isEmpty 38 = .ok (.iconst 1, 1) := by decide +kernel
theorem dX14_isEmpty_39 : decode cX14_isEmpty 39 = .ok (.invokevirtual 383, 3) := by decide +kernel
theorem dX14_isEmpty_42 : decode cX14_isEmpty 42 = .ok (.ireturn, 1) := by decide +kernel
theorem dX14_stoneAt_0 : decode cX14_stoneAt 0 = .ok (.aload_n 0, 1) := by decide +kernel
theorem dX14_stoneAt_1 : decode cX14_stoneAt 1 = .ok (.aload_n 0, 1) := by decide +kernel
theorem dX14_stoneAt_2 : decode cX14_stoneAt 2 = .ok (.iload_n 1, 1) := by decide +kernel
theorem dX14_stoneAt_3 : decode cX14_stoneAt 3 = .ok (.iload_n 2, 1) := by decide +kernel
theorem dX14_stoneAt_4 : decode cX14_stoneAt 4 = .ok (.invokevirtual 284, 3) := by decide +kernel
theorem dX14_stoneAt_7 : decode cX14_stoneAt 7 = .ok (.ifCond .ne 7, 3) := by decide +kernel
theorem dX14_stoneAt_10 : decode cX14_stoneAt 10 = .ok (.iconst 1, 1) := by decide +kernel
theorem dX14_stoneAt_11 : decode cX14_stoneAt 11 = .ok (.goto 23, 3) := by decide +kernel
theorem dX14_stoneAt_14 : decode cX14_stoneAt 14 = .ok (.aload_n 0, 1) := by decide +kernel
theorem dX14_stoneAt_15 : decode cX14_stoneAt 15 = .ok (.getfield 39, 3) := by decide +kernel
theorem dX14_stoneAt_18 : decode cX14_stoneAt 18 = .ok (.aload_n 0, 1) := by decide +kernel
theorem dX14_stoneAt_19 : decode cX14_stoneAt 19 = .ok (.iload_n 1, 1) := by decide +kernel
theorem dX14_stoneAt_20 : decode cX14_stoneAt 20 = .ok (.iload_n 2, 1) := by decide +kernel
theorem dX14_stoneAt_21 : decode cX14_stoneAt 21 = .ok (.invokevirtual 288, 3) := by decide +kernel
theorem dX14_stoneAt_24 : decode cX14_stoneAt 24 = .ok (.iaload, 1) := by decide +kernel
theorem dX14_stoneAt_25 : decode cX14_stoneAt 25 = .ok (.iconst (-1), 1) := by decide +kernel
theorem dX14_stoneAt_26 : decode cX14_stoneAt 26 = .ok (.if_icmp .ne 7, 3) := by decide +kernel
theorem dX14_stoneAt_29 : decode cX14_stoneAt 29 = .ok (.iconst 2, 1) := by decide +kernel
theorem dX14_stoneAt_30 : decode cX14_stoneAt 30 = .ok (.goto 4, 3) := by decide +kernel
theorem dX14_stoneAt_33 : decode cX14_stoneAt 33 = .ok (.iconst 0, 1) := by decide +kernel
theorem dX14_stoneAt_34 : decode cX14_stoneAt 34 = .ok (.putfield 73, 3) := by decide +kernel
theorem dX14_stoneAt_37 : decode cX14_stoneAt 37 = .ok (.aload_n 0, 1) := by decide +kernel
theorem dX14_stoneAt_38 : decode cX14_stoneAt 38 = .ok (.getfield 73, 3) := by decide +kernel
theorem dX14_stoneAt_41 : decode cX14_stoneAt 41 = .ok (.ifCond .ne 17, 3) := by decide +kernel
theorem dX14_stoneAt_44 : decode cX14_stoneAt 44 = .ok (.aload_n 0, 1) := by decide +kernel
theorem dX14_stoneAt_45 : decode cX14_stoneAt 45 = .ok (.getfield 39, 3) := by decide +kernel
theorem dX14_stoneAt_48 : decode cX14_stoneAt 48 = .ok (.aload_n 0, 1) := by decide +kernel
theorem dX14_stoneAt_49 : decode cX14_stoneAt 49 = .ok (.iload_n 1, 1) := by decide +kernel
theorem dX14_stoneAt_50 : decode cX14_stoneAt 50 = .ok (.iload_n 2, 1) := by decide +kernel
theorem dX14_stoneAt_51 : decode cX14_stoneAt 51 = .ok (.invokevirtual 288, 3) := by decide +kernel
theorem dX14_stoneAt_54 : decode cX14_stoneAt 54 = .ok (.iaload, 1) := by decide +kernel
theorem dX14_stoneAt_55 : decode cX14_stoneAt 55 = .ok (.goto 4, 3) := by decide +kernel
theorem dX14_stoneAt_58 : decode cX14_stoneAt 58 = .ok (.iconst 0, 1) := by decide +kernel
theorem dX14_stoneAt_59 : decode cX14_stoneAt 59 = .ok (.ireturn, 1) := by decide +kernel
theorem dX14_ownerOf_0 : decode cX14_ownerOf 0 = .ok (.aload_n 0, 1) := by decide +kernel
theorem dX14_ownerOf_1 : decode cX14_ownerOf 1 = .ok (.iload_n 1, 1) := by decide +kernel
theorem dX14_ownerOf_2 : decode cX14_ownerOf 2 = .ok (.iload_n 2, 1) := by decide +kernel
theorem dX14_ownerOf_3 : decode cX14_ownerOf 3 = .ok (.invokevirtual 386, 3) := by decide +kernel
theorem dX14_ownerOf_6 : decode cX14_ownerOf 6 = .ok (.ireturn, 1) := by decide +kernel
theorem dX14_hasWon_0 : decode cX14_hasWon 0 = .ok (.aload_n 0, 1) := by decide +kernel
theorem dX14_hasWon_1 : decode cX14_hasWon 1 = .ok (.iconst 0, 1) := by decide +kernel
theorem dX14_hasWon_2 : decode cX14_hasWon 2 = .ok (.putfield 73, 3) := by decide +kernel
theorem dX14_hasWon_5 : decode cX14_hasWon 5 = .ok (.iload_n 1, 1) := by decide +kernel
theorem dX14_hasWon_6 : decode cX14_hasWon 6 = .ok (.invokestatic 380, 3) := by decide +kernel
theorem dX14_hasWon_9 : decode cX14_hasWon 9 = .ok (.ifCond .eq 11, 3) := by decide +kernel
theorem dX14_hasWon_12 : decode cX14_hasWon 12 = .ok (.aload_n 0, 1) := by decide +kernel
theorem dX14_hasWon_13 : decode cX14_hasWon 13 = .ok (.iload_n 1, 1) := by decide +kernel
theorem dX14_hasWon_14 : decode cX14_hasWon 14 = .ok (.invokevirtual 304, 3) := by decide +kernel
theorem dX14_hasWon_17 : decode cX14_hasWon 17 = .ok (.goto 8, 3) := by decide +kernel
theorem dX14_hasWon_20 : decode cX14_hasWon 20 = .ok (.aload_n 0, 1) := by decide +kernel
theorem dX14_hasWon_21 : decode cX14_hasWon 21 = .ok (.iconst 1, 1) := by decide +kernel
theorem dX14_hasWon_22 : decode cX14_hasWon 22 = .ok (.invokevirtual 383, 3) := by decide +kernel
theorem dX14_hasWon_25 : decode cX14_hasWon 25 = .ok (.ireturn, 1) := by decide +kernel
theorem dX14_isOver_0 : decode cX14_isOver 0 = .ok (.aload_n 0, 1) := by decide +kernel
theorem dX14_isOver_1 : decode cX14_isOver 1 = .ok (.iconst 0, 1) := by decide +kernel
theorem dX14_isOver_2 : decode cX14_isOver 2 = .ok (.putfield 73, 3) := by decide +kernel
theorem dX14_isOver_5 : decode cX14_isOver 5 = .ok (.aload_n 0, 1) := by decide +kernel
theorem dX14_isOver_6 : decode cX14_isOver 6 = .ok (.invokevirtual 370, 3) := by decide +kernel
theorem dX14_isOver_9 : decode cX14_isOver 9 = .ok (.ireturn, 1) := by decide +kernel
theorem dX14_playerInTurn_0 : decode cX14_playerInTurn 0 = .ok (.aload_n 0, 1) := by decide +kernel
theorem dX14_playerInTurn_1 : decode cX14_playerInTurn 1 = .ok (.iconst 0, 1) := by decide +kernel
theorem dX14_playerInTurn_2 : decode cX14_playerInTurn 2 = .ok (.putfield 73, 3) := by decide +kernel
theorem dX14_playerInTurn_5 : decode cX14_playerInTurn 5 = .ok (.aload_n 0, 1) := by decide +kernel
theorem dX14_playerInTurn_6 : decode cX14_playerInTurn 6 = .ok (.invokevirtual 370, 3) := by decide +kernel
theorem dX14_playerInTurn_9 : decode cX14_playerInTurn 9 = .ok (.ifCond .eq 11, 3) := by decide +kernel
theorem dX14_playerInTurn_12 : decode cX14_playerInTurn 12 = .ok (.aload_n 0, 1) := by decide +kernel
theorem dX14_playerInTurn_13 : decode cX14_playerInTurn 13 = .ok (.iconst 1, 1) := by decide +kernel
theorem dX14_playerInTurn_14 : decode cX14_playerInTurn 14 = .ok (.invokevirtual 250, 3) := by decide +kernel
theorem dX14_playerInTurn_17 : decode cX14_playerInTurn 17 = .ok (.goto 7, 3) := by decide +kernel
theorem dX14_playerInTurn_20 : decode cX14_playerInTurn 20 = .ok (.aload_n 0, 1) := by decide +kernel
theorem dX14_playerInTurn_21 : decode cX14_playerInTurn 21 = .ok (.invokevirtual 374, 3) := by decide +kernel
theorem dX14_playerInTurn_24 : decode cX14_playerInTurn 24 = .ok (.ireturn, 1) := by decide +kernel
theorem dX14_stonesBeside_0 : decode cX14_stonesBeside 0 = .ok (.aload_n 0, 1) := by decide +kernel
theorem dX14_stonesBeside_1 : decode cX14_stonesBeside 1 = .ok (.iconst 0, 1) := by decide +kernel
theorem dX14_stonesBeside_2 : decode cX14_stonesBeside 2 = .ok (.putfield 73, 3) := by decide +kernel
theorem dX14_stonesBeside_5 : decode cX14_stonesBeside 5 = .ok (.iload_n 1, 1) := by decide +kernel
theorem dX14_stonesBeside_6 : decode cX14_stonesBeside 6 = .ok (.invokestatic 380, 3) := by decide +kernel
theorem dX14_stonesBeside_9 : decode cX14_stonesBeside 9 = .ok (.ifCond .eq 12, 3) := by decide +kernel
theorem dX14_stonesBeside_12 : decode cX14_stonesBeside 12 = .ok (.aload_n 0, 1) := by decide +kernel
theorem dX14_stonesBeside_13 : decode cX14_stonesBeside 13 = .ok (.iload_n 2, 1) := by decide +kernel
theorem dX14_stonesBeside_14 : decode cX14_stonesBeside 14 = .ok (.iload_n 3, 1) := by decide +kernel
theorem dX14_stonesBeside_15 : decode cX14_stonesBeside 15 = .ok (.invokevirtual 284, 3) := by decide +kernel
theorem dX14_stonesBeside_18 : decode cX14_stonesBeside 18 = .ok (.ifCond .ne 9, 3) := by decide +kernel
theorem dX14_stonesBeside_21 : decode cX14_stonesBeside 21 = .ok (.aload_n 0, 1) := by decide +kernel
theorem dX14_stonesBeside_22 : decode cX14_stonesBeside 22 = .ok (.iconst 1, 1) := by decide +kernel
theorem dX14_stonesBeside_23 : decode cX14_stonesBeside 23 = .ok (.invokevirtual 250, 3) := by decide +kernel
theorem dX14_stonesBeside_26 : decode cX14_stonesBeside 26 = .ok (.ireturn, 1) := by decide +kernel
theorem dX14_stonesBeside_27 : decode cX14_stonesBeside 27 = .ok (.iconst 0, 1) := by decide +kernel
theorem dX14_stonesBeside_28 : decode cX14_stonesBeside 28 = .ok (.istore 4, 2) := by decide +kernel
theorem dX14_stonesBeside_30 : decode cX14_stonesBeside 30 = .ok (.iconst 0, 1) := by decide +kernel
theorem dX14_stonesBeside_31 : decode cX14_stonesBeside 31 = .ok (.istore 5, 2) := by decide +kernel
theorem dX14_stonesBeside_33 : decode cX14_stonesBeside 33 = .ok (.iload 5, 2) := by decide +kernel
theorem dX14_stonesBeside_35 : decode cX14_stonesBeside 35 = .ok (.bipush 6, 2) := by decide +kernel
theorem dX14_stonesBeside_37 : decode cX14_stonesBeside 37 = .ok (.if_icmp .ge 50, 3) := by decide +kernel
theorem dX14_stonesBeside_40 : decode cX14_stonesBeside 40 = .ok (.aload_n 0, 1) := by decide +kernel
theorem dX14_stonesBeside_41 : decode cX14_stonesBeside 41 = .ok (.aload_n 0, 1) := by decide +kernel
theorem dX14_stonesBeside_42 : decode cX14_stonesBeside 42 = .ok (.iload_n 2, 1) := by decide +kernel
theorem dX14_stonesBeside_43 : decode cX14_stonesBeside 43 = .ok (.iload_n 3, 1) := by decide +kernel
theorem dX14_stonesBeside_44 : decode cX14_stonesBeside 44 = .ok (.invokevirtual 288, 3) := by decide +kernel
theorem dX14_stonesBeside_47 : decode cX14_stonesBeside 47 = .ok (.iload 5, 2) := by decide +kernel
theorem dX14_stonesBeside_49 : decode cX14_stonesBeside 49 = .ok (.invokevirtual 297, 3) := by decide +kernel
theorem dX14_stonesBeside_52 : decode cX14_stonesBeside 52 = .ok (.istore 6, 2) := by decide +kernel
theorem dX14_stonesBeside_54 : decode cX14_stonesBeside 54 = .ok (.iload 4, 2) := by decide +kernel
theorem dX14_stonesBeside_56 : decode cX14_stonesBeside 56 = .ok (.iload 6, 2) := by decide +kernel
theorem dX14_stonesBeside_58 : decode cX14_stonesBeside 58 = .ok (.iconst (-1), 1) := by decide +kernel
theorem dX14_stonesBeside_59 : decode cX14_stonesBeside 59 = .ok (.if_icmp .eq 18, 3) := by decide +kernel
theorem dX14_stonesBeside_62 : decode cX14_stonesBeside 62 = .ok (.aload_n 0, 1) := by decide +kernel
theorem dX14_stonesBeside_63 : decode cX14_stonesBeside 63 = .ok (.getfield 39, 3) := by decide +kernel
theorem dX14_stonesBeside_66 : decode cX14_stonesBeside 66 = .ok (.iload 6, 2) := by decide +kernel
theorem dX14_stonesBeside_68 : decode cX14_stonesBeside 68 = .ok (.iaload, 1) := by decide +kernel
theorem dX14_stonesBeside_69 : decode cX14_stonesBeside 69 = .ok (.iload_n 1, 1) := by decide +kernel
theorem dX14_stonesBeside_70 : decode cX14_stonesBeside 70 = .ok (.if_icmp .ne 7, 3) := by decide +kernel
theorem dX14_stonesBeside_73 : decode cX14_stonesBeside 73 = .ok (.iconst 1, 1) := by decide +kernel
theorem dX14_stonesBeside_74 : decode cX14_stonesBeside 74 = .ok (.goto 4, 3) := by decide +kernel
theorem dX14_stonesBeside_77 : decode cX14_stonesBeside 77 = .ok (.iconst 0, 1) := by decide +kernel
theorem dX14_stonesBeside_78 : decode cX14_stonesBeside 78 = .ok (.iadd, 1) := by decide +kernel
theorem dX14_stonesBeside_79 : decode cX14_stonesBeside 79 = .ok (.istore 4, 2) := by decide +kernel
theorem dX14_stonesBeside_81 : decode cX14_stonesBeside 81 = .ok (.iinc 5 1, 3) := by decide +kernel
theorem dX14_stonesBeside_84 : decode cX14_stonesBeside 84 = .ok (.goto (-51), 3) := by decide +kernel
theorem dX14_stonesBeside_87 : decode cX14_stonesBeside 87 = .ok (.iload 4, 2) := by decide +kernel
theorem dX14_stonesBeside_89 : decode cX14_stonesBeside 89 = .ok (.ireturn, 1) := by decide +kernel
theorem dX14_groupSize_0 : decode cX14_groupSize 0 = .ok (.aload_n 0, 1) := by decide +kernel
theorem dX14_groupSize_1 : decode cX14_groupSize 1 = .ok (.iload_n 1, 1) := by decide +kernel
theorem dX14_groupSize_2 : decode cX14_groupSize 2 = .ok (.iload_n 2, 1) := by decide +kernel
theorem dX14_groupSize_3 : decode cX14_groupSize 3 = .ok (.invokevirtual 386, 3) := by decide +kernel
theorem dX14_groupSize_6 : decode cX14_groupSize 6 = .ok (.istore_n 3, 1) := by decide +kernel
theorem dX14_groupSize_7 : decode cX14_groupSize 7 = .ok (.aload_n 0, 1) := by decide +kernel
theorem dX14_groupSize_8 : decode cX14_groupSize 8 = .ok (.getfield 73, 3) := by decide +kernel
theorem dX14_groupSize_11 : decode cX14_groupSize 11 = .ok (.ifCond .le 5, 3) := by decide +kernel
theorem dX14_groupSize_14 : decode cX14_groupSize 14 = .ok (.iconst 0, 1) := by decide +kernel
theorem dX14_groupSize_15 : decode cX14_groupSize 15 = .ok (.ireturn, 1) := by decide +kernel
theorem dX14_groupSize_16 : decode cX14_groupSize 16 = .ok (.aload_n 0, 1) := by decide +kernel
theorem dX14_groupSize_17 : decode cX14_groupSize 17 = .ok (.iload_n 3, 1) := by decide +kernel
theorem dX14_groupSize_18 : decode cX14_groupSize 18 = .ok (.invokevirtual 389, 3) := by decide +kernel
theorem dX14_groupSize_21 : decode cX14_groupSize 21 = .ok (.aload_n 0, 1) := by decide +kernel
theorem dX14_groupSize_22 : decode cX14_groupSize 22 = .ok (.getfield 57, 3) := by decide +kernel
theorem dX14_groupSize_25 : decode cX14_groupSize 25 = .ok (.aload_n 0, 1) := by decide +kernel
theorem dX14_groupSize_26 : decode cX14_groupSize 26 = .ok (.getfield 54, 3) := by decide +kernel
theorem dX14_groupSize_29 : decode cX14_groupSize 29 = .ok (.aload_n 0, 1) := by decide +kernel
theorem dX14_groupSize_30 : decode cX14_groupSize 30 = .ok (.iload_n 1, 1) := by decide +kernel
theorem dX14_groupSize_31 : decode cX14_groupSize 31 = .ok (.iload_n 2, 1) := by decide +kernel
theorem dX14_groupSize_32 : decode cX14_groupSize 32 = .ok (.invokevirtual 288, 3) := by decide +kernel
theorem dX14_groupSize_35 : decode cX14_groupSize 35 = .ok (.iaload, 1) := by decide +kernel
theorem dX14_groupSize_36 : decode cX14_groupSize 36 = .ok (.iaload, 1) := by decide +kernel
theorem dX14_groupSize_37 : decode cX14_groupSize 37 = .ok (.ireturn, 1) := by decide +kernel
theorem dX14_shoresOf_0 : decode cX14_shoresOf 0 = .ok (.aload_n 0, 1) := by decide +kernel
theorem dX14_shoresOf_1 : decode cX14_shoresOf 1 = .ok (.iload_n 1, 1) := by decide +kernel
theorem dX14_shoresOf_2 : decode cX14_shoresOf 2 = .ok (.iload_n 2, 1) := by decide +kernel
theorem dX14_shoresOf_3 : decode cX14_shoresOf 3 = .ok (.invokevirtual 386, 3) := by decide +kernel
theorem dX14_shoresOf_6 : decode cX14_shoresOf 6 = .ok (.istore_n 3, 1) := by decide +kernel
theorem dX14_shoresOf_7 : decode cX14_shoresOf 7 = .ok (.aload_n 0, 1) := by decide +kernel
theorem dX14_shoresOf_8 : decode cX14_shoresOf 8 = .ok (.getfield 73, 3) := by decide +kernel
theorem dX14_shoresOf_11 : decode cX14_shoresOf 11 = .ok (.ifCond .le 5, 3) := by decide +kernel
theorem dX14_shoresOf_14 : decode cX14_shoresOf 14 = .ok (.iconst 0, 1) := by decide +kernel
theorem dX14_shoresOf_15 : decode cX14_shoresOf 15 = .ok (.ireturn, 1) := by decide +kernel
theorem dX14_shoresOf_16 : decode cX14_shoresOf 16 = .ok (.aload_n 0, 1) := by decide +kernel
theorem dX14_shoresOf_17 : decode cX14_shoresOf 17 = .ok (.iload_n 3, 1) := by decide +kernel
theorem dX14_shoresOf_18 : decode cX14_shoresOf 18 = .ok (.invokevirtual 389, 3) := by decide +kernel
theorem dX14_shoresOf_21 : decode cX14_shoresOf 21 = .ok (.aload_n 0, 1) := by decide +kernel
theorem dX14_shoresOf_22 : decode cX14_shoresOf 22 = .ok (.getfield 54, 3) := by decide +kernel
theorem dX14_shoresOf_25 : decode cX14_shoresOf 25 = .ok (.aload_n 0, 1) := by decide +kernel
theorem dX14_shoresOf_26 : decode cX14_shoresOf 26 = .ok (.iload_n 1, 1) := by decide +kernel
theorem dX14_shoresOf_27 : decode cX14_shoresOf 27 = .ok (.iload_n 2, 1) := by decide +kernel
theorem dX14_shoresOf_28 : decode cX14_shoresOf 28 = .ok (.invokevirtual 288, 3) := by decide +kernel
theorem dX14_shoresOf_31 : decode cX14_shoresOf 31 = .ok (.iaload, 1) := by decide +kernel
theorem dX14_shoresOf_32 : decode cX14_shoresOf 32 = .ok (.istore 4, 2) := by decide +kernel
theorem dX14_shoresOf_34 : decode cX14_shoresOf 34 = .ok (.aload_n 0, 1) := by decide +kernel
theorem dX14_shoresOf_35 : decode cX14_shoresOf 35 = .ok (.iload 4, 2) := by decide +kernel
theorem dX14_shoresOf_37 : decode cX14_shoresOf 37 = .ok (.iload_n 3, 1) := by decide +kernel
theorem dX14_shoresOf_38 : decode cX14_shoresOf 38 = .ok (.iconst 0, 1) := by decide +kernel
theorem dX14_shoresOf_39 : decode cX14_shoresOf 39 = .ok (.invokevirtual 392, 3) := by decide +kernel
theorem dX14_shoresOf_42 : decode cX14_shoresOf 42 = .ok (.ifCond .eq 7, 3) := by decide +kernel
theorem dX14_shoresOf_45 : decode cX14_shoresOf 45 = .ok (.iconst 1, 1) := by decide +kernel
theorem dX14_shoresOf_46 : decode cX14_shoresOf 46 = .ok (.goto 4, 3) := by decide +kernel
theorem dX14_shoresOf_49 : decode cX14_shoresOf 49 = .ok (.iconst 0, 1) := by decide +kernel
theorem dX14_shoresOf_50 : decode cX14_shoresOf 50 = .ok (.aload_n 0, 1) := by decide +kernel
theorem dX14_shoresOf_51 : decode cX14_shoresOf 51 = .ok (.iload 4, 2) := by decide +kernel
theorem dX14_shoresOf_53 : decode cX14_shoresOf 53 = .ok (.iload_n 3, 1) := by decide +kernel
theorem dX14_shoresOf_54 : decode cX14_shoresOf 54 = .ok (.iconst 1, 1) := by decide +kernel
theorem dX14_shoresOf_55 : decode cX14_shoresOf 55 = .ok (.invokevirtual 392, 3) := by decide +kernel
theorem dX14_shoresOf_58 : decode cX14_shoresOf 58 = .ok (.ifCond .eq 7, 3) := by decide +kernel
theorem dX14_shoresOf_61 : decode cX14_shoresOf 61 = .ok (.iconst 1, 1) := by decide +kernel
theorem dX14_shoresOf_62 : decode cX14_shoresOf 62 = .ok (.goto 4, 3) := by decide +kernel
theorem dX14_shoresOf_65 : decode cX14_shoresOf 65 = .ok (.iconst 0, 1) := by decide +kernel
theorem dX14_shoresOf_66 : decode cX14_shoresOf 66 = .ok (.iadd, 1) := by decide +kernel
theorem dX14_shoresOf_67 : decode cX14_shoresOf 67 = .ok (.ireturn, 1) := by decide +kernel
theorem dX14_groupsThen_0 : decode cX14_groupsThen 0 = .ok (.aload_n 0, 1) := by decide +kernel
theorem dX14_groupsThen_1 : decode cX14_groupsThen 1 = .ok (.iload_n 1, 1) := by decide +kernel
theorem dX14_groupsThen_2 : decode cX14_groupsThen 2 = .ok (.invokevirtual 389, 3) := by decide +kernel
theorem dX14_groupsThen_5 : decode cX14_groupsThen 5 = .ok (.aload_n 0, 1) := by decide +kernel
theorem dX14_groupsThen_6 : decode cX14_groupsThen 6 = .ok (.getfield 291, 3) := by decide +kernel
theorem dX14_groupsThen_9 : decode cX14_groupsThen 9 = .ok (.ireturn, 1) := by decide +kernel
theorem dX14_groupsOf_0 : decode cX14_groupsOf 0 = .ok (.aload_n 0, 1) := by decide +kernel
theorem dX14_groupsOf_1 : decode cX14_groupsOf 1 = .ok (.iconst 0, 1) := by decide +kernel
theorem dX14_groupsOf_2 : decode cX14_groupsOf 2 = .ok (.putfield 73, 3) := by decide +kernel
theorem dX14_groupsOf_5 : decode cX14_groupsOf 5 = .ok (.iload_n 1, 1) := by decide +kernel
theorem dX14_groupsOf_6 : decode cX14_groupsOf 6 = .ok (.invokestatic 380, 3) := by decide +kernel
theorem dX14_groupsOf_9 : decode cX14_groupsOf 9 = .ok (.ifCond .eq 11, 3) := by decide +kernel
theorem dX14_groupsOf_12 : decode cX14_groupsOf 12 = .ok (.aload_n 0, 1) := by decide +kernel
theorem dX14_groupsOf_13 : decode cX14_groupsOf 13 = .ok (.iload_n 1, 1) := by decide +kernel
theorem dX14_groupsOf_14 : decode cX14_groupsOf 14 = .ok (.invokevirtual 395, 3) := by decide +kernel
theorem dX14_groupsOf_17 : decode cX14_groupsOf 17 = .ok (.goto 8, 3) := by decide +kernel
theorem dX14_groupsOf_20 : decode cX14_groupsOf 20 = .ok (.aload_n 0, 1) := by decide +kernel
theorem dX14_groupsOf_21 : decode cX14_groupsOf 21 = .ok (.iconst 1, 1) := by decide +kernel
theorem dX14_groupsOf_22 : decode cX14_groupsOf 22 = .ok (.invokevirtual 250, 3) := by decide +kernel
theorem dX14_groupsOf_25 : decode cX14_groupsOf 25 = .ok (.ireturn, 1) := by decide +kernel
theorem dX14_greatest_0 : decode cX14_greatest 0 = .ok (.aload_n 0, 1) := by decide +kernel
theorem dX14_greatest_1 : decode cX14_greatest 1 = .ok (.iload_n 1, 1) := by decide +kernel
theorem dX14_greatest_2 : decode cX14_greatest 2 = .ok (.invokevirtual 389, 3) := by decide +kernel
theorem dX14_greatest_5 : decode cX14_greatest 5 = .ok (.iconst 0, 1) := by decide +kernel
theorem dX14_greatest_6 : decode cX14_greatest 6 = .ok (.istore_n 2, 1) := by decide +kernel
theorem dX14_greatest_7 : decode cX14_greatest 7 = .ok (.iconst 0, 1) := by decide +kernel
theorem dX14_greatest_8 : decode cX14_greatest 8 = .ok (.istore_n 3, 1) := by decide +kernel
theorem dX14_greatest_9 : decode cX14_greatest 9 = .ok (.iload_n 3, 1) := by decide +kernel
theorem dX14_greatest_10 : decode cX14_greatest 10 = .ok (.aload_n 0, 1) := by decide +kernel
theorem dX14_greatest_11 : decode cX14_greatest 11 = .ok (.getfield 291, 3) := by decide +kernel
theorem dX14_greatest_14 : decode cX14_greatest 14 = .ok (.if_icmp .ge 20, 3) := by decide +kernel
theorem dX14_greatest_17 : decode cX14_greatest 17 = .ok (.iload_n 2, 1) := by decide +kernel
theorem dX14_greatest_18 : decode cX14_greatest 18 = .ok (.aload_n 0, 1) := by decide +kernel
theorem dX14_greatest_19 : decode cX14_greatest 19 = .ok (.getfield 57, 3) := by decide +kernel
theorem dX14_greatest_22 : decode cX14_greatest 22 = .ok (.iload_n 3, 1) := by decide +kernel
