/-! decode rows -/
theorem d_R_isObject_0 : decode c_R_isObject 0 = .ok (.iload_n 0, 1) := by decide +kernel
theorem d_R_isObject_1 : decode c_R_isObject 1 = .ok (.ifCond .lt (13), 3) := by decide +kernel
theorem d_R_isObject_4 : decode c_R_isObject 4 = .ok (.iload_n 0, 1) := by decide +kernel
theorem d_R_isObject_5 : decode c_R_isObject 5 = .ok (.bipush (6), 2) := by decide +kernel
theorem d_R_isObject_7 : decode c_R_isObject 7 = .ok (.if_icmp .ge (7), 3) := by decide +kernel
theorem d_R_isObject_10 : decode c_R_isObject 10 = .ok (.iconst (1), 1) := by decide +kernel
theorem d_R_isObject_11 : decode c_R_isObject 11 = .ok (.goto (4), 3) := by decide +kernel
theorem d_R_isObject_14 : decode c_R_isObject 14 = .ok (.iconst (0), 1) := by decide +kernel
theorem d_R_isObject_15 : decode c_R_isObject 15 = .ok (.ireturn, 1) := by decide +kernel
theorem d_R_store_0 : decode c_R_store 0 = .ok (.aload_n 0, 1) := by decide +kernel
theorem d_R_store_1 : decode c_R_store 1 = .ok (.iload_n 1, 1) := by decide +kernel
theorem d_R_store_2 : decode c_R_store 2 = .ok (.invokestatic 94, 3) := by decide +kernel
theorem d_R_store_5 : decode c_R_store 5 = .ok (.ifCond .eq (19), 3) := by decide +kernel
theorem d_R_store_8 : decode c_R_store 8 = .ok (.aload_n 0, 1) := by decide +kernel
theorem d_R_store_9 : decode c_R_store 9 = .ok (.getfield 23, 3) := by decide +kernel
theorem d_R_store_12 : decode c_R_store 12 = .ok (.iload_n 1, 1) := by decide +kernel
theorem d_R_store_13 : decode c_R_store 13 = .ok (.iaload, 1) := by decide +kernel
theorem d_R_store_14 : decode c_R_store 14 = .ok (.ifCond .gt (10), 3) := by decide +kernel
theorem d_R_store_17 : decode c_R_store 17 = .ok (.aload_n 0, 1) := by decide +kernel
theorem d_R_store_18 : decode c_R_store 18 = .ok (.getfield 62, 3) := by decide +kernel
theorem d_R_store_21 : decode c_R_store 21 = .ok (.ifCond .ne (7), 3) := by decide +kernel
theorem d_R_store_24 : decode c_R_store 24 = .ok (.iconst (1), 1) := by decide +kernel
theorem d_R_store_25 : decode c_R_store 25 = .ok (.goto (4), 3) := by decide +kernel
theorem d_R_store_28 : decode c_R_store 28 = .ok (.iconst (0), 1) := by decide +kernel
theorem d_R_store_29 : decode c_R_store 29 = .ok (.putfield 59, 3) := by decide +kernel
theorem d_R_store_32 : decode c_R_store 32 = .ok (.aload_n 0, 1) := by decide +kernel
theorem d_R_store_33 : decode c_R_store 33 = .ok (.getfield 59, 3) := by decide +kernel
theorem d_R_store_36 : decode c_R_store 36 = .ok (.ifCond .le (5), 3) := by decide +kernel
theorem d_R_store_39 : decode c_R_store 39 = .ok (.iconst (0), 1) := by decide +kernel
theorem d_R_store_40 : decode c_R_store 40 = .ok (.ireturn, 1) := by decide +kernel
theorem d_R_store_41 : decode c_R_store 41 = .ok (.aload_n 0, 1) := by decide +kernel
theorem d_R_store_42 : decode c_R_store 42 = .ok (.iload_n 1, 1) := by decide +kernel
theorem d_R_store_43 : decode c_R_store 43 = .ok (.invokevirtual 98, 3) := by decide +kernel
theorem d_R_store_46 : decode c_R_store 46 = .ok (.pop, 1) := by decide +kernel
theorem d_R_store_47 : decode c_R_store 47 = .ok (.aload_n 0, 1) := by decide +kernel
theorem d_R_store_48 : decode c_R_store 48 = .ok (.getfield 23, 3) := by decide +kernel
theorem d_R_store_51 : decode c_R_store 51 = .ok (.iload_n 1, 1) := by decide +kernel
theorem d_R_store_52 : decode c_R_store 52 = .ok (.aload_n 0, 1) := by decide +kernel
theorem d_R_store_53 : decode c_R_store 53 = .ok (.getfield 62, 3) := by decide +kernel
theorem d_R_store_56 : decode c_R_store 56 = .ok (.iastore, 1) := by decide +kernel
theorem d_R_store_57 : decode c_R_store 57 = .ok (.aload_n 0, 1) := by decide +kernel
theorem d_R_store_58 : decode c_R_store 58 = .ok (.iload_n 1, 1) := by decide +kernel
theorem d_R_store_59 : decode c_R_store 59 = .ok (.invokevirtual 101, 3) := by decide +kernel
theorem d_R_store_62 : decode c_R_store 62 = .ok (.istore_n 2, 1) := by decide +kernel
theorem d_R_store_63 : decode c_R_store 63 = .ok (.iconst (1), 1) := by decide +kernel
theorem d_R_store_64 : decode c_R_store 64 = .ok (.istore_n 3, 1) := by decide +kernel
theorem d_R_store_65 : decode c_R_store 65 = .ok (.iconst (0), 1) := by decide +kernel
theorem d_R_store_66 : decode c_R_store 66 = .ok (.istore 4, 2) := by decide +kernel
theorem d_R_store_68 : decode c_R_store 68 = .ok (.iload 4, 2) := by decide +kernel
theorem d_R_store_70 : decode c_R_store 70 = .ok (.iload_n 2, 1) := by decide +kernel
theorem d_R_store_71 : decode c_R_store 71 = .ok (.if_icmp .ge (110), 3) := by decide +kernel
theorem d_R_store_74 : decode c_R_store 74 = .ok (.iconst (0), 1) := by decide +kernel
theorem d_R_store_75 : decode c_R_store 75 = .ok (.istore 5, 2) := by decide +kernel
theorem d_R_store_77 : decode c_R_store 77 = .ok (.iload 5, 2) := by decide +kernel
theorem d_R_store_79 : decode c_R_store 79 = .ok (.iconst (4), 1) := by decide +kernel
theorem d_R_store_80 : decode c_R_store 80 = .ok (.aload_n 0, 1) := by decide +kernel
theorem d_R_store_81 : decode c_R_store 81 = .ok (.getfield 44, 3) := by decide +kernel
theorem d_R_store_84 : decode c_R_store 84 = .ok (.imul, 1) := by decide +kernel
theorem d_R_store_85 : decode c_R_store 85 = .ok (.if_icmp .ge (50), 3) := by decide +kernel
theorem d_R_store_88 : decode c_R_store 88 = .ok (.iconst (4), 1) := by decide +kernel
theorem d_R_store_89 : decode c_R_store 89 = .ok (.aload_n 0, 1) := by decide +kernel
theorem d_R_store_90 : decode c_R_store 90 = .ok (.getfield 44, 3) := by decide +kernel
theorem d_R_store_93 : decode c_R_store 93 = .ok (.imul, 1) := by decide +kernel
theorem d_R_store_94 : decode c_R_store 94 = .ok (.iload 4, 2) := by decide +kernel
theorem d_R_store_96 : decode c_R_store 96 = .ok (.imul, 1) := by decide +kernel
theorem d_R_store_97 : decode c_R_store 97 = .ok (.iload 5, 2) := by decide +kernel
theorem d_R_store_99 : decode c_R_store 99 = .ok (.iadd, 1) := by decide +kernel
theorem d_R_store_100 : decode c_R_store 100 = .ok (.istore 6, 2) := by decide +kernel
theorem d_R_store_102 : decode c_R_store 102 = .ok (.aload_n 0, 1) := by decide +kernel
theorem d_R_store_103 : decode c_R_store 103 = .ok (.getfield 38, 3) := by decide +kernel
theorem d_R_store_106 : decode c_R_store 106 = .ok (.iload 5, 2) := by decide +kernel
theorem d_R_store_108 : decode c_R_store 108 = .ok (.iload 6, 2) := by decide +kernel
theorem d_R_store_110 : decode c_R_store 110 = .ok (.aload_n 0, 1) := by decide +kernel
theorem d_R_store_111 : decode c_R_store 111 = .ok (.getfield 62, 3) := by decide +kernel
theorem d_R_store_114 : decode c_R_store 114 = .ok (.if_icmp .ge (13), 3) := by decide +kernel
theorem d_R_store_117 : decode c_R_store 117 = .ok (.aload_n 0, 1) := by decide +kernel
theorem d_R_store_118 : decode c_R_store 118 = .ok (.getfield 7, 3) := by decide +kernel
theorem d_R_store_121 : decode c_R_store 121 = .ok (.iload 6, 2) := by decide +kernel
theorem d_R_store_123 : decode c_R_store 123 = .ok (.iaload, 1) := by decide +kernel
theorem d_R_store_124 : decode c_R_store 124 = .ok (.goto (4), 3) := by decide +kernel
theorem d_R_store_127 : decode c_R_store 127 = .ok (.iconst (0), 1) := by decide +kernel
theorem d_R_store_128 : decode c_R_store 128 = .ok (.iastore, 1) := by decide +kernel
theorem d_R_store_129 : decode c_R_store 129 = .ok (.iinc 5 (1), 3) := by decide +kernel
theorem d_R_store_132 : decode c_R_store 132 = .ok (.goto (-55), 3) := by decide +kernel
theorem d_R_store_135 : decode c_R_store 135 = .ok (.iconst (0), 1) := by decide +kernel
theorem d_R_store_136 : decode c_R_store 136 = .ok (.istore 5, 2) := by decide +kernel
theorem d_R_store_138 : decode c_R_store 138 = .ok (.iload 5, 2) := by decide +kernel
theorem d_R_store_140 : decode c_R_store 140 = .ok (.aload_n 0, 1) := by decide +kernel
theorem d_R_store_141 : decode c_R_store 141 = .ok (.invokevirtual 51, 3) := by decide +kernel
theorem d_R_store_144 : decode c_R_store 144 = .ok (.if_icmp .ge (31), 3) := by decide +kernel
theorem d_R_store_147 : decode c_R_store 147 = .ok (.iload_n 3, 1) := by decide +kernel
theorem d_R_store_148 : decode c_R_store 148 = .ok (.ifCond .eq (19), 3) := by decide +kernel
theorem d_R_store_151 : decode c_R_store 151 = .ok (.aload_n 0, 1) := by decide +kernel
theorem d_R_store_152 : decode c_R_store 152 = .ok (.iload_n 1, 1) := by decide +kernel
theorem d_R_store_153 : decode c_R_store 153 = .ok (.iload 4, 2) := by decide +kernel
theorem d_R_store_155 : decode c_R_store 155 = .ok (.iload 5, 2) := by decide +kernel
theorem d_R_store_157 : decode c_R_store 157 = .ok (.invokevirtual 104, 3) := by decide +kernel
theorem d_R_store_160 : decode c_R_store 160 = .ok (.ifCond .eq (7), 3) := by decide +kernel
theorem d_R_store_163 : decode c_R_store 163 = .ok (.iconst (1), 1) := by decide +kernel
theorem d_R_store_164 : decode c_R_store 164 = .ok (.goto (4), 3) := by decide +kernel
theorem d_R_store_167 : decode c_R_store 167 = .ok (.iconst (0), 1) := by decide +kernel
theorem d_R_store_168 : decode c_R_store 168 = .ok (.istore_n 3, 1) := by decide +kernel
theorem d_R_store_169 : decode c_R_store 169 = .ok (.iinc 5 (1), 3) := by decide +kernel
theorem d_R_store_172 : decode c_R_store 172 = .ok (.goto (-34), 3) := by decide +kernel
theorem d_R_store_175 : decode c_R_store 175 = .ok (.iinc 4 (1), 3) := by decide +kernel
theorem d_R_store_178 : decode c_R_store 178 = .ok (.goto (-110), 3) := by decide +kernel
theorem d_R_store_181 : decode c_R_store 181 = .ok (.iload_n 3, 1) := by decide +kernel
theorem d_R_store_182 : decode c_R_store 182 = .ok (.ifCond .ne (16), 3) := by decide +kernel
theorem d_R_store_185 : decode c_R_store 185 = .ok (.aload_n 0, 1) := by decide +kernel
theorem d_R_store_186 : decode c_R_store 186 = .ok (.iconst (2), 1) := by decide +kernel
theorem d_R_store_187 : decode c_R_store 187 = .ok (.putfield 59, 3) := by decide +kernel
theorem d_R_store_190 : decode c_R_store 190 = .ok (.aload_n 0, 1) := by decide +kernel
theorem d_R_store_191 : decode c_R_store 191 = .ok (.iload_n 1, 1) := by decide +kernel
theorem d_R_store_192 : decode c_R_store 192 = .ok (.invokevirtual 98, 3) := by decide +kernel
theorem d_R_store_195 : decode c_R_store 195 = .ok (.pop, 1) := by decide +kernel
theorem d_R_store_196 : decode c_R_store 196 = .ok (.iconst (0), 1) := by decide +kernel
theorem d_R_store_197 : decode c_R_store 197 = .ok (.ireturn, 1) := by decide +kernel
theorem d_R_store_198 : decode c_R_store 198 = .ok (.aload_n 0, 1) := by decide +kernel
theorem d_R_store_199 : decode c_R_store 199 = .ok (.iconst (0), 1) := by decide +kernel
theorem d_R_store_200 : decode c_R_store 200 = .ok (.putfield 62, 3) := by decide +kernel
theorem d_R_store_203 : decode c_R_store 203 = .ok (.iload_n 2, 1) := by decide +kernel
theorem d_R_store_204 : decode c_R_store 204 = .ok (.ireturn, 1) := by decide +kernel
theorem d_R_isThere_0 : decode c_R_isThere 0 = .ok (.iload_n 1, 1) := by decide +kernel
theorem d_R_isThere_1 : decode c_R_isThere 1 = .ok (.invokestatic 94, 3) := by decide +kernel
theorem d_R_isThere_4 : decode c_R_isThere 4 = .ok (.ifCond .eq (16), 3) := by decide +kernel
theorem d_R_isThere_7 : decode c_R_isThere 7 = .ok (.aload_n 0, 1) := by decide +kernel
theorem d_R_isThere_8 : decode c_R_isThere 8 = .ok (.getfield 23, 3) := by decide +kernel
theorem d_R_isThere_11 : decode c_R_isThere 11 = .ok (.iload_n 1, 1) := by decide +kernel
theorem d_R_isThere_12 : decode c_R_isThere 12 = .ok (.iaload, 1) := by decide +kernel
theorem d_R_isThere_13 : decode c_R_isThere 13 = .ok (.ifCond .le (7), 3) := by decide +kernel
theorem d_R_isThere_16 : decode c_R_isThere 16 = .ok (.iconst (1), 1) := by decide +kernel
theorem d_R_isThere_17 : decode c_R_isThere 17 = .ok (.goto (4), 3) := by decide +kernel
theorem d_R_isThere_20 : decode c_R_isThere 20 = .ok (.iconst (0), 1) := by decide +kernel
theorem d_R_isThere_21 : decode c_R_isThere 21 = .ok (.ireturn, 1) := by decide +kernel
theorem d_R_drop_0 : decode c_R_drop 0 = .ok (.aload_n 0, 1) := by decide +kernel
theorem d_R_drop_1 : decode c_R_drop 1 = .ok (.aload_n 0, 1) := by decide +kernel
theorem d_R_drop_2 : decode c_R_drop 2 = .ok (.iload_n 1, 1) := by decide +kernel
theorem d_R_drop_3 : decode c_R_drop 3 = .ok (.invokevirtual 108, 3) := by decide +kernel
theorem d_R_drop_6 : decode c_R_drop 6 = .ok (.ifCond .eq (7), 3) := by decide +kernel
theorem d_R_drop_9 : decode c_R_drop 9 = .ok (.iconst (0), 1) := by decide +kernel
theorem d_R_drop_10 : decode c_R_drop 10 = .ok (.goto (4), 3) := by decide +kernel
theorem d_R_drop_13 : decode c_R_drop 13 = .ok (.iconst (1), 1) := by decide +kernel
theorem d_R_drop_14 : decode c_R_drop 14 = .ok (.putfield 59, 3) := by decide +kernel
theorem d_R_drop_17 : decode c_R_drop 17 = .ok (.aload_n 0, 1) := by decide +kernel
theorem d_R_drop_18 : decode c_R_drop 18 = .ok (.getfield 59, 3) := by decide +kernel
theorem d_R_drop_21 : decode c_R_drop 21 = .ok (.ifCond .le (7), 3) := by decide +kernel
theorem d_R_drop_24 : decode c_R_drop 24 = .ok (.iconst (0), 1) := by decide +kernel
theorem d_R_drop_25 : decode c_R_drop 25 = .ok (.goto (8), 3) := by decide +kernel
theorem d_R_drop_28 : decode c_R_drop 28 = .ok (.aload_n 0, 1) := by decide +kernel
theorem d_R_drop_29 : decode c_R_drop 29 = .ok (.iload_n 1, 1) := by decide +kernel
theorem d_R_drop_30 : decode c_R_drop 30 = .ok (.invokevirtual 98, 3) := by decide +kernel
theorem d_R_drop_33 : decode c_R_drop 33 = .ok (.ireturn, 1) := by decide +kernel
theorem d_R_get_0 : decode c_R_get 0 = .ok (.aload_n 0, 1) := by decide +kernel
theorem d_R_get_1 : decode c_R_get 1 = .ok (.aload_n 0, 1) := by decide +kernel
theorem d_R_get_2 : decode c_R_get 2 = .ok (.iload_n 1, 1) := by decide +kernel
theorem d_R_get_3 : decode c_R_get 3 = .ok (.invokevirtual 108, 3) := by decide +kernel
theorem d_R_get_6 : decode c_R_get 6 = .ok (.ifCond .eq (7), 3) := by decide +kernel
theorem d_R_get_9 : decode c_R_get 9 = .ok (.iconst (0), 1) := by decide +kernel
theorem d_R_get_10 : decode c_R_get 10 = .ok (.goto (4), 3) := by decide +kernel
theorem d_R_get_13 : decode c_R_get 13 = .ok (.iconst (1), 1) := by decide +kernel
theorem d_R_get_14 : decode c_R_get 14 = .ok (.putfield 59, 3) := by decide +kernel
theorem d_R_get_17 : decode c_R_get 17 = .ok (.aload_n 0, 1) := by decide +kernel
theorem d_R_get_18 : decode c_R_get 18 = .ok (.getfield 59, 3) := by decide +kernel
theorem d_R_get_21 : decode c_R_get 21 = .ok (.ifCond .le (5), 3) := by decide +kernel
theorem d_R_get_24 : decode c_R_get 24 = .ok (.iconst (0), 1) := by decide +kernel
theorem d_R_get_25 : decode c_R_get 25 = .ok (.ireturn, 1) := by decide +kernel
theorem d_R_get_26 : decode c_R_get 26 = .ok (.aload_n 0, 1) := by decide +kernel
theorem d_R_get_27 : decode c_R_get 27 = .ok (.getfield 23, 3) := by decide +kernel
theorem d_R_get_30 : decode c_R_get 30 = .ok (.iload_n 1, 1) := by decide +kernel
theorem d_R_get_31 : decode c_R_get 31 = .ok (.iaload, 1) := by decide +kernel
theorem d_R_get_32 : decode c_R_get 32 = .ok (.istore_n 2, 1) := by decide +kernel
theorem d_R_get_33 : decode c_R_get 33 = .ok (.iconst (0), 1) := by decide +kernel
theorem d_R_get_34 : decode c_R_get 34 = .ok (.istore_n 3, 1) := by decide +kernel
theorem d_R_get_35 : decode c_R_get 35 = .ok (.iload_n 3, 1) := by decide +kernel
theorem d_R_get_36 : decode c_R_get 36 = .ok (.aload_n 0, 1) := by decide +kernel
theorem d_R_get_37 : decode c_R_get 37 = .ok (.iload_n 1, 1) := by decide +kernel
theorem d_R_get_38 : decode c_R_get 38 = .ok (.invokevirtual 101, 3) := by decide +kernel
theorem d_R_get_41 : decode c_R_get 41 = .ok (.if_icmp .ge (93), 3) := by decide +kernel
theorem d_R_get_44 : decode c_R_get 44 = .ok (.aload_n 0, 1) := by decide +kernel
theorem d_R_get_45 : decode c_R_get 45 = .ok (.iload_n 1, 1) := by decide +kernel
theorem d_R_get_46 : decode c_R_get 46 = .ok (.iload_n 3, 1) := by decide +kernel
theorem d_R_get_47 : decode c_R_get 47 = .ok (.invokevirtual 111, 3) := by decide +kernel
theorem d_R_get_50 : decode c_R_get 50 = .ok (.aload_n 0, 1) := by decide +kernel
theorem d_R_get_51 : decode c_R_get 51 = .ok (.getfield 48, 3) := by decide +kernel
theorem d_R_get_54 : decode c_R_get 54 = .ok (.if_icmp .le (10), 3) := by decide +kernel
theorem d_R_get_57 : decode c_R_get 57 = .ok (.aload_n 0, 1) := by decide +kernel
theorem d_R_get_58 : decode c_R_get 58 = .ok (.iconst (2), 1) := by decide +kernel
theorem d_R_get_59 : decode c_R_get 59 = .ok (.putfield 59, 3) := by decide +kernel
theorem d_R_get_62 : decode c_R_get 62 = .ok (.iconst (0), 1) := by decide +kernel
theorem d_R_get_63 : decode c_R_get 63 = .ok (.ireturn, 1) := by decide +kernel
theorem d_R_get_64 : decode c_R_get 64 = .ok (.aload_n 0, 1) := by decide +kernel
theorem d_R_get_65 : decode c_R_get 65 = .ok (.iload_n 1, 1) := by decide +kernel
theorem d_R_get_66 : decode c_R_get 66 = .ok (.iload_n 3, 1) := by decide +kernel
theorem d_R_get_67 : decode c_R_get 67 = .ok (.invokevirtual 114, 3) := by decide +kernel
theorem d_R_get_70 : decode c_R_get 70 = .ok (.iconst (0), 1) := by decide +kernel
theorem d_R_get_71 : decode c_R_get 71 = .ok (.istore 4, 2) := by decide +kernel
theorem d_R_get_73 : decode c_R_get 73 = .ok (.iload 4, 2) := by decide +kernel
theorem d_R_get_75 : decode c_R_get 75 = .ok (.iconst (4), 1) := by decide +kernel
theorem d_R_get_76 : decode c_R_get 76 = .ok (.aload_n 0, 1) := by decide +kernel
theorem d_R_get_77 : decode c_R_get 77 = .ok (.getfield 44, 3) := by decide +kernel
theorem d_R_get_80 : decode c_R_get 80 = .ok (.imul, 1) := by decide +kernel
theorem d_R_get_81 : decode c_R_get 81 = .ok (.if_icmp .ge (47), 3) := by decide +kernel
theorem d_R_get_84 : decode c_R_get 84 = .ok (.iconst (4), 1) := by decide +kernel
theorem d_R_get_85 : decode c_R_get 85 = .ok (.aload_n 0, 1) := by decide +kernel
theorem d_R_get_86 : decode c_R_get 86 = .ok (.getfield 44, 3) := by decide +kernel
theorem d_R_get_89 : decode c_R_get 89 = .ok (.imul, 1) := by decide +kernel
theorem d_R_get_90 : decode c_R_get 90 = .ok (.iload_n 3, 1) := by decide +kernel
theorem d_R_get_91 : decode c_R_get 91 = .ok (.imul, 1) := by decide +kernel
theorem d_R_get_92 : decode c_R_get 92 = .ok (.iload 4, 2) := by decide +kernel
theorem d_R_get_94 : decode c_R_get 94 = .ok (.iadd, 1) := by decide +kernel
theorem d_R_get_95 : decode c_R_get 95 = .ok (.iload_n 2, 1) := by decide +kernel
theorem d_R_get_96 : decode c_R_get 96 = .ok (.if_icmp .ge (32), 3) := by decide +kernel
theorem d_R_get_99 : decode c_R_get 99 = .ok (.aload_n 0, 1) := by decide +kernel
theorem d_R_get_100 : decode c_R_get 100 = .ok (.getfield 35, 3) := by decide +kernel
theorem d_R_get_103 : decode c_R_get 103 = .ok (.iconst (4), 1) := by decide +kernel
theorem d_R_get_104 : decode c_R_get 104 = .ok (.aload_n 0, 1) := by decide +kernel
theorem d_R_get_105 : decode c_R_get 105 = .ok (.getfield 44, 3) := by decide +kernel
theorem d_R_get_108 : decode c_R_get 108 = .ok (.imul, 1) := by decide +kernel
theorem d_R_get_109 : decode c_R_get 109 = .ok (.iload_n 3, 1) := by decide +kernel
theorem d_R_get_110 : decode c_R_get 110 = .ok (.imul, 1) := by decide +kernel
theorem d_R_get_111 : decode c_R_get 111 = .ok (.iload 4, 2) := by decide +kernel
theorem d_R_get_113 : decode c_R_get 113 = .ok (.iadd, 1) := by decide +kernel
theorem d_R_get_114 : decode c_R_get 114 = .ok (.aload_n 0, 1) := by decide +kernel
theorem d_R_get_115 : decode c_R_get 115 = .ok (.getfield 38, 3) := by decide +kernel
theorem d_R_get_118 : decode c_R_get 118 = .ok (.iload 4, 2) := by decide +kernel
theorem d_R_get_120 : decode c_R_get 120 = .ok (.iaload, 1) := by decide +kernel
theorem d_R_get_121 : decode c_R_get 121 = .ok (.iastore, 1) := by decide +kernel
theorem d_R_get_122 : decode c_R_get 122 = .ok (.iinc 4 (1), 3) := by decide +kernel
theorem d_R_get_125 : decode c_R_get 125 = .ok (.goto (-52), 3) := by decide +kernel
theorem d_R_get_128 : decode c_R_get 128 = .ok (.iinc 3 (1), 3) := by decide +kernel
theorem d_R_get_131 : decode c_R_get 131 = .ok (.goto (-96), 3) := by decide +kernel
theorem d_R_get_134 : decode c_R_get 134 = .ok (.aload_n 0, 1) := by decide +kernel
theorem d_R_get_135 : decode c_R_get 135 = .ok (.iload_n 2, 1) := by decide +kernel
theorem d_R_get_136 : decode c_R_get 136 = .ok (.putfield 118, 3) := by decide +kernel
theorem d_R_get_139 : decode c_R_get 139 = .ok (.iconst (0), 1) := by decide +kernel
theorem d_R_get_140 : decode c_R_get 140 = .ok (.istore_n 3, 1) := by decide +kernel
theorem d_R_get_141 : decode c_R_get 141 = .ok (.iload_n 3, 1) := by decide +kernel
theorem d_R_get_142 : decode c_R_get 142 = .ok (.iload_n 2, 1) := by decide +kernel
theorem d_R_get_143 : decode c_R_get 143 = .ok (.if_icmp .ge (21), 3) := by decide +kernel
theorem d_R_get_146 : decode c_R_get 146 = .ok (.aload_n 0, 1) := by decide +kernel
theorem d_R_get_147 : decode c_R_get 147 = .ok (.getfield 32, 3) := by decide +kernel
theorem d_R_get_150 : decode c_R_get 150 = .ok (.iload_n 3, 1) := by decide +kernel
theorem d_R_get_151 : decode c_R_get 151 = .ok (.aload_n 0, 1) := by decide +kernel
theorem d_R_get_152 : decode c_R_get 152 = .ok (.getfield 35, 3) := by decide +kernel
theorem d_R_get_155 : decode c_R_get 155 = .ok (.iload_n 3, 1) := by decide +kernel
theorem d_R_get_156 : decode c_R_get 156 = .ok (.iaload, 1) := by decide +kernel
theorem d_R_get_157 : decode c_R_get 157 = .ok (.iastore, 1) := by decide +kernel
theorem d_R_get_158 : decode c_R_get 158 = .ok (.iinc 3 (1), 3) := by decide +kernel
theorem d_R_get_161 : decode c_R_get 161 = .ok (.goto (-20), 3) := by decide +kernel
theorem d_R_get_164 : decode c_R_get 164 = .ok (.iload_n 2, 1) := by decide +kernel
theorem d_R_get_165 : decode c_R_get 165 = .ok (.ireturn, 1) := by decide +kernel
theorem d_R_at_0 : decode c_R_at 0 = .ok (.aload_n 0, 1) := by decide +kernel
theorem d_R_at_1 : decode c_R_at 1 = .ok (.iload_n 1, 1) := by decide +kernel
theorem d_R_at_2 : decode c_R_at 2 = .ok (.ifCond .lt (11), 3) := by decide +kernel
theorem d_R_at_5 : decode c_R_at 5 = .ok (.iload_n 1, 1) := by decide +kernel
theorem d_R_at_6 : decode c_R_at 6 = .ok (.aload_n 0, 1) := by decide +kernel
theorem d_R_at_7 : decode c_R_at 7 = .ok (.getfield 118, 3) := by decide +kernel
theorem d_R_at_10 : decode c_R_at 10 = .ok (.if_icmp .lt (7), 3) := by decide +kernel
theorem d_R_at_13 : decode c_R_at 13 = .ok (.iconst (1), 1) := by decide +kernel
theorem d_R_at_14 : decode c_R_at 14 = .ok (.goto (4), 3) := by decide +kernel
theorem d_R_at_17 : decode c_R_at 17 = .ok (.iconst (0), 1) := by decide +kernel
theorem d_R_at_18 : decode c_R_at 18 = .ok (.putfield 59, 3) := by decide +kernel
theorem d_R_at_21 : decode c_R_at 21 = .ok (.aload_n 0, 1) := by decide +kernel
theorem d_R_at_22 : decode c_R_at 22 = .ok (.getfield 59, 3) := by decide +kernel
theorem d_R_at_25 : decode c_R_at 25 = .ok (.ifCond .le (7), 3) := by decide +kernel
theorem d_R_at_28 : decode c_R_at 28 = .ok (.iconst (0), 1) := by decide +kernel
theorem d_R_at_29 : decode c_R_at 29 = .ok (.goto (9), 3) := by decide +kernel
theorem d_R_at_32 : decode c_R_at 32 = .ok (.aload_n 0, 1) := by decide +kernel
theorem d_R_at_33 : decode c_R_at 33 = .ok (.getfield 32, 3) := by decide +kernel
theorem d_R_at_36 : decode c_R_at 36 = .ok (.iload_n 1, 1) := by decide +kernel
theorem d_R_at_37 : decode c_R_at 37 = .ok (.iaload, 1) := by decide +kernel
theorem d_R_at_38 : decode c_R_at 38 = .ok (.ireturn, 1) := by decide +kernel
theorem d_R_isDisk_0 : decode c_R_isDisk 0 = .ok (.iload_n 0, 1) := by decide +kernel
theorem d_R_isDisk_1 : decode c_R_isDisk 1 = .ok (.ifCond .lt (13), 3) := by decide +kernel
theorem d_R_isDisk_4 : decode c_R_isDisk 4 = .ok (.iload_n 0, 1) := by decide +kernel
theorem d_R_isDisk_5 : decode c_R_isDisk 5 = .ok (.bipush (8), 2) := by decide +kernel
theorem d_R_isDisk_7 : decode c_R_isDisk 7 = .ok (.if_icmp .ge (7), 3) := by decide +kernel
theorem d_R_isDisk_10 : decode c_R_isDisk 10 = .ok (.iconst (1), 1) := by decide +kernel
theorem d_R_isDisk_11 : decode c_R_isDisk 11 = .ok (.goto (4), 3) := by decide +kernel
theorem d_R_isDisk_14 : decode c_R_isDisk 14 = .ok (.iconst (0), 1) := by decide +kernel
theorem d_R_isDisk_15 : decode c_R_isDisk 15 = .ok (.ireturn, 1) := by decide +kernel
theorem d_R_fail_0 : decode c_R_fail 0 = .ok (.aload_n 0, 1) := by decide +kernel
theorem d_R_fail_1 : decode c_R_fail 1 = .ok (.iload_n 1, 1) := by decide +kernel
theorem d_R_fail_2 : decode c_R_fail 2 = .ok (.invokestatic 121, 3) := by decide +kernel
theorem d_R_fail_5 : decode c_R_fail 5 = .ok (.ifCond .ne (7), 3) := by decide +kernel
theorem d_R_fail_8 : decode c_R_fail 8 = .ok (.iconst (1), 1) := by decide +kernel
theorem d_R_fail_9 : decode c_R_fail 9 = .ok (.goto (17), 3) := by decide +kernel
theorem d_R_fail_12 : decode c_R_fail 12 = .ok (.aload_n 0, 1) := by decide +kernel
theorem d_R_fail_13 : decode c_R_fail 13 = .ok (.getfield 13, 3) := by decide +kernel
theorem d_R_fail_16 : decode c_R_fail 16 = .ok (.iload_n 1, 1) := by decide +kernel
theorem d_R_fail_17 : decode c_R_fail 17 = .ok (.baload, 1) := by decide +kernel
theorem d_R_fail_18 : decode c_R_fail 18 = .ok (.ifCond .ne (7), 3) := by decide +kernel
theorem d_R_fail_21 : decode c_R_fail 21 = .ok (.iconst (2), 1) := by decide +kernel
theorem d_R_fail_22 : decode c_R_fail 22 = .ok (.goto (4), 3) := by decide +kernel
theorem d_R_fail_25 : decode c_R_fail 25 = .ok (.iconst (0), 1) := by decide +kernel
theorem d_R_fail_26 : decode c_R_fail 26 = .ok (.putfield 59, 3) := by decide +kernel
theorem d_R_fail_29 : decode c_R_fail 29 = .ok (.aload_n 0, 1) := by decide +kernel
theorem d_R_fail_30 : decode c_R_fail 30 = .ok (.getfield 59, 3) := by decide +kernel
theorem d_R_fail_33 : decode c_R_fail 33 = .ok (.ifCond .le (5), 3) := by decide +kernel
theorem d_R_fail_36 : decode c_R_fail 36 = .ok (.iconst (0), 1) := by decide +kernel
theorem d_R_fail_37 : decode c_R_fail 37 = .ok (.ireturn, 1) := by decide +kernel
theorem d_R_fail_38 : decode c_R_fail 38 = .ok (.iconst (0), 1) := by decide +kernel
theorem d_R_fail_39 : decode c_R_fail 39 = .ok (.istore_n 2, 1) := by decide +kernel
theorem d_R_fail_40 : decode c_R_fail 40 = .ok (.iconst (0), 1) := by decide +kernel
theorem d_R_fail_41 : decode c_R_fail 41 = .ok (.istore_n 3, 1) := by decide +kernel
theorem d_R_fail_42 : decode c_R_fail 42 = .ok (.iload_n 3, 1) := by decide +kernel
theorem d_R_fail_43 : decode c_R_fail 43 = .ok (.sipush (336), 3) := by decide +kernel
theorem d_R_fail_46 : decode c_R_fail 46 = .ok (.if_icmp .ge (84), 3) := by decide +kernel
theorem d_R_fail_49 : decode c_R_fail 49 = .ok (.aload_n 0, 1) := by decide +kernel
theorem d_R_fail_50 : decode c_R_fail 50 = .ok (.getfield 23, 3) := by decide +kernel
theorem d_R_fail_53 : decode c_R_fail 53 = .ok (.iload_n 3, 1) := by decide +kernel
theorem d_R_fail_54 : decode c_R_fail 54 = .ok (.bipush (56), 2) := by decide +kernel
theorem d_R_fail_56 : decode c_R_fail 56 = .ok (.idiv, 1) := by decide +kernel
theorem d_R_fail_57 : decode c_R_fail 57 = .ok (.iaload, 1) := by decide +kernel
theorem d_R_fail_58 : decode c_R_fail 58 = .ok (.ifCond .le (29), 3) := by decide +kernel
theorem d_R_fail_61 : decode c_R_fail 61 = .ok (.aload_n 0, 1) := by decide +kernel
theorem d_R_fail_62 : decode c_R_fail 62 = .ok (.getfield 26, 3) := by decide +kernel
theorem d_R_fail_65 : decode c_R_fail 65 = .ok (.iload_n 3, 1) := by decide +kernel
theorem d_R_fail_66 : decode c_R_fail 66 = .ok (.iaload, 1) := by decide +kernel
theorem d_R_fail_67 : decode c_R_fail 67 = .ok (.ifCond .lt (20), 3) := by decide +kernel
theorem d_R_fail_70 : decode c_R_fail 70 = .ok (.aload_n 0, 1) := by decide +kernel
theorem d_R_fail_71 : decode c_R_fail 71 = .ok (.getfield 26, 3) := by decide +kernel
theorem d_R_fail_74 : decode c_R_fail 74 = .ok (.iload_n 3, 1) := by decide +kernel
theorem d_R_fail_75 : decode c_R_fail 75 = .ok (.iaload, 1) := by decide +kernel
theorem d_R_fail_76 : decode c_R_fail 76 = .ok (.bipush (10), 2) := by decide +kernel
theorem d_R_fail_78 : decode c_R_fail 78 = .ok (.idiv, 1) := by decide +kernel
theorem d_R_fail_79 : decode c_R_fail 79 = .ok (.iload_n 1, 1) := by decide +kernel
theorem d_R_fail_80 : decode c_R_fail 80 = .ok (.if_icmp .ne (7), 3) := by decide +kernel
theorem d_R_fail_83 : decode c_R_fail 83 = .ok (.iconst (1), 1) := by decide +kernel
theorem d_R_fail_84 : decode c_R_fail 84 = .ok (.goto (4), 3) := by decide +kernel
theorem d_R_fail_87 : decode c_R_fail 87 = .ok (.iconst (0), 1) := by decide +kernel
theorem d_R_fail_88 : decode c_R_fail 88 = .ok (.istore 4, 2) := by decide +kernel
theorem d_R_fail_90 : decode c_R_fail 90 = .ok (.iload 4, 2) := by decide +kernel
theorem d_R_fail_92 : decode c_R_fail 92 = .ok (.ifCond .eq (9), 3) := by decide +kernel
theorem d_R_fail_95 : decode c_R_fail 95 = .ok (.iload_n 2, 1) := by decide +kernel
theorem d_R_fail_96 : decode c_R_fail 96 = .ok (.iconst (1), 1) := by decide +kernel
theorem d_R_fail_97 : decode c_R_fail 97 = .ok (.iadd, 1) := by decide +kernel
theorem d_R_fail_98 : decode c_R_fail 98 = .ok (.goto (4), 3) := by decide +kernel
theorem d_R_fail_101 : decode c_R_fail 101 = .ok (.iload_n 2, 1) := by decide +kernel
theorem d_R_fail_102 : decode c_R_fail 102 = .ok (.istore_n 2, 1) := by decide +kernel
theorem d_R_fail_103 : decode c_R_fail 103 = .ok (.aload_n 0, 1) := by decide +kernel
theorem d_R_fail_104 : decode c_R_fail 104 = .ok (.getfield 26, 3) := by decide +kernel
theorem d_R_fail_107 : decode c_R_fail 107 = .ok (.iload_n 3, 1) := by decide +kernel
theorem d_R_fail_108 : decode c_R_fail 108 = .ok (.iload 4, 2) := by decide +kernel
theorem d_R_fail_110 : decode c_R_fail 110 = .ok (.ifCond .eq (7), 3) := by decide +kernel
theorem d_R_fail_113 : decode c_R_fail 113 = .ok (.iconst (-1), 1) := by decide +kernel
theorem d_R_fail_114 : decode c_R_fail 114 = .ok (.goto (9), 3) := by decide +kernel
theorem d_R_fail_117 : decode c_R_fail 117 = .ok (.aload_n 0, 1) := by decide +kernel
theorem d_R_fail_118 : decode c_R_fail 118 = .ok (.getfield 26, 3) := by decide +kernel
theorem d_R_fail_121 : decode c_R_fail 121 = .ok (.iload_n 3, 1) := by decide +kernel
theorem d_R_fail_122 : decode c_R_fail 122 = .ok (.iaload, 1) := by decide +kernel
theorem d_R_fail_123 : decode c_R_fail 123 = .ok (.iastore, 1) := by decide +kernel
theorem d_R_fail_124 : decode c_R_fail 124 = .ok (.iinc 3 (1), 3) := by decide +kernel
theorem d_R_fail_127 : decode c_R_fail 127 = .ok (.goto (-85), 3) := by decide +kernel
theorem d_R_fail_130 : decode c_R_fail 130 = .ok (.iconst (0), 1) := by decide +kernel
theorem d_R_fail_131 : decode c_R_fail 131 = .ok (.istore_n 3, 1) := by decide +kernel
theorem d_R_fail_132 : decode c_R_fail 132 = .ok (.iload_n 3, 1) := by decide +kernel
theorem d_R_fail_133 : decode c_R_fail 133 = .ok (.bipush (10), 2) := by decide +kernel
theorem d_R_fail_135 : decode c_R_fail 135 = .ok (.if_icmp .ge (21), 3) := by decide +kernel
theorem d_R_fail_138 : decode c_R_fail 138 = .ok (.aload_n 0, 1) := by decide +kernel
theorem d_R_fail_139 : decode c_R_fail 139 = .ok (.getfield 17, 3) := by decide +kernel
theorem d_R_fail_142 : decode c_R_fail 142 = .ok (.bipush (10), 2) := by decide +kernel
theorem d_R_fail_144 : decode c_R_fail 144 = .ok (.iload_n 1, 1) := by decide +kernel
theorem d_R_fail_145 : decode c_R_fail 145 = .ok (.imul, 1) := by decide +kernel
theorem d_R_fail_146 : decode c_R_fail 146 = .ok (.iload_n 3, 1) := by decide +kernel
theorem d_R_fail_147 : decode c_R_fail 147 = .ok (.iadd, 1) := by decide +kernel
theorem d_R_fail_148 : decode c_R_fail 148 = .ok (.iconst (0), 1) := by decide +kernel
theorem d_R_fail_149 : decode c_R_fail 149 = .ok (.bastore, 1) := by decide +kernel
theorem d_R_fail_150 : decode c_R_fail 150 = .ok (.iinc 3 (1), 3) := by decide +kernel
theorem d_R_fail_153 : decode c_R_fail 153 = .ok (.goto (-21), 3) := by decide +kernel
theorem d_R_fail_156 : decode c_R_fail 156 = .ok (.aload_n 0, 1) := by decide +kernel
theorem d_R_fail_157 : decode c_R_fail 157 = .ok (.getfield 13, 3) := by decide +kernel
theorem d_R_fail_160 : decode c_R_fail 160 = .ok (.iload_n 1, 1) := by decide +kernel
theorem d_R_fail_161 : decode c_R_fail 161 = .ok (.iconst (0), 1) := by decide +kernel
theorem d_R_fail_162 : decode c_R_fail 162 = .ok (.bastore, 1) := by decide +kernel
theorem d_R_fail_163 : decode c_R_fail 163 = .ok (.iload_n 2, 1) := by decide +kernel
theorem d_R_fail_164 : decode c_R_fail 164 = .ok (.ireturn, 1) := by decide +kernel
theorem d_R_renew_0 : decode c_R_renew 0 = .ok (.aload_n 0, 1) := by decide +kernel
theorem d_R_renew_1 : decode c_R_renew 1 = .ok (.iload_n 1, 1) := by decide +kernel
theorem d_R_renew_2 : decode c_R_renew 2 = .ok (.invokestatic 121, 3) := by decide +kernel
theorem d_R_renew_5 : decode c_R_renew 5 = .ok (.ifCond .ne (7), 3) := by decide +kernel
theorem d_R_renew_8 : decode c_R_renew 8 = .ok (.iconst (1), 1) := by decide +kernel
theorem d_R_renew_9 : decode c_R_renew 9 = .ok (.goto (17), 3) := by decide +kernel
theorem d_R_renew_12 : decode c_R_renew 12 = .ok (.aload_n 0, 1) := by decide +kernel
theorem d_R_renew_13 : decode c_R_renew 13 = .ok (.getfield 13, 3) := by decide +kernel
theorem d_R_renew_16 : decode c_R_renew 16 = .ok (.iload_n 1, 1) := by decide +kernel
theorem d_R_renew_17 : decode c_R_renew 17 = .ok (.baload, 1) := by decide +kernel
theorem d_R_renew_18 : decode c_R_renew 18 = .ok (.ifCond .eq (7), 3) := by decide +kernel
theorem d_R_renew_21 : decode c_R_renew 21 = .ok (.iconst (2), 1) := by decide +kernel
theorem d_R_renew_22 : decode c_R_renew 22 = .ok (.goto (4), 3) := by decide +kernel
theorem d_R_renew_25 : decode c_R_renew 25 = .ok (.iconst (0), 1) := by decide +kernel
theorem d_R_renew_26 : decode c_R_renew 26 = .ok (.putfield 59, 3) := by decide +kernel
theorem d_R_renew_29 : decode c_R_renew 29 = .ok (.aload_n 0, 1) := by decide +kernel
theorem d_R_renew_30 : decode c_R_renew 30 = .ok (.getfield 59, 3) := by decide +kernel
theorem d_R_renew_33 : decode c_R_renew 33 = .ok (.ifCond .le (5), 3) := by decide +kernel
theorem d_R_renew_36 : decode c_R_renew 36 = .ok (.iconst (0), 1) := by decide +kernel
theorem d_R_renew_37 : decode c_R_renew 37 = .ok (.ireturn, 1) := by decide +kernel
theorem d_R_renew_38 : decode c_R_renew 38 = .ok (.aload_n 0, 1) := by decide +kernel
theorem d_R_renew_39 : decode c_R_renew 39 = .ok (.getfield 13, 3) := by decide +kernel
theorem d_R_renew_42 : decode c_R_renew 42 = .ok (.iload_n 1, 1) := by decide +kernel
theorem d_R_renew_43 : decode c_R_renew 43 = .ok (.iconst (1), 1) := by decide +kernel
theorem d_R_renew_44 : decode c_R_renew 44 = .ok (.bastore, 1) := by decide +kernel
theorem d_R_renew_45 : decode c_R_renew 45 = .ok (.iconst (0), 1) := by decide +kernel
theorem d_R_renew_46 : decode c_R_renew 46 = .ok (.istore_n 2, 1) := by decide +kernel
theorem d_R_renew_47 : decode c_R_renew 47 = .ok (.iconst (0), 1) := by decide +kernel
theorem d_R_renew_48 : decode c_R_renew 48 = .ok (.istore_n 3, 1) := by decide +kernel
theorem d_R_renew_49 : decode c_R_renew 49 = .ok (.iload_n 3, 1) := by decide +kernel
theorem d_R_renew_50 : decode c_R_renew 50 = .ok (.bipush (8), 2) := by decide +kernel
theorem d_R_renew_52 : decode c_R_renew 52 = .ok (.if_icmp .ge (26), 3) := by decide +kernel
theorem d_R_renew_55 : decode c_R_renew 55 = .ok (.aload_n 0, 1) := by decide +kernel
theorem d_R_renew_56 : decode c_R_renew 56 = .ok (.getfield 13, 3) := by decide +kernel
theorem d_R_renew_59 : decode c_R_renew 59 = .ok (.iload_n 3, 1) := by decide +kernel
theorem d_R_renew_60 : decode c_R_renew 60 = .ok (.baload, 1) := by decide +kernel
theorem d_R_renew_61 : decode c_R_renew 61 = .ok (.ifCond .eq (9), 3) := by decide +kernel
theorem d_R_renew_64 : decode c_R_renew 64 = .ok (.iload_n 2, 1) := by decide +kernel
theorem d_R_renew_65 : decode c_R_renew 65 = .ok (.iconst (1), 1) := by decide +kernel
theorem d_R_renew_66 : decode c_R_renew 66 = .ok (.iadd, 1) := by decide +kernel
theorem d_R_renew_67 : decode c_R_renew 67 = .ok (.goto (4), 3) := by decide +kernel
theorem d_R_renew_70 : decode c_R_renew 70 = .ok (.iload_n 2, 1) := by decide +kernel
theorem d_R_renew_71 : decode c_R_renew 71 = .ok (.istore_n 2, 1) := by decide +kernel
theorem d_R_renew_72 : decode c_R_renew 72 = .ok (.iinc 3 (1), 3) := by decide +kernel
theorem d_R_renew_75 : decode c_R_renew 75 = .ok (.goto (-26), 3) := by decide +kernel
theorem d_R_renew_78 : decode c_R_renew 78 = .ok (.iload_n 2, 1) := by decide +kernel
theorem d_R_renew_79 : decode c_R_renew 79 = .ok (.ireturn, 1) := by decide +kernel
theorem d_R_repair_0 : decode c_R_repair 0 = .ok (.aload_n 0, 1) := by decide +kernel
theorem d_R_repair_1 : decode c_R_repair 1 = .ok (.iconst (0), 1) := by decide +kernel
theorem d_R_repair_2 : decode c_R_repair 2 = .ok (.putfield 59, 3) := by decide +kernel
theorem d_R_repair_5 : decode c_R_repair 5 = .ok (.iconst (0), 1) := by decide +kernel
theorem d_R_repair_6 : decode c_R_repair 6 = .ok (.istore_n 1, 1) := by decide +kernel
theorem d_R_repair_7 : decode c_R_repair 7 = .ok (.iconst (0), 1) := by decide +kernel
theorem d_R_repair_8 : decode c_R_repair 8 = .ok (.istore_n 2, 1) := by decide +kernel
theorem d_R_repair_9 : decode c_R_repair 9 = .ok (.iload_n 2, 1) := by decide +kernel
theorem d_R_repair_10 : decode c_R_repair 10 = .ok (.bipush (6), 2) := by decide +kernel
theorem d_R_repair_12 : decode c_R_repair 12 = .ok (.if_icmp .ge (102), 3) := by decide +kernel
theorem d_R_repair_15 : decode c_R_repair 15 = .ok (.iconst (0), 1) := by decide +kernel
theorem d_R_repair_16 : decode c_R_repair 16 = .ok (.istore_n 3, 1) := by decide +kernel
theorem d_R_repair_17 : decode c_R_repair 17 = .ok (.iload_n 3, 1) := by decide +kernel
theorem d_R_repair_18 : decode c_R_repair 18 = .ok (.aload_n 0, 1) := by decide +kernel
theorem d_R_repair_19 : decode c_R_repair 19 = .ok (.iload_n 2, 1) := by decide +kernel
theorem d_R_repair_20 : decode c_R_repair 20 = .ok (.invokevirtual 101, 3) := by decide +kernel
theorem d_R_repair_23 : decode c_R_repair 23 = .ok (.if_icmp .ge (85), 3) := by decide +kernel
theorem d_R_repair_26 : decode c_R_repair 26 = .ok (.aload_n 0, 1) := by decide +kernel
theorem d_R_repair_27 : decode c_R_repair 27 = .ok (.iload_n 2, 1) := by decide +kernel
theorem d_R_repair_28 : decode c_R_repair 28 = .ok (.iload_n 3, 1) := by decide +kernel
theorem d_R_repair_29 : decode c_R_repair 29 = .ok (.invokevirtual 111, 3) := by decide +kernel
theorem d_R_repair_32 : decode c_R_repair 32 = .ok (.istore 4, 2) := by decide +kernel
theorem d_R_repair_34 : decode c_R_repair 34 = .ok (.iload 4, 2) := by decide +kernel
theorem d_R_repair_36 : decode c_R_repair 36 = .ok (.ifCond .le (66), 3) := by decide +kernel
theorem d_R_repair_39 : decode c_R_repair 39 = .ok (.iload 4, 2) := by decide +kernel
theorem d_R_repair_41 : decode c_R_repair 41 = .ok (.aload_n 0, 1) := by decide +kernel
theorem d_R_repair_42 : decode c_R_repair 42 = .ok (.getfield 48, 3) := by decide +kernel
theorem d_R_repair_45 : decode c_R_repair 45 = .ok (.if_icmp .gt (57), 3) := by decide +kernel
theorem d_R_repair_48 : decode c_R_repair 48 = .ok (.aload_n 0, 1) := by decide +kernel
theorem d_R_repair_49 : decode c_R_repair 49 = .ok (.iload_n 2, 1) := by decide +kernel
theorem d_R_repair_50 : decode c_R_repair 50 = .ok (.iload_n 3, 1) := by decide +kernel
theorem d_R_repair_51 : decode c_R_repair 51 = .ok (.invokevirtual 114, 3) := by decide +kernel
theorem d_R_repair_54 : decode c_R_repair 54 = .ok (.iconst (0), 1) := by decide +kernel
theorem d_R_repair_55 : decode c_R_repair 55 = .ok (.istore 5, 2) := by decide +kernel
theorem d_R_repair_57 : decode c_R_repair 57 = .ok (.iload 5, 2) := by decide +kernel
theorem d_R_repair_59 : decode c_R_repair 59 = .ok (.aload_n 0, 1) := by decide +kernel
theorem d_R_repair_60 : decode c_R_repair 60 = .ok (.invokevirtual 51, 3) := by decide +kernel
theorem d_R_repair_63 : decode c_R_repair 63 = .ok (.if_icmp .ge (39), 3) := by decide +kernel
theorem d_R_repair_66 : decode c_R_repair 66 = .ok (.aload_n 0, 1) := by decide +kernel
theorem d_R_repair_67 : decode c_R_repair 67 = .ok (.iload_n 2, 1) := by decide +kernel
theorem d_R_repair_68 : decode c_R_repair 68 = .ok (.iload_n 3, 1) := by decide +kernel
theorem d_R_repair_69 : decode c_R_repair 69 = .ok (.iload 5, 2) := by decide +kernel
theorem d_R_repair_71 : decode c_R_repair 71 = .ok (.invokevirtual 71, 3) := by decide +kernel
theorem d_R_repair_74 : decode c_R_repair 74 = .ok (.ifCond .ge (20), 3) := by decide +kernel
theorem d_R_repair_77 : decode c_R_repair 77 = .ok (.aload_n 0, 1) := by decide +kernel
theorem d_R_repair_78 : decode c_R_repair 78 = .ok (.iload_n 2, 1) := by decide +kernel
theorem d_R_repair_79 : decode c_R_repair 79 = .ok (.iload_n 3, 1) := by decide +kernel
theorem d_R_repair_80 : decode c_R_repair 80 = .ok (.iload 5, 2) := by decide +kernel
theorem d_R_repair_82 : decode c_R_repair 82 = .ok (.invokevirtual 104, 3) := by decide +kernel
theorem d_R_repair_85 : decode c_R_repair 85 = .ok (.ifCond .eq (9), 3) := by decide +kernel
theorem d_R_repair_88 : decode c_R_repair 88 = .ok (.iload_n 1, 1) := by decide +kernel
theorem d_R_repair_89 : decode c_R_repair 89 = .ok (.iconst (1), 1) := by decide +kernel
theorem d_R_repair_90 : decode c_R_repair 90 = .ok (.iadd, 1) := by decide +kernel
theorem d_R_repair_91 : decode c_R_repair 91 = .ok (.goto (4), 3) := by decide +kernel
theorem d_R_repair_94 : decode c_R_repair 94 = .ok (.iload_n 1, 1) := by decide +kernel
theorem d_R_repair_95 : decode c_R_repair 95 = .ok (.istore_n 1, 1) := by decide +kernel
theorem d_R_repair_96 : decode c_R_repair 96 = .ok (.iinc 5 (1), 3) := by decide +kernel
theorem d_R_repair_99 : decode c_R_repair 99 = .ok (.goto (-42), 3) := by decide +kernel
theorem d_R_repair_102 : decode c_R_repair 102 = .ok (.iinc 3 (1), 3) := by decide +kernel
theorem d_R_repair_105 : decode c_R_repair 105 = .ok (.goto (-88), 3) := by decide +kernel
theorem d_R_repair_108 : decode c_R_repair 108 = .ok (.iinc 2 (1), 3) := by decide +kernel
theorem d_R_repair_111 : decode c_R_repair 111 = .ok (.goto (-102), 3) := by decide +kernel
theorem d_R_repair_114 : decode c_R_repair 114 = .ok (.iload_n 1, 1) := by decide +kernel
theorem d_R_repair_115 : decode c_R_repair 115 = .ok (.ireturn, 1) := by decide +kernel
theorem d_R_check_0 : decode c_R_check 0 = .ok (.aload_n 0, 1) := by decide +kernel
theorem d_R_check_1 : decode c_R_check 1 = .ok (.aload_n 0, 1) := by decide +kernel
theorem d_R_check_2 : decode c_R_check 2 = .ok (.iload_n 1, 1) := by decide +kernel
theorem d_R_check_3 : decode c_R_check 3 = .ok (.invokevirtual 108, 3) := by decide +kernel
theorem d_R_check_6 : decode c_R_check 6 = .ok (.ifCond .eq (7), 3) := by decide +kernel
theorem d_R_check_9 : decode c_R_check 9 = .ok (.iconst (0), 1) := by decide +kernel
theorem d_R_check_10 : decode c_R_check 10 = .ok (.goto (4), 3) := by decide +kernel
theorem d_R_check_13 : decode c_R_check 13 = .ok (.iconst (1), 1) := by decide +kernel
theorem d_R_check_14 : decode c_R_check 14 = .ok (.putfield 59, 3) := by decide +kernel
theorem d_R_check_17 : decode c_R_check 17 = .ok (.iconst (0), 1) := by decide +kernel
theorem d_R_check_18 : decode c_R_check 18 = .ok (.istore_n 2, 1) := by decide +kernel
theorem d_R_check_19 : decode c_R_check 19 = .ok (.iconst (0), 1) := by decide +kernel
theorem d_R_check_20 : decode c_R_check 20 = .ok (.istore_n 3, 1) := by decide +kernel
theorem d_R_check_21 : decode c_R_check 21 = .ok (.aload_n 0, 1) := by decide +kernel
theorem d_R_check_22 : decode c_R_check 22 = .ok (.getfield 59, 3) := by decide +kernel
theorem d_R_check_25 : decode c_R_check 25 = .ok (.ifCond .ne (131), 3) := by decide +kernel
theorem d_R_check_28 : decode c_R_check 28 = .ok (.iload_n 3, 1) := by decide +kernel
theorem d_R_check_29 : decode c_R_check 29 = .ok (.aload_n 0, 1) := by decide +kernel
theorem d_R_check_30 : decode c_R_check 30 = .ok (.iload_n 1, 1) := by decide +kernel
theorem d_R_check_31 : decode c_R_check 31 = .ok (.invokevirtual 101, 3) := by decide +kernel
theorem d_R_check_34 : decode c_R_check 34 = .ok (.if_icmp .ge (122), 3) := by decide +kernel
theorem d_R_check_37 : decode c_R_check 37 = .ok (.iconst (0), 1) := by decide +kernel
theorem d_R_check_38 : decode c_R_check 38 = .ok (.istore 4, 2) := by decide +kernel
theorem d_R_check_40 : decode c_R_check 40 = .ok (.aload_n 0, 1) := by decide +kernel
theorem d_R_check_41 : decode c_R_check 41 = .ok (.iload_n 1, 1) := by decide +kernel
theorem d_R_check_42 : decode c_R_check 42 = .ok (.iload_n 3, 1) := by decide +kernel
theorem d_R_check_43 : decode c_R_check 43 = .ok (.invokevirtual 111, 3) := by decide +kernel
theorem d_R_check_46 : decode c_R_check 46 = .ok (.aload_n 0, 1) := by decide +kernel
theorem d_R_check_47 : decode c_R_check 47 = .ok (.getfield 48, 3) := by decide +kernel
theorem d_R_check_50 : decode c_R_check 50 = .ok (.if_icmp .gt (87), 3) := by decide +kernel
theorem d_R_check_53 : decode c_R_check 53 = .ok (.aload_n 0, 1) := by decide +kernel
theorem d_R_check_54 : decode c_R_check 54 = .ok (.iload_n 1, 1) := by decide +kernel
theorem d_R_check_55 : decode c_R_check 55 = .ok (.iload_n 3, 1) := by decide +kernel
theorem d_R_check_56 : decode c_R_check 56 = .ok (.invokevirtual 114, 3) := by decide +kernel
theorem d_R_check_59 : decode c_R_check 59 = .ok (.iconst (0), 1) := by decide +kernel
theorem d_R_check_60 : decode c_R_check 60 = .ok (.istore 5, 2) := by decide +kernel
theorem d_R_check_62 : decode c_R_check 62 = .ok (.iload 5, 2) := by decide +kernel
theorem d_R_check_64 : decode c_R_check 64 = .ok (.iconst (4), 1) := by decide +kernel
theorem d_R_check_65 : decode c_R_check 65 = .ok (.aload_n 0, 1) := by decide +kernel
theorem d_R_check_66 : decode c_R_check 66 = .ok (.invokevirtual 51, 3) := by decide +kernel
theorem d_R_check_69 : decode c_R_check 69 = .ok (.imul, 1) := by decide +kernel
theorem d_R_check_70 : decode c_R_check 70 = .ok (.if_icmp .ge (67), 3) := by decide +kernel
theorem d_R_check_73 : decode c_R_check 73 = .ok (.aload_n 0, 1) := by decide +kernel
theorem d_R_check_74 : decode c_R_check 74 = .ok (.iload_n 1, 1) := by decide +kernel
theorem d_R_check_75 : decode c_R_check 75 = .ok (.iload_n 3, 1) := by decide +kernel
theorem d_R_check_76 : decode c_R_check 76 = .ok (.iload 5, 2) := by decide +kernel
theorem d_R_check_78 : decode c_R_check 78 = .ok (.iconst (4), 1) := by decide +kernel
theorem d_R_check_79 : decode c_R_check 79 = .ok (.idiv, 1) := by decide +kernel
theorem d_R_check_80 : decode c_R_check 80 = .ok (.invokevirtual 71, 3) := by decide +kernel
theorem d_R_check_83 : decode c_R_check 83 = .ok (.istore 6, 2) := by decide +kernel
theorem d_R_check_85 : decode c_R_check 85 = .ok (.iload 4, 2) := by decide +kernel
theorem d_R_check_87 : decode c_R_check 87 = .ok (.ifCond .ne (37), 3) := by decide +kernel
theorem d_R_check_90 : decode c_R_check 90 = .ok (.iload 6, 2) := by decide +kernel
theorem d_R_check_92 : decode c_R_check 92 = .ok (.ifCond .lt (36), 3) := by decide +kernel
theorem d_R_check_95 : decode c_R_check 95 = .ok (.aload_n 0, 1) := by decide +kernel
theorem d_R_check_96 : decode c_R_check 96 = .ok (.getfield 20, 3) := by decide +kernel
theorem d_R_check_99 : decode c_R_check 99 = .ok (.iconst (4), 1) := by decide +kernel
theorem d_R_check_100 : decode c_R_check 100 = .ok (.iload 6, 2) := by decide +kernel
theorem d_R_check_102 : decode c_R_check 102 = .ok (.imul, 1) := by decide +kernel
theorem d_R_check_103 : decode c_R_check 103 = .ok (.iload 5, 2) := by decide +kernel
theorem d_R_check_105 : decode c_R_check 105 = .ok (.iconst (4), 1) := by decide +kernel
theorem d_R_check_106 : decode c_R_check 106 = .ok (.irem, 1) := by decide +kernel
theorem d_R_check_107 : decode c_R_check 107 = .ok (.iadd, 1) := by decide +kernel
theorem d_R_check_108 : decode c_R_check 108 = .ok (.iaload, 1) := by decide +kernel
theorem d_R_check_109 : decode c_R_check 109 = .ok (.aload_n 0, 1) := by decide +kernel
theorem d_R_check_110 : decode c_R_check 110 = .ok (.iload 5, 2) := by decide +kernel
theorem d_R_check_112 : decode c_R_check 112 = .ok (.iconst (4), 1) := by decide +kernel
theorem d_R_check_113 : decode c_R_check 113 = .ok (.idiv, 1) := by decide +kernel
theorem d_R_check_114 : decode c_R_check 114 = .ok (.iload 5, 2) := by decide +kernel
theorem d_R_check_116 : decode c_R_check 116 = .ok (.iconst (4), 1) := by decide +kernel
theorem d_R_check_117 : decode c_R_check 117 = .ok (.irem, 1) := by decide +kernel
theorem d_R_check_118 : decode c_R_check 118 = .ok (.invokevirtual 91, 3) := by decide +kernel
theorem d_R_check_121 : decode c_R_check 121 = .ok (.if_icmp .eq (7), 3) := by decide +kernel
theorem d_R_check_124 : decode c_R_check 124 = .ok (.iconst (1), 1) := by decide +kernel
theorem d_R_check_125 : decode c_R_check 125 = .ok (.goto (4), 3) := by decide +kernel
theorem d_R_check_128 : decode c_R_check 128 = .ok (.iconst (0), 1) := by decide +kernel
theorem d_R_check_129 : decode c_R_check 129 = .ok (.istore 4, 2) := by decide +kernel
theorem d_R_check_131 : decode c_R_check 131 = .ok (.iinc 5 (1), 3) := by decide +kernel
theorem d_R_check_134 : decode c_R_check 134 = .ok (.goto (-72), 3) := by decide +kernel
theorem d_R_check_137 : decode c_R_check 137 = .ok (.iload 4, 2) := by decide +kernel
theorem d_R_check_139 : decode c_R_check 139 = .ok (.ifCond .eq (9), 3) := by decide +kernel
theorem d_R_check_142 : decode c_R_check 142 = .ok (.iload_n 2, 1) := by decide +kernel
theorem d_R_check_143 : decode c_R_check 143 = .ok (.iconst (1), 1) := by decide +kernel
theorem d_R_check_144 : decode c_R_check 144 = .ok (.iadd, 1) := by decide +kernel
theorem d_R_check_145 : decode c_R_check 145 = .ok (.goto (4), 3) := by decide +kernel
theorem d_R_check_148 : decode c_R_check 148 = .ok (.iload_n 2, 1) := by decide +kernel
theorem d_R_check_149 : decode c_R_check 149 = .ok (.istore_n 2, 1) := by decide +kernel
theorem d_R_check_150 : decode c_R_check 150 = .ok (.iinc 3 (1), 3) := by decide +kernel
theorem d_R_check_153 : decode c_R_check 153 = .ok (.goto (-132), 3) := by decide +kernel
theorem d_R_check_156 : decode c_R_check 156 = .ok (.iload_n 2, 1) := by decide +kernel
theorem d_R_check_157 : decode c_R_check 157 = .ok (.ireturn, 1) := by decide +kernel
theorem d_R_refusal_0 : decode c_R_refusal 0 = .ok (.iload_n 1, 1) := by decide +kernel
theorem d_R_refusal_1 : decode c_R_refusal 1 = .ok (.invokestatic 121, 3) := by decide +kernel
theorem d_R_refusal_4 : decode c_R_refusal 4 = .ok (.ifCond .eq (22), 3) := by decide +kernel
theorem d_R_refusal_7 : decode c_R_refusal 7 = .ok (.iload_n 2, 1) := by decide +kernel
theorem d_R_refusal_8 : decode c_R_refusal 8 = .ok (.ifCond .lt (18), 3) := by decide +kernel
theorem d_R_refusal_11 : decode c_R_refusal 11 = .ok (.iload_n 2, 1) := by decide +kernel
theorem d_R_refusal_12 : decode c_R_refusal 12 = .ok (.bipush (9), 2) := by decide +kernel
theorem d_R_refusal_14 : decode c_R_refusal 14 = .ok (.if_icmp .gt (12), 3) := by decide +kernel
theorem d_R_refusal_17 : decode c_R_refusal 17 = .ok (.iload_n 3, 1) := by decide +kernel
theorem d_R_refusal_18 : decode c_R_refusal 18 = .ok (.ifCond .lt (8), 3) := by decide +kernel
theorem d_R_refusal_21 : decode c_R_refusal 21 = .ok (.iload_n 3, 1) := by decide +kernel
theorem d_R_refusal_22 : decode c_R_refusal 22 = .ok (.iconst (3), 1) := by decide +kernel
theorem d_R_refusal_23 : decode c_R_refusal 23 = .ok (.if_icmp .le (7), 3) := by decide +kernel
theorem d_R_refusal_26 : decode c_R_refusal 26 = .ok (.iconst (1), 1) := by decide +kernel
theorem d_R_refusal_27 : decode c_R_refusal 27 = .ok (.goto (22), 3) := by decide +kernel
theorem d_R_refusal_30 : decode c_R_refusal 30 = .ok (.aload_n 0, 1) := by decide +kernel
theorem d_R_refusal_31 : decode c_R_refusal 31 = .ok (.getfield 17, 3) := by decide +kernel
theorem d_R_refusal_34 : decode c_R_refusal 34 = .ok (.bipush (10), 2) := by decide +kernel
theorem d_R_refusal_36 : decode c_R_refusal 36 = .ok (.iload_n 1, 1) := by decide +kernel
theorem d_R_refusal_37 : decode c_R_refusal 37 = .ok (.imul, 1) := by decide +kernel
theorem d_R_refusal_38 : decode c_R_refusal 38 = .ok (.iload_n 2, 1) := by decide +kernel
theorem d_R_refusal_39 : decode c_R_refusal 39 = .ok (.iadd, 1) := by decide +kernel
theorem d_R_refusal_40 : decode c_R_refusal 40 = .ok (.baload, 1) := by decide +kernel
theorem d_R_refusal_41 : decode c_R_refusal 41 = .ok (.ifCond .ne (7), 3) := by decide +kernel
theorem d_R_refusal_44 : decode c_R_refusal 44 = .ok (.iconst (2), 1) := by decide +kernel
theorem d_R_refusal_45 : decode c_R_refusal 45 = .ok (.goto (4), 3) := by decide +kernel
theorem d_R_refusal_48 : decode c_R_refusal 48 = .ok (.iconst (0), 1) := by decide +kernel
theorem d_R_refusal_49 : decode c_R_refusal 49 = .ok (.ireturn, 1) := by decide +kernel
theorem d_R_harm_0 : decode c_R_harm 0 = .ok (.aload_n 0, 1) := by decide +kernel
theorem d_R_harm_1 : decode c_R_harm 1 = .ok (.aload_n 0, 1) := by decide +kernel
theorem d_R_harm_2 : decode c_R_harm 2 = .ok (.iload_n 1, 1) := by decide +kernel
theorem d_R_harm_3 : decode c_R_harm 3 = .ok (.iload_n 2, 1) := by decide +kernel
theorem d_R_harm_4 : decode c_R_harm 4 = .ok (.iload_n 3, 1) := by decide +kernel
theorem d_R_harm_5 : decode c_R_harm 5 = .ok (.invokevirtual 124, 3) := by decide +kernel
theorem d_R_harm_8 : decode c_R_harm 8 = .ok (.putfield 59, 3) := by decide +kernel
theorem d_R_harm_11 : decode c_R_harm 11 = .ok (.aload_n 0, 1) := by decide +kernel
theorem d_R_harm_12 : decode c_R_harm 12 = .ok (.getfield 59, 3) := by decide +kernel
theorem d_R_harm_15 : decode c_R_harm 15 = .ok (.ifCond .le (5), 3) := by decide +kernel
theorem d_R_harm_18 : decode c_R_harm 18 = .ok (.iconst (0), 1) := by decide +kernel
theorem d_R_harm_19 : decode c_R_harm 19 = .ok (.ireturn, 1) := by decide +kernel
theorem d_R_harm_20 : decode c_R_harm 20 = .ok (.bipush (40), 2) := by decide +kernel
theorem d_R_harm_22 : decode c_R_harm 22 = .ok (.iload_n 1, 1) := by decide +kernel
theorem d_R_harm_23 : decode c_R_harm 23 = .ok (.imul, 1) := by decide +kernel
theorem d_R_harm_24 : decode c_R_harm 24 = .ok (.iconst (4), 1) := by decide +kernel
theorem d_R_harm_25 : decode c_R_harm 25 = .ok (.iload_n 2, 1) := by decide +kernel
theorem d_R_harm_26 : decode c_R_harm 26 = .ok (.imul, 1) := by decide +kernel
theorem d_R_harm_27 : decode c_R_harm 27 = .ok (.iadd, 1) := by decide +kernel
theorem d_R_harm_28 : decode c_R_harm 28 = .ok (.iload_n 3, 1) := by decide +kernel
theorem d_R_harm_29 : decode c_R_harm 29 = .ok (.iadd, 1) := by decide +kernel
theorem d_R_harm_30 : decode c_R_harm 30 = .ok (.istore 5, 2) := by decide +kernel
theorem d_R_harm_32 : decode c_R_harm 32 = .ok (.aload_n 0, 1) := by decide +kernel
theorem d_R_harm_33 : decode c_R_harm 33 = .ok (.getfield 20, 3) := by decide +kernel
theorem d_R_harm_36 : decode c_R_harm 36 = .ok (.iload 5, 2) := by decide +kernel
theorem d_R_harm_38 : decode c_R_harm 38 = .ok (.aload_n 0, 1) := by decide +kernel
theorem d_R_harm_39 : decode c_R_harm 39 = .ok (.getfield 20, 3) := by decide +kernel
theorem d_R_harm_42 : decode c_R_harm 42 = .ok (.iload 5, 2) := by decide +kernel
theorem d_R_harm_44 : decode c_R_harm 44 = .ok (.iaload, 1) := by decide +kernel
theorem d_R_harm_45 : decode c_R_harm 45 = .ok (.iload 4, 2) := by decide +kernel
theorem d_R_harm_47 : decode c_R_harm 47 = .ok (.sipush (255), 3) := by decide +kernel
theorem d_R_harm_50 : decode c_R_harm 50 = .ok (.iand, 1) := by decide +kernel
theorem d_R_harm_51 : decode c_R_harm 51 = .ok (.ixor, 1) := by decide +kernel
theorem d_R_harm_52 : decode c_R_harm 52 = .ok (.iastore, 1) := by decide +kernel
theorem d_R_harm_53 : decode c_R_harm 53 = .ok (.aload_n 0, 1) := by decide +kernel
theorem d_R_harm_54 : decode c_R_harm 54 = .ok (.getfield 20, 3) := by decide +kernel
theorem d_R_harm_57 : decode c_R_harm 57 = .ok (.iload 5, 2) := by decide +kernel
theorem d_R_harm_59 : decode c_R_harm 59 = .ok (.iaload, 1) := by decide +kernel
theorem d_R_harm_60 : decode c_R_harm 60 = .ok (.ireturn, 1) := by decide +kernel
theorem d_R_stored_0 : decode c_R_stored 0 = .ok (.aload_n 0, 1) := by decide +kernel
theorem d_R_stored_1 : decode c_R_stored 1 = .ok (.aload_n 0, 1) := by decide +kernel
theorem d_R_stored_2 : decode c_R_stored 2 = .ok (.iload_n 1, 1) := by decide +kernel
theorem d_R_stored_3 : decode c_R_stored 3 = .ok (.iload_n 2, 1) := by decide +kernel
theorem d_R_stored_4 : decode c_R_stored 4 = .ok (.iload_n 3, 1) := by decide +kernel
theorem d_R_stored_5 : decode c_R_stored 5 = .ok (.invokevirtual 124, 3) := by decide +kernel
theorem d_R_stored_8 : decode c_R_stored 8 = .ok (.putfield 59, 3) := by decide +kernel
theorem d_R_stored_11 : decode c_R_stored 11 = .ok (.aload_n 0, 1) := by decide +kernel
theorem d_R_stored_12 : decode c_R_stored 12 = .ok (.getfield 59, 3) := by decide +kernel
theorem d_R_stored_15 : decode c_R_stored 15 = .ok (.ifCond .le (7), 3) := by decide +kernel
theorem d_R_stored_18 : decode c_R_stored 18 = .ok (.iconst (0), 1) := by decide +kernel
theorem d_R_stored_19 : decode c_R_stored 19 = .ok (.goto (18), 3) := by decide +kernel
theorem d_R_stored_22 : decode c_R_stored 22 = .ok (.aload_n 0, 1) := by decide +kernel
theorem d_R_stored_23 : decode c_R_stored 23 = .ok (.getfield 20, 3) := by decide +kernel
theorem d_R_stored_26 : decode c_R_stored 26 = .ok (.bipush (40), 2) := by decide +kernel
theorem d_R_stored_28 : decode c_R_stored 28 = .ok (.iload_n 1, 1) := by decide +kernel
theorem d_R_stored_29 : decode c_R_stored 29 = .ok (.imul, 1) := by decide +kernel
theorem d_R_stored_30 : decode c_R_stored 30 = .ok (.iconst (4), 1) := by decide +kernel
theorem d_R_stored_31 : decode c_R_stored 31 = .ok (.iload_n 2, 1) := by decide +kernel
theorem d_R_stored_32 : decode c_R_stored 32 = .ok (.imul, 1) := by decide +kernel
theorem d_R_stored_33 : decode c_R_stored 33 = .ok (.iadd, 1) := by decide +kernel
theorem d_R_stored_34 : decode c_R_stored 34 = .ok (.iload_n 3, 1) := by decide +kernel
theorem d_R_stored_35 : decode c_R_stored 35 = .ok (.iadd, 1) := by decide +kernel
theorem d_R_stored_36 : decode c_R_stored 36 = .ok (.iaload, 1) := by decide +kernel
theorem d_R_stored_37 : decode c_R_stored 37 = .ok (.ireturn, 1) := by decide +kernel
theorem d_R_where_0 : decode c_R_where 0 = .ok (.aload_n 0, 1) := by decide +kernel
theorem d_R_where_1 : decode c_R_where 1 = .ok (.aload_n 0, 1) := by decide +kernel
theorem d_R_where_2 : decode c_R_where 2 = .ok (.iload_n 1, 1) := by decide +kernel
theorem d_R_where_3 : decode c_R_where 3 = .ok (.invokevirtual 108, 3) := by decide +kernel
theorem d_R_where_6 : decode c_R_where 6 = .ok (.ifCond .ne (7), 3) := by decide +kernel
theorem d_R_where_9 : decode c_R_where 9 = .ok (.iconst (1), 1) := by decide +kernel
theorem d_R_where_10 : decode c_R_where 10 = .ok (.goto (33), 3) := by decide +kernel
theorem d_R_where_13 : decode c_R_where 13 = .ok (.iload_n 2, 1) := by decide +kernel
theorem d_R_where_14 : decode c_R_where 14 = .ok (.ifCond .lt (24), 3) := by decide +kernel
theorem d_R_where_17 : decode c_R_where 17 = .ok (.iload_n 2, 1) := by decide +kernel
theorem d_R_where_18 : decode c_R_where 18 = .ok (.aload_n 0, 1) := by decide +kernel
theorem d_R_where_19 : decode c_R_where 19 = .ok (.iload_n 1, 1) := by decide +kernel
theorem d_R_where_20 : decode c_R_where 20 = .ok (.invokevirtual 101, 3) := by decide +kernel
theorem d_R_where_23 : decode c_R_where 23 = .ok (.if_icmp .ge (15), 3) := by decide +kernel
theorem d_R_where_26 : decode c_R_where 26 = .ok (.iload_n 3, 1) := by decide +kernel
theorem d_R_where_27 : decode c_R_where 27 = .ok (.ifCond .lt (11), 3) := by decide +kernel
theorem d_R_where_30 : decode c_R_where 30 = .ok (.iload_n 3, 1) := by decide +kernel
theorem d_R_where_31 : decode c_R_where 31 = .ok (.aload_n 0, 1) := by decide +kernel
theorem d_R_where_32 : decode c_R_where 32 = .ok (.invokevirtual 51, 3) := by decide +kernel
theorem d_R_where_35 : decode c_R_where 35 = .ok (.if_icmp .lt (7), 3) := by decide +kernel
theorem d_R_where_38 : decode c_R_where 38 = .ok (.iconst (2), 1) := by decide +kernel
theorem d_R_where_39 : decode c_R_where 39 = .ok (.goto (4), 3) := by decide +kernel
theorem d_R_where_42 : decode c_R_where 42 = .ok (.iconst (0), 1) := by decide +kernel
theorem d_R_where_43 : decode c_R_where 43 = .ok (.putfield 59, 3) := by decide +kernel
theorem d_R_where_46 : decode c_R_where 46 = .ok (.aload_n 0, 1) := by decide +kernel
theorem d_R_where_47 : decode c_R_where 47 = .ok (.getfield 59, 3) := by decide +kernel
theorem d_R_where_50 : decode c_R_where 50 = .ok (.ifCond .le (5), 3) := by decide +kernel
theorem d_R_where_53 : decode c_R_where 53 = .ok (.iconst (0), 1) := by decide +kernel
theorem d_R_where_54 : decode c_R_where 54 = .ok (.ireturn, 1) := by decide +kernel
theorem d_R_where_55 : decode c_R_where 55 = .ok (.aload_n 0, 1) := by decide +kernel
theorem d_R_where_56 : decode c_R_where 56 = .ok (.iload_n 1, 1) := by decide +kernel
theorem d_R_where_57 : decode c_R_where 57 = .ok (.iload_n 2, 1) := by decide +kernel
theorem d_R_where_58 : decode c_R_where 58 = .ok (.iload_n 3, 1) := by decide +kernel
theorem d_R_where_59 : decode c_R_where 59 = .ok (.invokevirtual 71, 3) := by decide +kernel
theorem d_R_where_62 : decode c_R_where 62 = .ok (.istore 4, 2) := by decide +kernel
theorem d_R_where_64 : decode c_R_where 64 = .ok (.iload 4, 2) := by decide +kernel
theorem d_R_where_66 : decode c_R_where 66 = .ok (.ifCond .ge (7), 3) := by decide +kernel
theorem d_R_where_69 : decode c_R_where 69 = .ok (.iconst (-1), 1) := by decide +kernel
theorem d_R_where_70 : decode c_R_where 70 = .ok (.goto (17), 3) := by decide +kernel
theorem d_R_where_73 : decode c_R_where 73 = .ok (.bipush (16), 2) := by decide +kernel
theorem d_R_where_75 : decode c_R_where 75 = .ok (.iload 4, 2) := by decide +kernel
theorem d_R_where_77 : decode c_R_where 77 = .ok (.bipush (10), 2) := by decide +kernel
theorem d_R_where_79 : decode c_R_where 79 = .ok (.idiv, 1) := by decide +kernel
theorem d_R_where_80 : decode c_R_where 80 = .ok (.imul, 1) := by decide +kernel
theorem d_R_where_81 : decode c_R_where 81 = .ok (.iload 4, 2) := by decide +kernel
theorem d_R_where_83 : decode c_R_where 83 = .ok (.bipush (10), 2) := by decide +kernel
theorem d_R_where_85 : decode c_R_where 85 = .ok (.irem, 1) := by decide +kernel
theorem d_R_where_86 : decode c_R_where 86 = .ok (.iadd, 1) := by decide +kernel
theorem d_R_where_87 : decode c_R_where 87 = .ok (.ireturn, 1) := by decide +kernel
theorem d_R_length_0 : decode c_R_length 0 = .ok (.aload_n 0, 1) := by decide +kernel
theorem d_R_length_1 : decode c_R_length 1 = .ok (.iconst (0), 1) := by decide +kernel
theorem d_R_length_2 : decode c_R_length 2 = .ok (.putfield 59, 3) := by decide +kernel
theorem d_R_length_5 : decode c_R_length 5 = .ok (.aload_n 0, 1) := by decide +kernel
theorem d_R_length_6 : decode c_R_length 6 = .ok (.iload_n 1, 1) := by decide +kernel
theorem d_R_length_7 : decode c_R_length 7 = .ok (.invokevirtual 108, 3) := by decide +kernel
theorem d_R_length_10 : decode c_R_length 10 = .ok (.ifCond .eq (12), 3) := by decide +kernel
theorem d_R_length_13 : decode c_R_length 13 = .ok (.aload_n 0, 1) := by decide +kernel
theorem d_R_length_14 : decode c_R_length 14 = .ok (.getfield 23, 3) := by decide +kernel
theorem d_R_length_17 : decode c_R_length 17 = .ok (.iload_n 1, 1) := by decide +kernel
theorem d_R_length_18 : decode c_R_length 18 = .ok (.iaload, 1) := by decide +kernel
theorem d_R_length_19 : decode c_R_length 19 = .ok (.goto (4), 3) := by decide +kernel
theorem d_R_length_22 : decode c_R_length 22 = .ok (.iconst (-1), 1) := by decide +kernel
theorem d_R_length_23 : decode c_R_length 23 = .ok (.ireturn, 1) := by decide +kernel
theorem d_R_room_0 : decode c_R_room 0 = .ok (.aload_n 0, 1) := by decide +kernel
theorem d_R_room_1 : decode c_R_room 1 = .ok (.iconst (0), 1) := by decide +kernel
theorem d_R_room_2 : decode c_R_room 2 = .ok (.putfield 59, 3) := by decide +kernel
theorem d_R_room_5 : decode c_R_room 5 = .ok (.iload_n 1, 1) := by decide +kernel
theorem d_R_room_6 : decode c_R_room 6 = .ok (.invokestatic 121, 3) := by decide +kernel
theorem d_R_room_9 : decode c_R_room 9 = .ok (.ifCond .eq (20), 3) := by decide +kernel
theorem d_R_room_12 : decode c_R_room 12 = .ok (.aload_n 0, 1) := by decide +kernel
theorem d_R_room_13 : decode c_R_room 13 = .ok (.getfield 13, 3) := by decide +kernel
theorem d_R_room_16 : decode c_R_room 16 = .ok (.iload_n 1, 1) := by decide +kernel
theorem d_R_room_17 : decode c_R_room 17 = .ok (.baload, 1) := by decide +kernel
theorem d_R_room_18 : decode c_R_room 18 = .ok (.ifCond .eq (11), 3) := by decide +kernel
theorem d_R_room_21 : decode c_R_room 21 = .ok (.aload_n 0, 1) := by decide +kernel
theorem d_R_room_22 : decode c_R_room 22 = .ok (.iload_n 1, 1) := by decide +kernel
theorem d_R_room_23 : decode c_R_room 23 = .ok (.invokevirtual 85, 3) := by decide +kernel
theorem d_R_room_26 : decode c_R_room 26 = .ok (.goto (4), 3) := by decide +kernel
theorem d_R_room_29 : decode c_R_room 29 = .ok (.iconst (-1), 1) := by decide +kernel
theorem d_R_room_30 : decode c_R_room 30 = .ok (.ireturn, 1) := by decide +kernel
theorem d_R_product_0 : decode c_R_product 0 = .ok (.aload_n 0, 1) := by decide +kernel
theorem d_R_product_1 : decode c_R_product 1 = .ok (.iload_n 1, 1) := by decide +kernel
theorem d_R_product_2 : decode c_R_product 2 = .ok (.ifCond .lt (22), 3) := by decide +kernel
theorem d_R_product_5 : decode c_R_product 5 = .ok (.iload_n 1, 1) := by decide +kernel
theorem d_R_product_6 : decode c_R_product 6 = .ok (.sipush (255), 3) := by decide +kernel
theorem d_R_product_9 : decode c_R_product 9 = .ok (.if_icmp .gt (15), 3) := by decide +kernel
theorem d_R_product_12 : decode c_R_product 12 = .ok (.iload_n 2, 1) := by decide +kernel
theorem d_R_product_13 : decode c_R_product 13 = .ok (.iconst (-1), 1) := by decide +kernel
theorem d_R_product_14 : decode c_R_product 14 = .ok (.if_icmp .lt (10), 3) := by decide +kernel
theorem d_R_product_17 : decode c_R_product 17 = .ok (.iload_n 2, 1) := by decide +kernel
theorem d_R_product_18 : decode c_R_product 18 = .ok (.sipush (255), 3) := by decide +kernel
theorem d_R_product_21 : decode c_R_product 21 = .ok (.if_icmp .le (7), 3) := by decide +kernel
theorem d_R_product_24 : decode c_R_product 24 = .ok (.iconst (1), 1) := by decide +kernel
theorem d_R_product_25 : decode c_R_product 25 = .ok (.goto (17), 3) := by decide +kernel
theorem d_R_product_28 : decode c_R_product 28 = .ok (.iload_n 2, 1) := by decide +kernel
theorem d_R_product_29 : decode c_R_product 29 = .ok (.iconst (-1), 1) := by decide +kernel
theorem d_R_product_30 : decode c_R_product 30 = .ok (.if_icmp .ne (11), 3) := by decide +kernel
theorem d_R_product_33 : decode c_R_product 33 = .ok (.iload_n 1, 1) := by decide +kernel
theorem d_R_product_34 : decode c_R_product 34 = .ok (.ifCond .ne (7), 3) := by decide +kernel
theorem d_R_product_37 : decode c_R_product 37 = .ok (.iconst (2), 1) := by decide +kernel
theorem d_R_product_38 : decode c_R_product 38 = .ok (.goto (4), 3) := by decide +kernel
theorem d_R_product_41 : decode c_R_product 41 = .ok (.iconst (0), 1) := by decide +kernel
theorem d_R_product_42 : decode c_R_product 42 = .ok (.putfield 59, 3) := by decide +kernel
theorem d_R_product_45 : decode c_R_product 45 = .ok (.aload_n 0, 1) := by decide +kernel
theorem d_R_product_46 : decode c_R_product 46 = .ok (.getfield 59, 3) := by decide +kernel
theorem d_R_product_49 : decode c_R_product 49 = .ok (.ifCond .le (5), 3) := by decide +kernel
theorem d_R_product_52 : decode c_R_product 52 = .ok (.iconst (0), 1) := by decide +kernel
theorem d_R_product_53 : decode c_R_product 53 = .ok (.ireturn, 1) := by decide +kernel
theorem d_R_product_54 : decode c_R_product 54 = .ok (.iload_n 2, 1) := by decide +kernel
theorem d_R_product_55 : decode c_R_product 55 = .ok (.ifCond .ge (10), 3) := by decide +kernel
theorem d_R_product_58 : decode c_R_product 58 = .ok (.iload_n 1, 1) := by decide +kernel
theorem d_R_product_59 : decode c_R_product 59 = .ok (.invokestatic 55, 3) := by decide +kernel
theorem d_R_product_62 : decode c_R_product 62 = .ok (.goto (8), 3) := by decide +kernel
theorem d_R_product_65 : decode c_R_product 65 = .ok (.iload_n 1, 1) := by decide +kernel
theorem d_R_product_66 : decode c_R_product 66 = .ok (.iload_n 2, 1) := by decide +kernel
theorem d_R_product_67 : decode c_R_product 67 = .ok (.invokestatic 67, 3) := by decide +kernel
theorem d_R_product_70 : decode c_R_product 70 = .ok (.ireturn, 1) := by decide +kernel
theorem d_G_init_0 : decode c_G_init 0 = .ok (.aload_n 0, 1) := by decide +kernel
theorem d_G_init_1 : decode c_G_init 1 = .ok (.invokespecial 3, 3) := by decide +kernel
theorem d_G_init_4 : decode c_G_init 4 = .ok (.aload_n 0, 1) := by decide +kernel
theorem d_G_init_5 : decode c_G_init 5 = .ok (.iload_n 2, 1) := by decide +kernel
theorem d_G_init_6 : decode c_G_init 6 = .ok (.putfield 9, 3) := by decide +kernel
theorem d_G_init_9 : decode c_G_init 9 = .ok (.aload_n 0, 1) := by decide +kernel
theorem d_G_init_10 : decode c_G_init 10 = .ok (.iconst (4), 1) := by decide +kernel
theorem d_G_init_11 : decode c_G_init 11 = .ok (.iload_n 1, 1) := by decide +kernel
theorem d_G_init_12 : decode c_G_init 12 = .ok (.imul, 1) := by decide +kernel
theorem d_G_init_13 : decode c_G_init 13 = .ok (.putfield 15, 3) := by decide +kernel
theorem d_G_init_16 : decode c_G_init 16 = .ok (.aload_n 0, 1) := by decide +kernel
theorem d_G_init_17 : decode c_G_init 17 = .ok (.bipush (6), 2) := by decide +kernel
theorem d_G_init_19 : decode c_G_init 19 = .ok (.newarray .int, 2) := by decide +kernel
theorem d_G_init_21 : decode c_G_init 21 = .ok (.putfield 18, 3) := by decide +kernel
theorem d_G_init_24 : decode c_G_init 24 = .ok (.aload_n 0, 1) := by decide +kernel
theorem d_G_init_25 : decode c_G_init 25 = .ok (.sipush (336), 3) := by decide +kernel
theorem d_G_init_28 : decode c_G_init 28 = .ok (.newarray .int, 2) := by decide +kernel
theorem d_G_init_30 : decode c_G_init 30 = .ok (.putfield 22, 3) := by decide +kernel
theorem d_G_init_33 : decode c_G_init 33 = .ok (.aload_n 0, 1) := by decide +kernel
theorem d_G_init_34 : decode c_G_init 34 = .ok (.getfield 22, 3) := by decide +kernel
theorem d_G_init_37 : decode c_G_init 37 = .ok (.iconst (-1), 1) := by decide +kernel
theorem d_G_init_38 : decode c_G_init 38 = .ok (.invokestatic 25, 3) := by decide +kernel
theorem d_G_init_41 : decode c_G_init 41 = .ok (.return_, 1) := by decide +kernel
theorem d_G_holds_0 : decode c_G_holds 0 = .ok (.aload_n 0, 1) := by decide +kernel
theorem d_G_holds_1 : decode c_G_holds 1 = .ok (.getfield 18, 3) := by decide +kernel
theorem d_G_holds_4 : decode c_G_holds 4 = .ok (.iload_n 1, 1) := by decide +kernel
theorem d_G_holds_5 : decode c_G_holds 5 = .ok (.iaload, 1) := by decide +kernel
theorem d_G_holds_6 : decode c_G_holds 6 = .ok (.ifCond .le (7), 3) := by decide +kernel
theorem d_G_holds_9 : decode c_G_holds 9 = .ok (.iconst (1), 1) := by decide +kernel
theorem d_G_holds_10 : decode c_G_holds 10 = .ok (.goto (4), 3) := by decide +kernel
theorem d_G_holds_13 : decode c_G_holds 13 = .ok (.iconst (0), 1) := by decide +kernel
theorem d_G_holds_14 : decode c_G_holds 14 = .ok (.ireturn, 1) := by decide +kernel
theorem d_G_lengthOf_0 : decode c_G_lengthOf 0 = .ok (.aload_n 0, 1) := by decide +kernel
theorem d_G_lengthOf_1 : decode c_G_lengthOf 1 = .ok (.getfield 18, 3) := by decide +kernel
theorem d_G_lengthOf_4 : decode c_G_lengthOf 4 = .ok (.iload_n 1, 1) := by decide +kernel
theorem d_G_lengthOf_5 : decode c_G_lengthOf 5 = .ok (.iaload, 1) := by decide +kernel
theorem d_G_lengthOf_6 : decode c_G_lengthOf 6 = .ok (.ireturn, 1) := by decide +kernel
theorem d_G_stripesOf_0 : decode c_G_stripesOf 0 = .ok (.aload_n 0, 1) := by decide +kernel
theorem d_G_stripesOf_1 : decode c_G_stripesOf 1 = .ok (.getfield 18, 3) := by decide +kernel
theorem d_G_stripesOf_4 : decode c_G_stripesOf 4 = .ok (.iload_n 1, 1) := by decide +kernel
theorem d_G_stripesOf_5 : decode c_G_stripesOf 5 = .ok (.iaload, 1) := by decide +kernel
theorem d_G_stripesOf_6 : decode c_G_stripesOf 6 = .ok (.aload_n 0, 1) := by decide +kernel
theorem d_G_stripesOf_7 : decode c_G_stripesOf 7 = .ok (.getfield 15, 3) := by decide +kernel
theorem d_G_stripesOf_10 : decode c_G_stripesOf 10 = .ok (.iadd, 1) := by decide +kernel
theorem d_G_stripesOf_11 : decode c_G_stripesOf 11 = .ok (.iconst (1), 1) := by decide +kernel
theorem d_G_stripesOf_12 : decode c_G_stripesOf 12 = .ok (.isub, 1) := by decide +kernel
theorem d_G_stripesOf_13 : decode c_G_stripesOf 13 = .ok (.aload_n 0, 1) := by decide +kernel
theorem d_G_stripesOf_14 : decode c_G_stripesOf 14 = .ok (.getfield 15, 3) := by decide +kernel
theorem d_G_stripesOf_17 : decode c_G_stripesOf 17 = .ok (.idiv, 1) := by decide +kernel
theorem d_G_stripesOf_18 : decode c_G_stripesOf 18 = .ok (.ireturn, 1) := by decide +kernel
theorem d_G_enter_0 : decode c_G_enter 0 = .ok (.aload_n 0, 1) := by decide +kernel
theorem d_G_enter_1 : decode c_G_enter 1 = .ok (.getfield 18, 3) := by decide +kernel
theorem d_G_enter_4 : decode c_G_enter 4 = .ok (.iload_n 1, 1) := by decide +kernel
theorem d_G_enter_5 : decode c_G_enter 5 = .ok (.iload_n 2, 1) := by decide +kernel
theorem d_G_enter_6 : decode c_G_enter 6 = .ok (.iastore, 1) := by decide +kernel
theorem d_G_enter_7 : decode c_G_enter 7 = .ok (.return_, 1) := by decide +kernel
theorem d_G_strike_0 : decode c_G_strike 0 = .ok (.aload_n 0, 1) := by decide +kernel
theorem d_G_strike_1 : decode c_G_strike 1 = .ok (.getfield 18, 3) := by decide +kernel
theorem d_G_strike_4 : decode c_G_strike 4 = .ok (.iload_n 1, 1) := by decide +kernel
theorem d_G_strike_5 : decode c_G_strike 5 = .ok (.iconst (0), 1) := by decide +kernel
theorem d_G_strike_6 : decode c_G_strike 6 = .ok (.iastore, 1) := by decide +kernel
theorem d_G_strike_7 : decode c_G_strike 7 = .ok (.return_, 1) := by decide +kernel
theorem d_G_rowOf_0 : decode c_G_rowOf 0 = .ok (.iload_n 1, 1) := by decide +kernel
theorem d_G_rowOf_1 : decode c_G_rowOf 1 = .ok (.bipush (56), 2) := by decide +kernel
theorem d_G_rowOf_3 : decode c_G_rowOf 3 = .ok (.imul, 1) := by decide +kernel
theorem d_G_rowOf_4 : decode c_G_rowOf 4 = .ok (.iload_n 2, 1) := by decide +kernel
theorem d_G_rowOf_5 : decode c_G_rowOf 5 = .ok (.aload_n 0, 1) := by decide +kernel
theorem d_G_rowOf_6 : decode c_G_rowOf 6 = .ok (.getfield 9, 3) := by decide +kernel
theorem d_G_rowOf_9 : decode c_G_rowOf 9 = .ok (.imul, 1) := by decide +kernel
theorem d_G_rowOf_10 : decode c_G_rowOf 10 = .ok (.iadd, 1) := by decide +kernel
theorem d_G_rowOf_11 : decode c_G_rowOf 11 = .ok (.ireturn, 1) := by decide +kernel
theorem d_G_placeOf_0 : decode c_G_placeOf 0 = .ok (.aload_n 0, 1) := by decide +kernel
theorem d_G_placeOf_1 : decode c_G_placeOf 1 = .ok (.getfield 22, 3) := by decide +kernel
theorem d_G_placeOf_4 : decode c_G_placeOf 4 = .ok (.iload_n 1, 1) := by decide +kernel
theorem d_G_placeOf_5 : decode c_G_placeOf 5 = .ok (.iload_n 2, 1) := by decide +kernel
theorem d_G_placeOf_6 : decode c_G_placeOf 6 = .ok (.iadd, 1) := by decide +kernel
theorem d_G_placeOf_7 : decode c_G_placeOf 7 = .ok (.iaload, 1) := by decide +kernel
theorem d_G_placeOf_8 : decode c_G_placeOf 8 = .ok (.ireturn, 1) := by decide +kernel
theorem d_G_setPlace_0 : decode c_G_setPlace 0 = .ok (.aload_n 0, 1) := by decide +kernel
theorem d_G_setPlace_1 : decode c_G_setPlace 1 = .ok (.getfield 22, 3) := by decide +kernel
theorem d_G_setPlace_4 : decode c_G_setPlace 4 = .ok (.iload_n 1, 1) := by decide +kernel
theorem d_G_setPlace_5 : decode c_G_setPlace 5 = .ok (.iload_n 2, 1) := by decide +kernel
theorem d_G_setPlace_6 : decode c_G_setPlace 6 = .ok (.iadd, 1) := by decide +kernel
theorem d_G_setPlace_7 : decode c_G_setPlace 7 = .ok (.iload_n 3, 1) := by decide +kernel
theorem d_G_setPlace_8 : decode c_G_setPlace 8 = .ok (.iastore, 1) := by decide +kernel
theorem d_G_setPlace_9 : decode c_G_setPlace 9 = .ok (.return_, 1) := by decide +kernel
theorem d_G_countLost_0 : decode c_G_countLost 0 = .ok (.iconst (0), 1) := by decide +kernel
theorem d_G_countLost_1 : decode c_G_countLost 1 = .ok (.istore_n 2, 1) := by decide +kernel
theorem d_G_countLost_2 : decode c_G_countLost 2 = .ok (.iconst (0), 1) := by decide +kernel
theorem d_G_countLost_3 : decode c_G_countLost 3 = .ok (.istore_n 3, 1) := by decide +kernel
theorem d_G_countLost_4 : decode c_G_countLost 4 = .ok (.iload_n 3, 1) := by decide +kernel
theorem d_G_countLost_5 : decode c_G_countLost 5 = .ok (.aload_n 0, 1) := by decide +kernel
theorem d_G_countLost_6 : decode c_G_countLost 6 = .ok (.getfield 9, 3) := by decide +kernel
theorem d_G_countLost_9 : decode c_G_countLost 9 = .ok (.if_icmp .ge (24), 3) := by decide +kernel
theorem d_G_countLost_12 : decode c_G_countLost 12 = .ok (.aload_n 0, 1) := by decide +kernel
theorem d_G_countLost_13 : decode c_G_countLost 13 = .ok (.getfield 22, 3) := by decide +kernel
theorem d_G_countLost_16 : decode c_G_countLost 16 = .ok (.iload_n 1, 1) := by decide +kernel
theorem d_G_countLost_17 : decode c_G_countLost 17 = .ok (.iload_n 3, 1) := by decide +kernel
theorem d_G_countLost_18 : decode c_G_countLost 18 = .ok (.iadd, 1) := by decide +kernel
theorem d_G_countLost_19 : decode c_G_countLost 19 = .ok (.iaload, 1) := by decide +kernel
theorem d_G_countLost_20 : decode c_G_countLost 20 = .ok (.iconst (-1), 1) := by decide +kernel
theorem d_G_countLost_21 : decode c_G_countLost 21 = .ok (.if_icmp .ne (6), 3) := by decide +kernel
theorem d_G_countLost_24 : decode c_G_countLost 24 = .ok (.iinc 2 (1), 3) := by decide +kernel
theorem d_G_countLost_27 : decode c_G_countLost 27 = .ok (.iinc 3 (1), 3) := by decide +kernel
theorem d_G_countLost_30 : decode c_G_countLost 30 = .ok (.goto (-26), 3) := by decide +kernel
theorem d_G_countLost_33 : decode c_G_countLost 33 = .ok (.iload_n 2, 1) := by decide +kernel
theorem d_G_countLost_34 : decode c_G_countLost 34 = .ok (.ireturn, 1) := by decide +kernel
theorem d_G_isOnDisk_0 : decode c_G_isOnDisk 0 = .ok (.iconst (0), 1) := by decide +kernel
theorem d_G_isOnDisk_1 : decode c_G_isOnDisk 1 = .ok (.istore_n 3, 1) := by decide +kernel
theorem d_G_isOnDisk_2 : decode c_G_isOnDisk 2 = .ok (.iload_n 3, 1) := by decide +kernel
theorem d_G_isOnDisk_3 : decode c_G_isOnDisk 3 = .ok (.aload_n 0, 1) := by decide +kernel
theorem d_G_isOnDisk_4 : decode c_G_isOnDisk 4 = .ok (.getfield 9, 3) := by decide +kernel
theorem d_G_isOnDisk_7 : decode c_G_isOnDisk 7 = .ok (.if_icmp .ge (26), 3) := by decide +kernel
theorem d_G_isOnDisk_10 : decode c_G_isOnDisk 10 = .ok (.aload_n 0, 1) := by decide +kernel
theorem d_G_isOnDisk_11 : decode c_G_isOnDisk 11 = .ok (.getfield 22, 3) := by decide +kernel
theorem d_G_isOnDisk_14 : decode c_G_isOnDisk 14 = .ok (.iload_n 1, 1) := by decide +kernel
theorem d_G_isOnDisk_15 : decode c_G_isOnDisk 15 = .ok (.iload_n 3, 1) := by decide +kernel
theorem d_G_isOnDisk_16 : decode c_G_isOnDisk 16 = .ok (.iadd, 1) := by decide +kernel
theorem d_G_isOnDisk_17 : decode c_G_isOnDisk 17 = .ok (.iaload, 1) := by decide +kernel
theorem d_G_isOnDisk_18 : decode c_G_isOnDisk 18 = .ok (.iload_n 2, 1) := by decide +kernel
theorem d_G_isOnDisk_19 : decode c_G_isOnDisk 19 = .ok (.invokestatic 31, 3) := by decide +kernel
theorem d_G_isOnDisk_22 : decode c_G_isOnDisk 22 = .ok (.ifCond .eq (5), 3) := by decide +kernel
theorem d_G_isOnDisk_25 : decode c_G_isOnDisk 25 = .ok (.iconst (1), 1) := by decide +kernel
theorem d_G_isOnDisk_26 : decode c_G_isOnDisk 26 = .ok (.ireturn, 1) := by decide +kernel
theorem d_G_isOnDisk_27 : decode c_G_isOnDisk 27 = .ok (.iinc 3 (1), 3) := by decide +kernel
theorem d_G_isOnDisk_30 : decode c_G_isOnDisk 30 = .ok (.goto (-28), 3) := by decide +kernel
theorem d_G_isOnDisk_33 : decode c_G_isOnDisk 33 = .ok (.iconst (0), 1) := by decide +kernel
theorem d_G_isOnDisk_34 : decode c_G_isOnDisk 34 = .ok (.ireturn, 1) := by decide +kernel
