theorem dL_asks_0 : decode cL_asks 0 = .ok (.iload_n 1, 1) := by decide +kernel
theorem dL_asks_1 : decode cL_asks 1 = .ok (.ifCond .ne 14, 3) := by decide +kernel
theorem dL_asks_4 : decode cL_asks 4 = .ok (.aload_n 0, 1) := by decide +kernel
theorem dL_asks_5 : decode cL_asks 5 = .ok (.iload_n 2, 1) := by decide +kernel
theorem dL_asks_6 : decode cL_asks 6 = .ok (.iload_n 3, 1) := by decide +kernel
theorem dL_asks_7 : decode cL_asks 7 = .ok (.iload 4, 2) := by decide +kernel
theorem dL_asks_9 : decode cL_asks 9 = .ok (.invokevirtual 7, 3) := by decide +kernel
theorem dL_asks_12 : decode cL_asks 12 = .ok (.goto 162, 3) := by decide +kernel
theorem dL_asks_15 : decode cL_asks 15 = .ok (.iload_n 1, 1) := by decide +kernel
theorem dL_asks_16 : decode cL_asks 16 = .ok (.iconst 1, 1) := by decide +kernel
theorem dL_asks_17 : decode cL_asks 17 = .ok (.if_icmp .ne 12, 3) := by decide +kernel
theorem dL_asks_20 : decode cL_asks 20 = .ok (.aload_n 0, 1) := by decide +kernel
theorem dL_asks_21 : decode cL_asks 21 = .ok (.iload_n 2, 1) := by decide +kernel
theorem dL_asks_22 : decode cL_asks 22 = .ok (.iload_n 3, 1) := by decide +kernel
theorem dL_asks_23 : decode cL_asks 23 = .ok (.invokevirtual 13, 3) := by decide +kernel
theorem dL_asks_26 : decode cL_asks 26 = .ok (.goto 148, 3) := by decide +kernel
theorem dL_asks_29 : decode cL_asks 29 = .ok (.iload_n 1, 1) := by decide +kernel
theorem dL_asks_30 : decode cL_asks 30 = .ok (.iconst 2, 1) := by decide +kernel
theorem dL_asks_31 : decode cL_asks 31 = .ok (.if_icmp .ne 11, 3) := by decide +kernel
theorem dL_asks_34 : decode cL_asks 34 = .ok (.aload_n 0, 1) := by decide +kernel
theorem dL_asks_35 : decode cL_asks 35 = .ok (.iload_n 2, 1) := by decide +kernel
theorem dL_asks_36 : decode cL_asks 36 = .ok (.invokevirtual 17, 3) := by decide +kernel
theorem dL_asks_39 : decode cL_asks 39 = .ok (.goto 135, 3) := by decide +kernel
theorem dL_asks_42 : decode cL_asks 42 = .ok (.iload_n 1, 1) := by decide +kernel
theorem dL_asks_43 : decode cL_asks 43 = .ok (.iconst 3, 1) := by decide +kernel
theorem dL_asks_44 : decode cL_asks 44 = .ok (.if_icmp .ne 11, 3) := by decide +kernel
theorem dL_asks_47 : decode cL_asks 47 = .ok (.aload_n 0, 1) := by decide +kernel
theorem dL_asks_48 : decode cL_asks 48 = .ok (.iload_n 2, 1) := by decide +kernel
theorem dL_asks_49 : decode cL_asks 49 = .ok (.invokevirtual 21, 3) := by decide +kernel
theorem dL_asks_52 : decode cL_asks 52 = .ok (.goto 122, 3) := by decide +kernel
theorem dL_asks_55 : decode cL_asks 55 = .ok (.iload_n 1, 1) := by decide +kernel
theorem dL_asks_56 : decode cL_asks 56 = .ok (.iconst 4, 1) := by decide +kernel
theorem dL_asks_57 : decode cL_asks 57 = .ok (.if_icmp .ne 11, 3) := by decide +kernel
theorem dL_asks_60 : decode cL_asks 60 = .ok (.aload_n 0, 1) := by decide +kernel
theorem dL_asks_61 : decode cL_asks 61 = .ok (.iload_n 2, 1) := by decide +kernel
theorem dL_asks_62 : decode cL_asks 62 = .ok (.invokevirtual 24, 3) := by decide +kernel
theorem dL_asks_65 : decode cL_asks 65 = .ok (.goto 109, 3) := by decide +kernel
theorem dL_asks_68 : decode cL_asks 68 = .ok (.iload_n 1, 1) := by decide +kernel
theorem dL_asks_69 : decode cL_asks 69 = .ok (.iconst 5, 1) := by decide +kernel
theorem dL_asks_70 : decode cL_asks 70 = .ok (.if_icmp .ne 16, 3) := by decide +kernel
theorem dL_asks_73 : decode cL_asks 73 = .ok (.aload_n 0, 1) := by decide +kernel
theorem dL_asks_74 : decode cL_asks 74 = .ok (.iload_n 2, 1) := by decide +kernel
theorem dL_asks_75 : decode cL_asks 75 = .ok (.iload_n 3, 1) := by decide +kernel
theorem dL_asks_76 : decode cL_asks 76 = .ok (.iload 4, 2) := by decide +kernel
theorem dL_asks_78 : decode cL_asks 78 = .ok (.iload 5, 2) := by decide +kernel
theorem dL_asks_80 : decode cL_asks 80 = .ok (.invokevirtual 27, 3) := by decide +kernel
theorem dL_asks_83 : decode cL_asks 83 = .ok (.goto 91, 3) := by decide +kernel
theorem dL_asks_86 : decode cL_asks 86 = .ok (.iload_n 1, 1) := by decide +kernel
theorem dL_asks_87 : decode cL_asks 87 = .ok (.bipush 6, 2) := by decide +kernel
theorem dL_asks_89 : decode cL_asks 89 = .ok (.if_icmp .ne 14, 3) := by decide +kernel
theorem dL_asks_92 : decode cL_asks 92 = .ok (.aload_n 0, 1) := by decide +kernel
theorem dL_asks_93 : decode cL_asks 93 = .ok (.iload_n 2, 1) := by decide +kernel
theorem dL_asks_94 : decode cL_asks 94 = .ok (.iload_n 3, 1) := by decide +kernel
theorem dL_asks_95 : decode cL_asks 95 = .ok (.iload 4, 2) := by decide +kernel
theorem dL_asks_97 : decode cL_asks 97 = .ok (.invokevirtual 31, 3) := by decide +kernel
theorem dL_asks_100 : decode cL_asks 100 = .ok (.goto 74, 3) := by decide +kernel
theorem dL_asks_103 : decode cL_asks 103 = .ok (.iload_n 1, 1) := by decide +kernel
theorem dL_asks_104 : decode cL_asks 104 = .ok (.bipush 7, 2) := by decide +kernel
theorem dL_asks_106 : decode cL_asks 106 = .ok (.if_icmp .ne 16, 3) := by decide +kernel
theorem dL_asks_109 : decode cL_asks 109 = .ok (.aload_n 0, 1) := by decide +kernel
theorem dL_asks_110 : decode cL_asks 110 = .ok (.iload_n 2, 1) := by decide +kernel
theorem dL_asks_111 : decode cL_asks 111 = .ok (.iload_n 3, 1) := by decide +kernel
theorem dL_asks_112 : decode cL_asks 112 = .ok (.iload 4, 2) := by decide +kernel
theorem dL_asks_114 : decode cL_asks 114 = .ok (.iload 5, 2) := by decide +kernel
theorem dL_asks_116 : decode cL_asks 116 = .ok (.invokevirtual 34, 3) := by decide +kernel
theorem dL_asks_119 : decode cL_asks 119 = .ok (.goto 55, 3) := by decide +kernel
theorem dL_asks_122 : decode cL_asks 122 = .ok (.iload_n 1, 1) := by decide +kernel
theorem dL_asks_123 : decode cL_asks 123 = .ok (.bipush 8, 2) := by decide +kernel
theorem dL_asks_125 : decode cL_asks 125 = .ok (.if_icmp .ne 14, 3) := by decide +kernel
theorem dL_asks_128 : decode cL_asks 128 = .ok (.aload_n 0, 1) := by decide +kernel
theorem dL_asks_129 : decode cL_asks 129 = .ok (.iload_n 2, 1) := by decide +kernel
theorem dL_asks_130 : decode cL_asks 130 = .ok (.iload_n 3, 1) := by decide +kernel
theorem dL_asks_131 : decode cL_asks 131 = .ok (.iload 4, 2) := by decide +kernel
theorem dL_asks_133 : decode cL_asks 133 = .ok (.invokevirtual 37, 3) := by decide +kernel
theorem dL_asks_136 : decode cL_asks 136 = .ok (.goto 38, 3) := by decide +kernel
theorem dL_asks_139 : decode cL_asks 139 = .ok (.iload_n 1, 1) := by decide +kernel
theorem dL_asks_140 : decode cL_asks 140 = .ok (.bipush 9, 2) := by decide +kernel
theorem dL_asks_142 : decode cL_asks 142 = .ok (.if_icmp .ne 12, 3) := by decide +kernel
theorem dL_asks_145 : decode cL_asks 145 = .ok (.aload_n 0, 1) := by decide +kernel
theorem dL_asks_146 : decode cL_asks 146 = .ok (.iload_n 2, 1) := by decide +kernel
theorem dL_asks_147 : decode cL_asks 147 = .ok (.iload_n 3, 1) := by decide +kernel
theorem dL_asks_148 : decode cL_asks 148 = .ok (.invokevirtual 40, 3) := by decide +kernel
theorem dL_asks_151 : decode cL_asks 151 = .ok (.goto 23, 3) := by decide +kernel
theorem dL_asks_154 : decode cL_asks 154 = .ok (.iload_n 1, 1) := by decide +kernel
theorem dL_asks_155 : decode cL_asks 155 = .ok (.bipush 10, 2) := by decide +kernel
theorem dL_asks_157 : decode cL_asks 157 = .ok (.if_icmp .ne 12, 3) := by decide +kernel
theorem dL_asks_160 : decode cL_asks 160 = .ok (.aload_n 0, 1) := by decide +kernel
theorem dL_asks_161 : decode cL_asks 161 = .ok (.iload_n 2, 1) := by decide +kernel
theorem dL_asks_162 : decode cL_asks 162 = .ok (.iload_n 3, 1) := by decide +kernel
theorem dL_asks_163 : decode cL_asks 163 = .ok (.invokevirtual 43, 3) := by decide +kernel
theorem dL_asks_166 : decode cL_asks 166 = .ok (.goto 8, 3) := by decide +kernel
theorem dL_asks_169 : decode cL_asks 169 = .ok (.aload_n 0, 1) := by decide +kernel
theorem dL_asks_170 : decode cL_asks 170 = .ok (.iload_n 2, 1) := by decide +kernel
theorem dL_asks_171 : decode cL_asks 171 = .ok (.invokevirtual 46, 3) := by decide +kernel
theorem dL_asks_174 : decode cL_asks 174 = .ok (.ireturn, 1) := by decide +kernel
theorem dL_on_0 : decode cL_on 0 = .ok (.aload_n 0, 1) := by decide +kernel
theorem dL_on_1 : decode cL_on 1 = .ok (.iload_n 1, 1) := by decide +kernel
theorem dL_on_2 : decode cL_on 2 = .ok (.iload_n 2, 1) := by decide +kernel
theorem dL_on_3 : decode cL_on 3 = .ok (.iload_n 3, 1) := by decide +kernel
theorem dL_on_4 : decode cL_on 4 = .ok (.iload 4, 2) := by decide +kernel
theorem dL_on_6 : decode cL_on 6 = .ok (.iload 5, 2) := by decide +kernel
theorem dL_on_8 : decode cL_on 8 = .ok (.invokestatic 49, 3) := by decide +kernel
theorem dL_on_11 : decode cL_on 11 = .ok (.ireturn, 1) := by decide +kernel
theorem dL_on_12 : decode cL_on 12 = .ok (.astore 6, 2) := by decide +kernel
theorem dL_on_14 : decode cL_on 14 = .ok (.bipush (-13), 2) := by decide +kernel
theorem dL_on_16 : decode cL_on 16 = .ok (.ireturn, 1) := by decide +kernel
theorem dL_virtuals_0 : decode cL_virtuals 0 = .ok (.aload_n 0, 1) := by decide +kernel
theorem dL_virtuals_1 : decode cL_virtuals 1 = .ok (.iload_n 1, 1) := by decide +kernel
theorem dL_virtuals_2 : decode cL_virtuals 2 = .ok (.iload_n 2, 1) := by decide +kernel
theorem dL_virtuals_3 : decode cL_virtuals 3 = .ok (.iload_n 3, 1) := by decide +kernel
theorem dL_virtuals_4 : decode cL_virtuals 4 = .ok (.lload 4, 2) := by decide +kernel
theorem dL_virtuals_6 : decode cL_virtuals 6 = .ok (.invokevirtual 57, 3) := by decide +kernel
theorem dL_virtuals_9 : decode cL_virtuals 9 = .ok (.ireturn, 1) := by decide +kernel
theorem dL_virtuals_10 : decode cL_virtuals 10 = .ok (.astore 6, 2) := by decide +kernel
theorem dL_virtuals_12 : decode cL_virtuals 12 = .ok (.bipush (-13), 2) := by decide +kernel
theorem dL_virtuals_14 : decode cL_virtuals 14 = .ok (.ireturn, 1) := by decide +kernel
theorem dL_closes_0 : decode cL_closes 0 = .ok (.aload_n 0, 1) := by decide +kernel
theorem dL_closes_1 : decode cL_closes 1 = .ok (.iload_n 1, 1) := by decide +kernel
theorem dL_closes_2 : decode cL_closes 2 = .ok (.iload_n 2, 1) := by decide +kernel
theorem dL_closes_3 : decode cL_closes 3 = .ok (.iload_n 3, 1) := by decide +kernel
theorem dL_closes_4 : decode cL_closes 4 = .ok (.invokevirtual 61, 3) := by decide +kernel
theorem dL_closes_7 : decode cL_closes 7 = .ok (.ifCond .eq 7, 3) := by decide +kernel
theorem dL_closes_10 : decode cL_closes 10 = .ok (.iconst 1, 1) := by decide +kernel
theorem dL_closes_11 : decode cL_closes 11 = .ok (.goto 4, 3) := by decide +kernel
theorem dL_closes_14 : decode cL_closes 14 = .ok (.iconst 0, 1) := by decide +kernel
theorem dL_closes_15 : decode cL_closes 15 = .ok (.ireturn, 1) := by decide +kernel
theorem dL_closes_16 : decode cL_closes 16 = .ok (.astore 4, 2) := by decide +kernel
theorem dL_closes_18 : decode cL_closes 18 = .ok (.bipush (-12), 2) := by decide +kernel
theorem dL_closes_20 : decode cL_closes 20 = .ok (.ireturn, 1) := by decide +kernel
theorem dL_isScreen_0 : decode cL_isScreen 0 = .ok (.iconst 0, 1) := by decide +kernel
theorem dL_isScreen_1 : decode cL_isScreen 1 = .ok (.istore_n 1, 1) := by decide +kernel
theorem dL_isScreen_2 : decode cL_isScreen 2 = .ok (.iconst 0, 1) := by decide +kernel
theorem dL_isScreen_3 : decode cL_isScreen 3 = .ok (.istore_n 2, 1) := by decide +kernel
theorem dL_isScreen_4 : decode cL_isScreen 4 = .ok (.iload_n 2, 1) := by decide +kernel
theorem dL_isScreen_5 : decode cL_isScreen 5 = .ok (.iconst 4, 1) := by decide +kernel
theorem dL_isScreen_6 : decode cL_isScreen 6 = .ok (.if_icmp .ge 17, 3) := by decide +kernel
theorem dL_isScreen_9 : decode cL_isScreen 9 = .ok (.iload_n 1, 1) := by decide +kernel
theorem dL_isScreen_10 : decode cL_isScreen 10 = .ok (.aload_n 0, 1) := by decide +kernel
theorem dL_isScreen_11 : decode cL_isScreen 11 = .ok (.iload_n 2, 1) := by decide +kernel
theorem dL_isScreen_12 : decode cL_isScreen 12 = .ok (.invokevirtual 67, 3) := by decide +kernel
theorem dL_isScreen_15 : decode cL_isScreen 15 = .ok (.iadd, 1) := by decide +kernel
theorem dL_isScreen_16 : decode cL_isScreen 16 = .ok (.istore_n 1, 1) := by decide +kernel
theorem dL_isScreen_17 : decode cL_isScreen 17 = .ok (.iinc 2 1, 3) := by decide +kernel
theorem dL_isScreen_20 : decode cL_isScreen 20 = .ok (.goto (-16), 3) := by decide +kernel
theorem dL_isScreen_23 : decode cL_isScreen 23 = .ok (.iload_n 1, 1) := by decide +kernel
theorem dL_isScreen_24 : decode cL_isScreen 24 = .ok (.bipush 24, 2) := by decide +kernel
theorem dL_isScreen_26 : decode cL_isScreen 26 = .ok (.if_icmp .ne 7, 3) := by decide +kernel
theorem dL_isScreen_29 : decode cL_isScreen 29 = .ok (.iconst 1, 1) := by decide +kernel
theorem dL_isScreen_30 : decode cL_isScreen 30 = .ok (.goto 4, 3) := by decide +kernel
theorem dL_isScreen_33 : decode cL_isScreen 33 = .ok (.iconst 0, 1) := by decide +kernel
theorem dL_isScreen_34 : decode cL_isScreen 34 = .ok (.ireturn, 1) := by decide +kernel
theorem dL_areRows_0 : decode cL_areRows 0 = .ok (.aload_n 0, 1) := by decide +kernel
theorem dL_areRows_1 : decode cL_areRows 1 = .ok (.iload_n 1, 1) := by decide +kernel
theorem dL_areRows_2 : decode cL_areRows 2 = .ok (.invokevirtual 70, 3) := by decide +kernel
theorem dL_areRows_5 : decode cL_areRows 5 = .ok (.istore_n 2, 1) := by decide +kernel
theorem dL_areRows_6 : decode cL_areRows 6 = .ok (.iconst 0, 1) := by decide +kernel
theorem dL_areRows_7 : decode cL_areRows 7 = .ok (.istore_n 3, 1) := by decide +kernel
theorem dL_areRows_8 : decode cL_areRows 8 = .ok (.iload_n 2, 1) := by decide +kernel
theorem dL_areRows_9 : decode cL_areRows 9 = .ok (.ifCond .le 7, 3) := by decide +kernel
theorem dL_areRows_12 : decode cL_areRows 12 = .ok (.iconst 1, 1) := by decide +kernel
theorem dL_areRows_13 : decode cL_areRows 13 = .ok (.goto 4, 3) := by decide +kernel
theorem dL_areRows_16 : decode cL_areRows 16 = .ok (.iconst 0, 1) := by decide +kernel
theorem dL_areRows_17 : decode cL_areRows 17 = .ok (.istore 4, 2) := by decide +kernel
theorem dL_areRows_19 : decode cL_areRows 19 = .ok (.iconst 0, 1) := by decide +kernel
theorem dL_areRows_20 : decode cL_areRows 20 = .ok (.istore 5, 2) := by decide +kernel
theorem dL_areRows_22 : decode cL_areRows 22 = .ok (.iload 5, 2) := by decide +kernel
theorem dL_areRows_24 : decode cL_areRows 24 = .ok (.aload_n 0, 1) := by decide +kernel
theorem dL_areRows_25 : decode cL_areRows 25 = .ok (.invokevirtual 73, 3) := by decide +kernel
theorem dL_areRows_28 : decode cL_areRows 28 = .ok (.if_icmp .ge 136, 3) := by decide +kernel
theorem dL_areRows_31 : decode cL_areRows 31 = .ok (.iload 4, 2) := by decide +kernel
theorem dL_areRows_33 : decode cL_areRows 33 = .ok (.ifCond .eq 131, 3) := by decide +kernel
theorem dL_areRows_36 : decode cL_areRows 36 = .ok (.aload_n 0, 1) := by decide +kernel
theorem dL_areRows_37 : decode cL_areRows 37 = .ok (.iload_n 1, 1) := by decide +kernel
theorem dL_areRows_38 : decode cL_areRows 38 = .ok (.iload 5, 2) := by decide +kernel
theorem dL_areRows_40 : decode cL_areRows 40 = .ok (.invokevirtual 77, 3) := by decide +kernel
theorem dL_areRows_43 : decode cL_areRows 43 = .ok (.istore 6, 2) := by decide +kernel
theorem dL_areRows_45 : decode cL_areRows 45 = .ok (.iload 6, 2) := by decide +kernel
theorem dL_areRows_47 : decode cL_areRows 47 = .ok (.ifCond .lt 103, 3) := by decide +kernel
theorem dL_areRows_50 : decode cL_areRows 50 = .ok (.iload 6, 2) := by decide +kernel
theorem dL_areRows_52 : decode cL_areRows 52 = .ok (.ifCond .ne 7, 3) := by decide +kernel
theorem dL_areRows_55 : decode cL_areRows 55 = .ok (.iconst 1, 1) := by decide +kernel
theorem dL_areRows_56 : decode cL_areRows 56 = .ok (.goto 4, 3) := by decide +kernel
theorem dL_areRows_59 : decode cL_areRows 59 = .ok (.iconst 0, 1) := by decide +kernel
theorem dL_areRows_60 : decode cL_areRows 60 = .ok (.aload_n 0, 1) := by decide +kernel
theorem dL_areRows_61 : decode cL_areRows 61 = .ok (.iload_n 1, 1) := by decide +kernel
theorem dL_areRows_62 : decode cL_areRows 62 = .ok (.iload 5, 2) := by decide +kernel
theorem dL_areRows_64 : decode cL_areRows 64 = .ok (.iconst 0, 1) := by decide +kernel
theorem dL_areRows_65 : decode cL_areRows 65 = .ok (.iconst 0, 1) := by decide +kernel
theorem dL_areRows_66 : decode cL_areRows 66 = .ok (.invokevirtual 80, 3) := by decide +kernel
theorem dL_areRows_69 : decode cL_areRows 69 = .ok (.ifCond .ge 7, 3) := by decide +kernel
theorem dL_areRows_72 : decode cL_areRows 72 = .ok (.iconst 1, 1) := by decide +kernel
theorem dL_areRows_73 : decode cL_areRows 73 = .ok (.goto 4, 3) := by decide +kernel
theorem dL_areRows_76 : decode cL_areRows 76 = .ok (.iconst 0, 1) := by decide +kernel
theorem dL_areRows_77 : decode cL_areRows 77 = .ok (.if_icmp .ne 73, 3) := by decide +kernel
theorem dL_areRows_80 : decode cL_areRows 80 = .ok (.iload 6, 2) := by decide +kernel
theorem dL_areRows_82 : decode cL_areRows 82 = .ok (.ifCond .eq 64, 3) := by decide +kernel
theorem dL_areRows_85 : decode cL_areRows 85 = .ok (.aload_n 0, 1) := by decide +kernel
theorem dL_areRows_86 : decode cL_areRows 86 = .ok (.iload_n 1, 1) := by decide +kernel
theorem dL_areRows_87 : decode cL_areRows 87 = .ok (.iload_n 3, 1) := by decide +kernel
theorem dL_areRows_88 : decode cL_areRows 88 = .ok (.invokevirtual 83, 3) := by decide +kernel
theorem dL_areRows_91 : decode cL_areRows 91 = .ok (.iload 5, 2) := by decide +kernel
theorem dL_areRows_93 : decode cL_areRows 93 = .ok (.if_icmp .ne 57, 3) := by decide +kernel
theorem dL_areRows_96 : decode cL_areRows 96 = .ok (.aload_n 0, 1) := by decide +kernel
theorem dL_areRows_97 : decode cL_areRows 97 = .ok (.iload_n 1, 1) := by decide +kernel
theorem dL_areRows_98 : decode cL_areRows 98 = .ok (.iload_n 3, 1) := by decide +kernel
theorem dL_areRows_99 : decode cL_areRows 99 = .ok (.iload 6, 2) := by decide +kernel
theorem dL_areRows_101 : decode cL_areRows 101 = .ok (.iadd, 1) := by decide +kernel
theorem dL_areRows_102 : decode cL_areRows 102 = .ok (.iconst 1, 1) := by decide +kernel
theorem dL_areRows_103 : decode cL_areRows 103 = .ok (.isub, 1) := by decide +kernel
theorem dL_areRows_104 : decode cL_areRows 104 = .ok (.invokevirtual 83, 3) := by decide +kernel
theorem dL_areRows_107 : decode cL_areRows 107 = .ok (.iload 5, 2) := by decide +kernel
theorem dL_areRows_109 : decode cL_areRows 109 = .ok (.if_icmp .ne 41, 3) := by decide +kernel
theorem dL_areRows_112 : decode cL_areRows 112 = .ok (.aload_n 0, 1) := by decide +kernel
theorem dL_areRows_113 : decode cL_areRows 113 = .ok (.iload_n 1, 1) := by decide +kernel
theorem dL_areRows_114 : decode cL_areRows 114 = .ok (.iload 5, 2) := by decide +kernel
theorem dL_areRows_116 : decode cL_areRows 116 = .ok (.aload_n 0, 1) := by decide +kernel
theorem dL_areRows_117 : decode cL_areRows 117 = .ok (.iload 5, 2) := by decide +kernel
theorem dL_areRows_119 : decode cL_areRows 119 = .ok (.invokevirtual 86, 3) := by decide +kernel
theorem dL_areRows_122 : decode cL_areRows 122 = .ok (.iconst 0, 1) := by decide +kernel
theorem dL_areRows_123 : decode cL_areRows 123 = .ok (.invokevirtual 80, 3) := by decide +kernel
theorem dL_areRows_126 : decode cL_areRows 126 = .ok (.iload_n 3, 1) := by decide +kernel
theorem dL_areRows_127 : decode cL_areRows 127 = .ok (.iload 6, 2) := by decide +kernel
theorem dL_areRows_129 : decode cL_areRows 129 = .ok (.iadd, 1) := by decide +kernel
theorem dL_areRows_130 : decode cL_areRows 130 = .ok (.if_icmp .ge 20, 3) := by decide +kernel
theorem dL_areRows_133 : decode cL_areRows 133 = .ok (.aload_n 0, 1) := by decide +kernel
theorem dL_areRows_134 : decode cL_areRows 134 = .ok (.iload_n 1, 1) := by decide +kernel
theorem dL_areRows_135 : decode cL_areRows 135 = .ok (.iload 5, 2) := by decide +kernel
theorem dL_areRows_137 : decode cL_areRows 137 = .ok (.iconst 0, 1) := by decide +kernel
theorem dL_areRows_138 : decode cL_areRows 138 = .ok (.iconst 0, 1) := by decide +kernel
theorem dL_areRows_139 : decode cL_areRows 139 = .ok (.invokevirtual 80, 3) := by decide +kernel
theorem dL_areRows_142 : decode cL_areRows 142 = .ok (.iload_n 3, 1) := by decide +kernel
theorem dL_areRows_143 : decode cL_areRows 143 = .ok (.if_icmp .lt 7, 3) := by decide +kernel
theorem dL_areRows_146 : decode cL_areRows 146 = .ok (.iconst 1, 1) := by decide +kernel
theorem dL_areRows_147 : decode cL_areRows 147 = .ok (.goto 4, 3) := by decide +kernel
theorem dL_areRows_150 : decode cL_areRows 150 = .ok (.iconst 0, 1) := by decide +kernel
theorem dL_areRows_151 : decode cL_areRows 151 = .ok (.istore 4, 2) := by decide +kernel
theorem dL_areRows_153 : decode cL_areRows 153 = .ok (.iload_n 3, 1) := by decide +kernel
theorem dL_areRows_154 : decode cL_areRows 154 = .ok (.iload 6, 2) := by decide +kernel
theorem dL_areRows_156 : decode cL_areRows 156 = .ok (.iadd, 1) := by decide +kernel
theorem dL_areRows_157 : decode cL_areRows 157 = .ok (.istore_n 3, 1) := by decide +kernel
