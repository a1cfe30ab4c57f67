theorem dX10_of_96 : decode cX10_of 96 = .ok (.iload_n 2, 1) := by decide +kernel
theorem dX10_of_97 : decode cX10_of 97 = .ok (.bipush 12, 2) := by decide +kernel
theorem dX10_of_99 : decode cX10_of 99 = .ok (.if_icmp .ne 11, 3) := by decide +kernel
theorem dX10_of_102 : decode cX10_of 102 = .ok (.aload_n 0, 1) := by decide +kernel
theorem dX10_of_103 : decode cX10_of 103 = .ok (.iload_n 1, 1) := by decide +kernel
theorem dX10_of_104 : decode cX10_of 104 = .ok (.invokevirtual 135, 3) := by decide +kernel
theorem dX10_of_107 : decode cX10_of 107 = .ok (.goto 10, 3) := by decide +kernel
theorem dX10_of_110 : decode cX10_of 110 = .ok (.aload_n 0, 1) := by decide +kernel
theorem dX10_of_111 : decode cX10_of 111 = .ok (.iload_n 1, 1) := by decide +kernel
theorem dX10_of_112 : decode cX10_of 112 = .ok (.bipush 20, 2) := by decide +kernel
theorem dX10_of_114 : decode cX10_of 114 = .ok (.invokevirtual 56, 3) := by decide +kernel
theorem dX10_of_117 : decode cX10_of 117 = .ok (.ireturn, 1) := by decide +kernel
theorem dX10_way_0 : decode cX10_way 0 = .ok (.aload_n 0, 1) := by decide +kernel
theorem dX10_way_1 : decode cX10_way 1 = .ok (.iload_n 1, 1) := by decide +kernel
theorem dX10_way_2 : decode cX10_way 2 = .ok (.invokevirtual 96, 3) := by decide +kernel
theorem dX10_way_5 : decode cX10_way 5 = .ok (.ifCond .ne 5, 3) := by decide +kernel
theorem dX10_way_8 : decode cX10_way 8 = .ok (.iconst (-1), 1) := by decide +kernel
theorem dX10_way_9 : decode cX10_way 9 = .ok (.ireturn, 1) := by decide +kernel
theorem dX10_way_10 : decode cX10_way 10 = .ok (.iload_n 2, 1) := by decide +kernel
theorem dX10_way_11 : decode cX10_way 11 = .ok (.iconst 0, 1) := by decide +kernel
theorem dX10_way_12 : decode cX10_way 12 = .ok (.aload_n 0, 1) := by decide +kernel
theorem dX10_way_13 : decode cX10_way 13 = .ok (.iload_n 1, 1) := by decide +kernel
theorem dX10_way_14 : decode cX10_way 14 = .ok (.bipush 11, 2) := by decide +kernel
theorem dX10_way_16 : decode cX10_way 16 = .ok (.invokevirtual 56, 3) := by decide +kernel
theorem dX10_way_19 : decode cX10_way 19 = .ok (.iconst 1, 1) := by decide +kernel
theorem dX10_way_20 : decode cX10_way 20 = .ok (.isub, 1) := by decide +kernel
theorem dX10_way_21 : decode cX10_way 21 = .ok (.invokestatic 49, 3) := by decide +kernel
theorem dX10_way_24 : decode cX10_way 24 = .ok (.ifCond .eq 15, 3) := by decide +kernel
theorem dX10_way_27 : decode cX10_way 27 = .ok (.aload_n 0, 1) := by decide +kernel
theorem dX10_way_28 : decode cX10_way 28 = .ok (.iload_n 1, 1) := by decide +kernel
theorem dX10_way_29 : decode cX10_way 29 = .ok (.bipush 12, 2) := by decide +kernel
theorem dX10_way_31 : decode cX10_way 31 = .ok (.iload_n 2, 1) := by decide +kernel
theorem dX10_way_32 : decode cX10_way 32 = .ok (.iadd, 1) := by decide +kernel
theorem dX10_way_33 : decode cX10_way 33 = .ok (.invokevirtual 56, 3) := by decide +kernel
theorem dX10_way_36 : decode cX10_way 36 = .ok (.goto 5, 3) := by decide +kernel
theorem dX10_way_39 : decode cX10_way 39 = .ok (.bipush (-2), 2) := by decide +kernel
theorem dX10_way_41 : decode cX10_way 41 = .ok (.ireturn, 1) := by decide +kernel
theorem dX10_clear_0 : decode cX10_clear 0 = .ok (.aload_n 0, 1) := by decide +kernel
theorem dX10_clear_1 : decode cX10_clear 1 = .ok (.iload_n 1, 1) := by decide +kernel
theorem dX10_clear_2 : decode cX10_clear 2 = .ok (.invokevirtual 96, 3) := by decide +kernel
theorem dX10_clear_5 : decode cX10_clear 5 = .ok (.ifCond .eq 25, 3) := by decide +kernel
theorem dX10_clear_8 : decode cX10_clear 8 = .ok (.aload_n 0, 1) := by decide +kernel
theorem dX10_clear_9 : decode cX10_clear 9 = .ok (.iload_n 2, 1) := by decide +kernel
theorem dX10_clear_10 : decode cX10_clear 10 = .ok (.invokevirtual 96, 3) := by decide +kernel
theorem dX10_clear_13 : decode cX10_clear 13 = .ok (.ifCond .eq 17, 3) := by decide +kernel
theorem dX10_clear_16 : decode cX10_clear 16 = .ok (.aload_n 0, 1) := by decide +kernel
theorem dX10_clear_17 : decode cX10_clear 17 = .ok (.getfield 21, 3) := by decide +kernel
theorem dX10_clear_20 : decode cX10_clear 20 = .ok (.bipush 8, 2) := by decide +kernel
theorem dX10_clear_22 : decode cX10_clear 22 = .ok (.iload_n 1, 1) := by decide +kernel
theorem dX10_clear_23 : decode cX10_clear 23 = .ok (.imul, 1) := by decide +kernel
theorem dX10_clear_24 : decode cX10_clear 24 = .ok (.iload_n 2, 1) := by decide +kernel
theorem dX10_clear_25 : decode cX10_clear 25 = .ok (.iadd, 1) := by decide +kernel
theorem dX10_clear_26 : decode cX10_clear 26 = .ok (.iaload, 1) := by decide +kernel
theorem dX10_clear_27 : decode cX10_clear 27 = .ok (.goto 4, 3) := by decide +kernel
theorem dX10_clear_30 : decode cX10_clear 30 = .ok (.iconst (-1), 1) := by decide +kernel
theorem dX10_clear_31 : decode cX10_clear 31 = .ok (.ireturn, 1) := by decide +kernel
theorem dX10_narrow_0 : decode cX10_narrow 0 = .ok (.aload_n 0, 1) := by decide +kernel
theorem dX10_narrow_1 : decode cX10_narrow 1 = .ok (.iload_n 1, 1) := by decide +kernel
theorem dX10_narrow_2 : decode cX10_narrow 2 = .ok (.invokevirtual 96, 3) := by decide +kernel
theorem dX10_narrow_5 : decode cX10_narrow 5 = .ok (.ifCond .eq 25, 3) := by decide +kernel
theorem dX10_narrow_8 : decode cX10_narrow 8 = .ok (.aload_n 0, 1) := by decide +kernel
theorem dX10_narrow_9 : decode cX10_narrow 9 = .ok (.iload_n 2, 1) := by decide +kernel
theorem dX10_narrow_10 : decode cX10_narrow 10 = .ok (.invokevirtual 96, 3) := by decide +kernel
theorem dX10_narrow_13 : decode cX10_narrow 13 = .ok (.ifCond .eq 17, 3) := by decide +kernel
theorem dX10_narrow_16 : decode cX10_narrow 16 = .ok (.aload_n 0, 1) := by decide +kernel
theorem dX10_narrow_17 : decode cX10_narrow 17 = .ok (.getfield 24, 3) := by decide +kernel
theorem dX10_narrow_20 : decode cX10_narrow 20 = .ok (.bipush 8, 2) := by decide +kernel
theorem dX10_narrow_22 : decode cX10_narrow 22 = .ok (.iload_n 1, 1) := by decide +kernel
theorem dX10_narrow_23 : decode cX10_narrow 23 = .ok (.imul, 1) := by decide +kernel
theorem dX10_narrow_24 : decode cX10_narrow 24 = .ok (.iload_n 2, 1) := by decide +kernel
theorem dX10_narrow_25 : decode cX10_narrow 25 = .ok (.iadd, 1) := by decide +kernel
theorem dX10_narrow_26 : decode cX10_narrow 26 = .ok (.iaload, 1) := by decide +kernel
theorem dX10_narrow_27 : decode cX10_narrow 27 = .ok (.goto 4, 3) := by decide +kernel
theorem dX10_narrow_30 : decode cX10_narrow 30 = .ok (.iconst (-1), 1) := by decide +kernel
theorem dX10_narrow_31 : decode cX10_narrow 31 = .ok (.ireturn, 1) := by decide +kernel
theorem dX10_table_0 : decode cX10_table 0 = .ok (.iload_n 1, 1) := by decide +kernel
theorem dX10_table_1 : decode cX10_table 1 = .ok (.iconst 0, 1) := by decide +kernel
theorem dX10_table_2 : decode cX10_table 2 = .ok (.iconst 3, 1) := by decide +kernel
theorem dX10_table_3 : decode cX10_table 3 = .ok (.invokestatic 49, 3) := by decide +kernel
theorem dX10_table_6 : decode cX10_table 6 = .ok (.ifCond .ne 5, 3) := by decide +kernel
theorem dX10_table_9 : decode cX10_table 9 = .ok (.iconst (-1), 1) := by decide +kernel
theorem dX10_table_10 : decode cX10_table 10 = .ok (.ireturn, 1) := by decide +kernel
theorem dX10_table_11 : decode cX10_table 11 = .ok (.iconst 0, 1) := by decide +kernel
theorem dX10_table_12 : decode cX10_table 12 = .ok (.istore_n 2, 1) := by decide +kernel
theorem dX10_table_13 : decode cX10_table 13 = .ok (.iconst 0, 1) := by decide +kernel
theorem dX10_table_14 : decode cX10_table 14 = .ok (.istore_n 3, 1) := by decide +kernel
theorem dX10_table_15 : decode cX10_table 15 = .ok (.iconst 0, 1) := by decide +kernel
theorem dX10_table_16 : decode cX10_table 16 = .ok (.istore 4, 2) := by decide +kernel
theorem dX10_table_18 : decode cX10_table 18 = .ok (.iconst 0, 1) := by decide +kernel
theorem dX10_table_19 : decode cX10_table 19 = .ok (.istore 5, 2) := by decide +kernel
theorem dX10_table_21 : decode cX10_table 21 = .ok (.iconst 0, 1) := by decide +kernel
theorem dX10_table_22 : decode cX10_table 22 = .ok (.istore 6, 2) := by decide +kernel
theorem dX10_table_24 : decode cX10_table 24 = .ok (.iload 6, 2) := by decide +kernel
theorem dX10_table_26 : decode cX10_table 26 = .ok (.aload_n 0, 1) := by decide +kernel
theorem dX10_table_27 : decode cX10_table 27 = .ok (.getfield 11, 3) := by decide +kernel
theorem dX10_table_30 : decode cX10_table 30 = .ok (.bipush 13, 2) := by decide +kernel
theorem dX10_table_32 : decode cX10_table 32 = .ok (.iaload, 1) := by decide +kernel
theorem dX10_table_33 : decode cX10_table 33 = .ok (.if_icmp .ge 109, 3) := by decide +kernel
theorem dX10_table_36 : decode cX10_table 36 = .ok (.iload 5, 2) := by decide +kernel
theorem dX10_table_38 : decode cX10_table 38 = .ok (.aload_n 0, 1) := by decide +kernel
theorem dX10_table_39 : decode cX10_table 39 = .ok (.iload 6, 2) := by decide +kernel
theorem dX10_table_41 : decode cX10_table 41 = .ok (.iconst 2, 1) := by decide +kernel
theorem dX10_table_42 : decode cX10_table 42 = .ok (.invokevirtual 56, 3) := by decide +kernel
theorem dX10_table_45 : decode cX10_table 45 = .ok (.invokestatic 73, 3) := by decide +kernel
theorem dX10_table_48 : decode cX10_table 48 = .ok (.istore 5, 2) := by decide +kernel
theorem dX10_table_50 : decode cX10_table 50 = .ok (.iconst 0, 1) := by decide +kernel
theorem dX10_table_51 : decode cX10_table 51 = .ok (.istore 7, 2) := by decide +kernel
theorem dX10_table_53 : decode cX10_table 53 = .ok (.iload 7, 2) := by decide +kernel
theorem dX10_table_55 : decode cX10_table 55 = .ok (.aload_n 0, 1) := by decide +kernel
theorem dX10_table_56 : decode cX10_table 56 = .ok (.getfield 11, 3) := by decide +kernel
theorem dX10_table_59 : decode cX10_table 59 = .ok (.bipush 13, 2) := by decide +kernel
theorem dX10_table_61 : decode cX10_table 61 = .ok (.iaload, 1) := by decide +kernel
theorem dX10_table_62 : decode cX10_table 62 = .ok (.if_icmp .ge 74, 3) := by decide +kernel
theorem dX10_table_65 : decode cX10_table 65 = .ok (.aload_n 0, 1) := by decide +kernel
theorem dX10_table_66 : decode cX10_table 66 = .ok (.iload 6, 2) := by decide +kernel
theorem dX10_table_68 : decode cX10_table 68 = .ok (.iload 7, 2) := by decide +kernel
theorem dX10_table_70 : decode cX10_table 70 = .ok (.invokevirtual 81, 3) := by decide +kernel
theorem dX10_table_73 : decode cX10_table 73 = .ok (.ifCond .ne 6, 3) := by decide +kernel
theorem dX10_table_76 : decode cX10_table 76 = .ok (.goto 54, 3) := by decide +kernel
theorem dX10_table_79 : decode cX10_table 79 = .ok (.iload_n 2, 1) := by decide +kernel
theorem dX10_table_80 : decode cX10_table 80 = .ok (.iload 6, 2) := by decide +kernel
theorem dX10_table_82 : decode cX10_table 82 = .ok (.iload 7, 2) := by decide +kernel
theorem dX10_table_84 : decode cX10_table 84 = .ok (.if_icmp .ge 7, 3) := by decide +kernel
theorem dX10_table_87 : decode cX10_table 87 = .ok (.iconst 1, 1) := by decide +kernel
theorem dX10_table_88 : decode cX10_table 88 = .ok (.goto 4, 3) := by decide +kernel
theorem dX10_table_91 : decode cX10_table 91 = .ok (.iconst 0, 1) := by decide +kernel
theorem dX10_table_92 : decode cX10_table 92 = .ok (.iadd, 1) := by decide +kernel
theorem dX10_table_93 : decode cX10_table 93 = .ok (.istore_n 2, 1) := by decide +kernel
theorem dX10_table_94 : decode cX10_table 94 = .ok (.iload_n 3, 1) := by decide +kernel
theorem dX10_table_95 : decode cX10_table 95 = .ok (.aload_n 0, 1) := by decide +kernel
theorem dX10_table_96 : decode cX10_table 96 = .ok (.getfield 21, 3) := by decide +kernel
theorem dX10_table_99 : decode cX10_table 99 = .ok (.bipush 8, 2) := by decide +kernel
theorem dX10_table_101 : decode cX10_table 101 = .ok (.iload 6, 2) := by decide +kernel
theorem dX10_table_103 : decode cX10_table 103 = .ok (.imul, 1) := by decide +kernel
theorem dX10_table_104 : decode cX10_table 104 = .ok (.iload 7, 2) := by decide +kernel
theorem dX10_table_106 : decode cX10_table 106 = .ok (.iadd, 1) := by decide +kernel
theorem dX10_table_107 : decode cX10_table 107 = .ok (.iaload, 1) := by decide +kernel
theorem dX10_table_108 : decode cX10_table 108 = .ok (.invokestatic 73, 3) := by decide +kernel
theorem dX10_table_111 : decode cX10_table 111 = .ok (.istore_n 3, 1) := by decide +kernel
theorem dX10_table_112 : decode cX10_table 112 = .ok (.iload 4, 2) := by decide +kernel
theorem dX10_table_114 : decode cX10_table 114 = .ok (.aload_n 0, 1) := by decide +kernel
theorem dX10_table_115 : decode cX10_table 115 = .ok (.getfield 21, 3) := by decide +kernel
theorem dX10_table_118 : decode cX10_table 118 = .ok (.bipush 8, 2) := by decide +kernel
theorem dX10_table_120 : decode cX10_table 120 = .ok (.iload 6, 2) := by decide +kernel
theorem dX10_table_122 : decode cX10_table 122 = .ok (.imul, 1) := by decide +kernel
theorem dX10_table_123 : decode cX10_table 123 = .ok (.iload 7, 2) := by decide +kernel
theorem dX10_table_125 : decode cX10_table 125 = .ok (.iadd, 1) := by decide +kernel
theorem dX10_table_126 : decode cX10_table 126 = .ok (.iaload, 1) := by decide +kernel
theorem dX10_table_127 : decode cX10_table 127 = .ok (.iadd, 1) := by decide +kernel
theorem dX10_table_128 : decode cX10_table 128 = .ok (.istore 4, 2) := by decide +kernel
theorem dX10_table_130 : decode cX10_table 130 = .ok (.iinc 7 1, 3) := by decide +kernel
theorem dX10_table_133 : decode cX10_table 133 = .ok (.goto (-80), 3) := by decide +kernel
theorem dX10_table_136 : decode cX10_table 136 = .ok (.iinc 6 1, 3) := by decide +kernel
theorem dX10_table_139 : decode cX10_table 139 = .ok (.goto (-115), 3) := by decide +kernel
theorem dX10_table_142 : decode cX10_table 142 = .ok (.iload_n 1, 1) := by decide +kernel
theorem dX10_table_143 : decode cX10_table 143 = .ok (.ifCond .ne 7, 3) := by decide +kernel
theorem dX10_table_146 : decode cX10_table 146 = .ok (.iload_n 2, 1) := by decide +kernel
theorem dX10_table_147 : decode cX10_table 147 = .ok (.goto 38, 3) := by decide +kernel
theorem dX10_table_150 : decode cX10_table 150 = .ok (.iload_n 1, 1) := by decide +kernel
theorem dX10_table_151 : decode cX10_table 151 = .ok (.iconst 1, 1) := by decide +kernel
theorem dX10_table_152 : decode cX10_table 152 = .ok (.if_icmp .ne 7, 3) := by decide +kernel
theorem dX10_table_155 : decode cX10_table 155 = .ok (.iload_n 3, 1) := by decide +kernel
theorem dX10_table_156 : decode cX10_table 156 = .ok (.goto 29, 3) := by decide +kernel
theorem dX10_table_159 : decode cX10_table 159 = .ok (.iload_n 1, 1) := by decide +kernel
theorem dX10_table_160 : decode cX10_table 160 = .ok (.iconst 2, 1) := by decide +kernel
theorem dX10_table_161 : decode cX10_table 161 = .ok (.if_icmp .ne 8, 3) := by decide +kernel
theorem dX10_table_164 : decode cX10_table 164 = .ok (.iload 4, 2) := by decide +kernel
theorem dX10_table_166 : decode cX10_table 166 = .ok (.goto 19, 3) := by decide +kernel
theorem dX10_table_169 : decode cX10_table 169 = .ok (.aload_n 0, 1) := by decide +kernel
theorem dX10_table_170 : decode cX10_table 170 = .ok (.getfield 11, 3) := by decide +kernel
theorem dX10_table_173 : decode cX10_table 173 = .ok (.bipush 14, 2) := by decide +kernel
theorem dX10_table_175 : decode cX10_table 175 = .ok (.iaload, 1) := by decide +kernel
theorem dX10_table_176 : decode cX10_table 176 = .ok (.iconst 1, 1) := by decide +kernel
theorem dX10_table_177 : decode cX10_table 177 = .ok (.iadd, 1) := by decide +kernel
theorem dX10_table_178 : decode cX10_table 178 = .ok (.iload_n 3, 1) := by decide +kernel
theorem dX10_table_179 : decode cX10_table 179 = .ok (.iload 5, 2) := by decide +kernel
theorem dX10_table_181 : decode cX10_table 181 = .ok (.iadd, 1) := by decide +kernel
theorem dX10_table_182 : decode cX10_table 182 = .ok (.iconst 1, 1) := by decide +kernel
theorem dX10_table_183 : decode cX10_table 183 = .ok (.iadd, 1) := by decide +kernel
theorem dX10_table_184 : decode cX10_table 184 = .ok (.imul, 1) := by decide +kernel
theorem dX10_table_185 : decode cX10_table 185 = .ok (.ireturn, 1) := by decide +kernel
theorem dX10_phaseOf_0 : decode cX10_phaseOf 0 = .ok (.aload_n 0, 1) := by decide +kernel
theorem dX10_phaseOf_1 : decode cX10_phaseOf 1 = .ok (.iload_n 1, 1) := by decide +kernel
theorem dX10_phaseOf_2 : decode cX10_phaseOf 2 = .ok (.invokevirtual 215, 3) := by decide +kernel
theorem dX10_phaseOf_5 : decode cX10_phaseOf 5 = .ok (.ifCond .eq 12, 3) := by decide +kernel
theorem dX10_phaseOf_8 : decode cX10_phaseOf 8 = .ok (.iload_n 2, 1) := by decide +kernel
theorem dX10_phaseOf_9 : decode cX10_phaseOf 9 = .ok (.iconst 0, 1) := by decide +kernel
theorem dX10_phaseOf_10 : decode cX10_phaseOf 10 = .ok (.iconst 3, 1) := by decide +kernel
theorem dX10_phaseOf_11 : decode cX10_phaseOf 11 = .ok (.invokestatic 49, 3) := by decide +kernel
theorem dX10_phaseOf_14 : decode cX10_phaseOf 14 = .ok (.ifCond .ne 5, 3) := by decide +kernel
theorem dX10_phaseOf_17 : decode cX10_phaseOf 17 = .ok (.iconst (-1), 1) := by decide +kernel
theorem dX10_phaseOf_18 : decode cX10_phaseOf 18 = .ok (.ireturn, 1) := by decide +kernel
theorem dX10_phaseOf_19 : decode cX10_phaseOf 19 = .ok (.iload_n 2, 1) := by decide +kernel
theorem dX10_phaseOf_20 : decode cX10_phaseOf 20 = .ok (.iconst 3, 1) := by decide +kernel
theorem dX10_phaseOf_21 : decode cX10_phaseOf 21 = .ok (.if_icmp .ge 20, 3) := by decide +kernel
theorem dX10_phaseOf_24 : decode cX10_phaseOf 24 = .ok (.aload_n 0, 1) := by decide +kernel
theorem dX10_phaseOf_25 : decode cX10_phaseOf 25 = .ok (.getfield 11, 3) := by decide +kernel
theorem dX10_phaseOf_28 : decode cX10_phaseOf 28 = .ok (.sipush 216, 3) := by decide +kernel
theorem dX10_phaseOf_31 : decode cX10_phaseOf 31 = .ok (.iconst 3, 1) := by decide +kernel
theorem dX10_phaseOf_32 : decode cX10_phaseOf 32 = .ok (.iload_n 1, 1) := by decide +kernel
theorem dX10_phaseOf_33 : decode cX10_phaseOf 33 = .ok (.imul, 1) := by decide +kernel
theorem dX10_phaseOf_34 : decode cX10_phaseOf 34 = .ok (.iadd, 1) := by decide +kernel
theorem dX10_phaseOf_35 : decode cX10_phaseOf 35 = .ok (.iload_n 2, 1) := by decide +kernel
theorem dX10_phaseOf_36 : decode cX10_phaseOf 36 = .ok (.iadd, 1) := by decide +kernel
theorem dX10_phaseOf_37 : decode cX10_phaseOf 37 = .ok (.iaload, 1) := by decide +kernel
theorem dX10_phaseOf_38 : decode cX10_phaseOf 38 = .ok (.goto 16, 3) := by decide +kernel
theorem dX10_phaseOf_41 : decode cX10_phaseOf 41 = .ok (.aload_n 0, 1) := by decide +kernel
theorem dX10_phaseOf_42 : decode cX10_phaseOf 42 = .ok (.iload_n 1, 1) := by decide +kernel
theorem dX10_phaseOf_43 : decode cX10_phaseOf 43 = .ok (.invokevirtual 154, 3) := by decide +kernel
theorem dX10_phaseOf_46 : decode cX10_phaseOf 46 = .ok (.ifCond .eq 7, 3) := by decide +kernel
theorem dX10_phaseOf_49 : decode cX10_phaseOf 49 = .ok (.iconst 1, 1) := by decide +kernel
theorem dX10_phaseOf_50 : decode cX10_phaseOf 50 = .ok (.goto 4, 3) := by decide +kernel
theorem dX10_phaseOf_53 : decode cX10_phaseOf 53 = .ok (.iconst 0, 1) := by decide +kernel
theorem dX10_phaseOf_54 : decode cX10_phaseOf 54 = .ok (.ireturn, 1) := by decide +kernel
theorem dX10_taken_0 : decode cX10_taken 0 = .ok (.aload_n 0, 1) := by decide +kernel
theorem dX10_taken_1 : decode cX10_taken 1 = .ok (.iload_n 1, 1) := by decide +kernel
theorem dX10_taken_2 : decode cX10_taken 2 = .ok (.invokevirtual 96, 3) := by decide +kernel
theorem dX10_taken_5 : decode cX10_taken 5 = .ok (.ifCond .ne 5, 3) := by decide +kernel
theorem dX10_taken_8 : decode cX10_taken 8 = .ok (.iconst (-1), 1) := by decide +kernel
theorem dX10_taken_9 : decode cX10_taken 9 = .ok (.ireturn, 1) := by decide +kernel
theorem dX10_taken_10 : decode cX10_taken 10 = .ok (.iload_n 2, 1) := by decide +kernel
theorem dX10_taken_11 : decode cX10_taken 11 = .ok (.iconst 0, 1) := by decide +kernel
theorem dX10_taken_12 : decode cX10_taken 12 = .ok (.iconst 4, 1) := by decide +kernel
theorem dX10_taken_13 : decode cX10_taken 13 = .ok (.invokestatic 49, 3) := by decide +kernel
theorem dX10_taken_16 : decode cX10_taken 16 = .ok (.ifCond .ne 6, 3) := by decide +kernel
theorem dX10_taken_19 : decode cX10_taken 19 = .ok (.bipush (-2), 2) := by decide +kernel
theorem dX10_taken_21 : decode cX10_taken 21 = .ok (.ireturn, 1) := by decide +kernel
theorem dX10_taken_22 : decode cX10_taken 22 = .ok (.aload_n 0, 1) := by decide +kernel
theorem dX10_taken_23 : decode cX10_taken 23 = .ok (.iload_n 1, 1) := by decide +kernel
theorem dX10_taken_24 : decode cX10_taken 24 = .ok (.iconst 0, 1) := by decide +kernel
theorem dX10_taken_25 : decode cX10_taken 25 = .ok (.invokevirtual 56, 3) := by decide +kernel
theorem dX10_taken_28 : decode cX10_taken 28 = .ok (.istore_n 3, 1) := by decide +kernel
theorem dX10_taken_29 : decode cX10_taken 29 = .ok (.iload_n 2, 1) := by decide +kernel
theorem dX10_taken_30 : decode cX10_taken 30 = .ok (.ifCond .eq 46, 3) := by decide +kernel
theorem dX10_taken_33 : decode cX10_taken 33 = .ok (.iload_n 2, 1) := by decide +kernel
theorem dX10_taken_34 : decode cX10_taken 34 = .ok (.iconst 1, 1) := by decide +kernel
theorem dX10_taken_35 : decode cX10_taken 35 = .ok (.if_icmp .ne 8, 3) := by decide +kernel
theorem dX10_taken_38 : decode cX10_taken 38 = .ok (.iload_n 3, 1) := by decide +kernel
theorem dX10_taken_39 : decode cX10_taken 39 = .ok (.iconst 1, 1) := by decide +kernel
theorem dX10_taken_40 : decode cX10_taken 40 = .ok (.if_icmp .ne 36, 3) := by decide +kernel
theorem dX10_taken_43 : decode cX10_taken 43 = .ok (.iload_n 2, 1) := by decide +kernel
theorem dX10_taken_44 : decode cX10_taken 44 = .ok (.iconst 2, 1) := by decide +kernel
theorem dX10_taken_45 : decode cX10_taken 45 = .ok (.if_icmp .ne 12, 3) := by decide +kernel
theorem dX10_taken_48 : decode cX10_taken 48 = .ok (.iload_n 3, 1) := by decide +kernel
theorem dX10_taken_49 : decode cX10_taken 49 = .ok (.ifCond .eq 27, 3) := by decide +kernel
theorem dX10_taken_52 : decode cX10_taken 52 = .ok (.iload_n 3, 1) := by decide +kernel
theorem dX10_taken_53 : decode cX10_taken 53 = .ok (.iconst 2, 1) := by decide +kernel
theorem dX10_taken_54 : decode cX10_taken 54 = .ok (.if_icmp .eq 22, 3) := by decide +kernel
theorem dX10_taken_57 : decode cX10_taken 57 = .ok (.iload_n 2, 1) := by decide +kernel
theorem dX10_taken_58 : decode cX10_taken 58 = .ok (.iconst 3, 1) := by decide +kernel
theorem dX10_taken_59 : decode cX10_taken 59 = .ok (.if_icmp .ne 7, 3) := by decide +kernel
theorem dX10_taken_62 : decode cX10_taken 62 = .ok (.iload_n 3, 1) := by decide +kernel
theorem dX10_taken_63 : decode cX10_taken 63 = .ok (.ifCond .eq 13, 3) := by decide +kernel
theorem dX10_taken_66 : decode cX10_taken 66 = .ok (.iload_n 2, 1) := by decide +kernel
theorem dX10_taken_67 : decode cX10_taken 67 = .ok (.iconst 4, 1) := by decide +kernel
theorem dX10_taken_68 : decode cX10_taken 68 = .ok (.if_icmp .ne 12, 3) := by decide +kernel
theorem dX10_taken_71 : decode cX10_taken 71 = .ok (.iload_n 3, 1) := by decide +kernel
theorem dX10_taken_72 : decode cX10_taken 72 = .ok (.iconst 1, 1) := by decide +kernel
theorem dX10_taken_73 : decode cX10_taken 73 = .ok (.if_icmp .ne 7, 3) := by decide +kernel
theorem dX10_taken_76 : decode cX10_taken 76 = .ok (.iconst 1, 1) := by decide +kernel
theorem dX10_taken_77 : decode cX10_taken 77 = .ok (.goto 4, 3) := by decide +kernel
theorem dX10_taken_80 : decode cX10_taken 80 = .ok (.iconst 0, 1) := by decide +kernel
theorem dX10_taken_81 : decode cX10_taken 81 = .ok (.istore 4, 2) := by decide +kernel
theorem dX10_taken_83 : decode cX10_taken 83 = .ok (.iload 4, 2) := by decide +kernel
theorem dX10_taken_85 : decode cX10_taken 85 = .ok (.ifCond .eq 7, 3) := by decide +kernel
theorem dX10_taken_88 : decode cX10_taken 88 = .ok (.iload_n 3, 1) := by decide +kernel
theorem dX10_taken_89 : decode cX10_taken 89 = .ok (.goto 5, 3) := by decide +kernel
theorem dX10_taken_92 : decode cX10_taken 92 = .ok (.bipush (-12), 2) := by decide +kernel
theorem dX10_taken_94 : decode cX10_taken 94 = .ok (.ireturn, 1) := by decide +kernel
theorem dX10_recordAt_0 : decode cX10_recordAt 0 = .ok (.aload_n 0, 1) := by decide +kernel
theorem dX10_recordAt_1 : decode cX10_recordAt 1 = .ok (.getfield 11, 3) := by decide +kernel
theorem dX10_recordAt_4 : decode cX10_recordAt 4 = .ok (.sipush 234, 3) := by decide +kernel
theorem dX10_recordAt_7 : decode cX10_recordAt 7 = .ok (.iconst 3, 1) := by decide +kernel
theorem dX10_recordAt_8 : decode cX10_recordAt 8 = .ok (.iload_n 1, 1) := by decide +kernel
theorem dX10_recordAt_9 : decode cX10_recordAt 9 = .ok (.imul, 1) := by decide +kernel
theorem dX10_recordAt_10 : decode cX10_recordAt 10 = .ok (.iadd, 1) := by decide +kernel
theorem dX10_recordAt_11 : decode cX10_recordAt 11 = .ok (.iload_n 2, 1) := by decide +kernel
theorem dX10_recordAt_12 : decode cX10_recordAt 12 = .ok (.iadd, 1) := by decide +kernel
theorem dX10_recordAt_13 : decode cX10_recordAt 13 = .ok (.iaload, 1) := by decide +kernel
theorem dX10_recordAt_14 : decode cX10_recordAt 14 = .ok (.ireturn, 1) := by decide +kernel
theorem dX10_recorded_0 : decode cX10_recorded 0 = .ok (.iload_n 2, 1) := by decide +kernel
theorem dX10_recorded_1 : decode cX10_recorded 1 = .ok (.iconst 0, 1) := by decide +kernel
theorem dX10_recorded_2 : decode cX10_recorded 2 = .ok (.iconst 2, 1) := by decide +kernel
theorem dX10_recorded_3 : decode cX10_recorded 3 = .ok (.invokestatic 49, 3) := by decide +kernel
theorem dX10_recorded_6 : decode cX10_recorded 6 = .ok (.ifCond .ne 5, 3) := by decide +kernel
theorem dX10_recorded_9 : decode cX10_recorded 9 = .ok (.iconst (-1), 1) := by decide +kernel
theorem dX10_recorded_10 : decode cX10_recorded 10 = .ok (.ireturn, 1) := by decide +kernel
theorem dX10_recorded_11 : decode cX10_recorded 11 = .ok (.iload_n 1, 1) := by decide +kernel
theorem dX10_recorded_12 : decode cX10_recorded 12 = .ok (.iconst 0, 1) := by decide +kernel
theorem dX10_recorded_13 : decode cX10_recorded 13 = .ok (.aload_n 0, 1) := by decide +kernel
theorem dX10_recorded_14 : decode cX10_recorded 14 = .ok (.getfield 11, 3) := by decide +kernel
theorem dX10_recorded_17 : decode cX10_recorded 17 = .ok (.bipush 15, 2) := by decide +kernel
theorem dX10_recorded_19 : decode cX10_recorded 19 = .ok (.iaload, 1) := by decide +kernel
theorem dX10_recorded_20 : decode cX10_recorded 20 = .ok (.iconst 1, 1) := by decide +kernel
theorem dX10_recorded_21 : decode cX10_recorded 21 = .ok (.isub, 1) := by decide +kernel
theorem dX10_recorded_22 : decode cX10_recorded 22 = .ok (.invokestatic 49, 3) := by decide +kernel
theorem dX10_recorded_25 : decode cX10_recorded 25 = .ok (.ifCond .eq 22, 3) := by decide +kernel
theorem dX10_recorded_28 : decode cX10_recorded 28 = .ok (.aload_n 0, 1) := by decide +kernel
theorem dX10_recorded_29 : decode cX10_recorded 29 = .ok (.aload_n 0, 1) := by decide +kernel
theorem dX10_recorded_30 : decode cX10_recorded 30 = .ok (.getfield 11, 3) := by decide +kernel
theorem dX10_recorded_33 : decode cX10_recorded 33 = .ok (.bipush 15, 2) := by decide +kernel
theorem dX10_recorded_35 : decode cX10_recorded 35 = .ok (.iaload, 1) := by decide +kernel
theorem dX10_recorded_36 : decode cX10_recorded 36 = .ok (.iconst 1, 1) := by decide +kernel
theorem dX10_recorded_37 : decode cX10_recorded 37 = .ok (.isub, 1) := by decide +kernel
theorem dX10_recorded_38 : decode cX10_recorded 38 = .ok (.iload_n 1, 1) := by decide +kernel
theorem dX10_recorded_39 : decode cX10_recorded 39 = .ok (.isub, 1) := by decide +kernel
theorem dX10_recorded_40 : decode cX10_recorded 40 = .ok (.iload_n 2, 1) := by decide +kernel
theorem dX10_recorded_41 : decode cX10_recorded 41 = .ok (.invokevirtual 218, 3) := by decide +kernel
theorem dX10_recorded_44 : decode cX10_recorded 44 = .ok (.goto 5, 3) := by decide +kernel
theorem dX10_recorded_47 : decode cX10_recorded 47 = .ok (.bipush (-2), 2) := by decide +kernel
theorem dX10_recorded_49 : decode cX10_recorded 49 = .ok (.ireturn, 1) := by decide +kernel
theorem dX10_greens_0 : decode cX10_greens 0 = .ok (.aload_n 0, 1) := by decide +kernel
theorem dX10_greens_1 : decode cX10_greens 1 = .ok (.iload_n 1, 1) := by decide +kernel
theorem dX10_greens_2 : decode cX10_greens 2 = .ok (.invokevirtual 96, 3) := by decide +kernel
theorem dX10_greens_5 : decode cX10_greens 5 = .ok (.ifCond .eq 12, 3) := by decide +kernel
theorem dX10_greens_8 : decode cX10_greens 8 = .ok (.iload_n 2, 1) := by decide +kernel
theorem dX10_greens_9 : decode cX10_greens 9 = .ok (.iconst 0, 1) := by decide +kernel
theorem dX10_greens_10 : decode cX10_greens 10 = .ok (.iconst 3, 1) := by decide +kernel
theorem dX10_greens_11 : decode cX10_greens 11 = .ok (.invokestatic 49, 3) := by decide +kernel
theorem dX10_greens_14 : decode cX10_greens 14 = .ok (.ifCond .ne 5, 3) := by decide +kernel
theorem dX10_greens_17 : decode cX10_greens 17 = .ok (.iconst (-1), 1) := by decide +kernel
theorem dX10_greens_18 : decode cX10_greens 18 = .ok (.ireturn, 1) := by decide +kernel
theorem dX10_greens_19 : decode cX10_greens 19 = .ok (.iconst 0, 1) := by decide +kernel
theorem dX10_greens_20 : decode cX10_greens 20 = .ok (.istore_n 3, 1) := by decide +kernel
theorem dX10_greens_21 : decode cX10_greens 21 = .ok (.iconst 0, 1) := by decide +kernel
theorem dX10_greens_22 : decode cX10_greens 22 = .ok (.istore 4, 2) := by decide +kernel
theorem dX10_greens_24 : decode cX10_greens 24 = .ok (.bipush (-5), 2) := by decide +kernel
theorem dX10_greens_26 : decode cX10_greens 26 = .ok (.istore 5, 2) := by decide +kernel
theorem dX10_greens_28 : decode cX10_greens 28 = .ok (.bipush (-5), 2) := by decide +kernel
theorem dX10_greens_30 : decode cX10_greens 30 = .ok (.istore 6, 2) := by decide +kernel
theorem dX10_greens_32 : decode cX10_greens 32 = .ok (.iconst 0, 1) := by decide +kernel
theorem dX10_greens_33 : decode cX10_greens 33 = .ok (.istore 7, 2) := by decide +kernel
theorem dX10_greens_35 : decode cX10_greens 35 = .ok (.iload 7, 2) := by decide +kernel
theorem dX10_greens_37 : decode cX10_greens 37 = .ok (.aload_n 0, 1) := by decide +kernel
theorem dX10_greens_38 : decode cX10_greens 38 = .ok (.getfield 11, 3) := by decide +kernel
theorem dX10_greens_41 : decode cX10_greens 41 = .ok (.bipush 15, 2) := by decide +kernel
theorem dX10_greens_43 : decode cX10_greens 43 = .ok (.iaload, 1) := by decide +kernel
theorem dX10_greens_44 : decode cX10_greens 44 = .ok (.if_icmp .ge 78, 3) := by decide +kernel
theorem dX10_greens_47 : decode cX10_greens 47 = .ok (.aload_n 0, 1) := by decide +kernel
theorem dX10_greens_48 : decode cX10_greens 48 = .ok (.iload 7, 2) := by decide +kernel
theorem dX10_greens_50 : decode cX10_greens 50 = .ok (.iconst 0, 1) := by decide +kernel
theorem dX10_greens_51 : decode cX10_greens 51 = .ok (.invokevirtual 218, 3) := by decide +kernel
theorem dX10_greens_54 : decode cX10_greens 54 = .ok (.iload_n 1, 1) := by decide +kernel
theorem dX10_greens_55 : decode cX10_greens 55 = .ok (.if_icmp .eq 6, 3) := by decide +kernel
theorem dX10_greens_58 : decode cX10_greens 58 = .ok (.goto 58, 3) := by decide +kernel
theorem dX10_greens_61 : decode cX10_greens 61 = .ok (.aload_n 0, 1) := by decide +kernel
theorem dX10_greens_62 : decode cX10_greens 62 = .ok (.iload 7, 2) := by decide +kernel
theorem dX10_greens_64 : decode cX10_greens 64 = .ok (.iconst 2, 1) := by decide +kernel
theorem dX10_greens_65 : decode cX10_greens 65 = .ok (.invokevirtual 218, 3) := by decide +kernel
theorem dX10_greens_68 : decode cX10_greens 68 = .ok (.aload_n 0, 1) := by decide +kernel
theorem dX10_greens_69 : decode cX10_greens 69 = .ok (.iload 7, 2) := by decide +kernel
theorem dX10_greens_71 : decode cX10_greens 71 = .ok (.iconst 1, 1) := by decide +kernel
theorem dX10_greens_72 : decode cX10_greens 72 = .ok (.invokevirtual 218, 3) := by decide +kernel
theorem dX10_greens_75 : decode cX10_greens 75 = .ok (.isub, 1) := by decide +kernel
theorem dX10_greens_76 : decode cX10_greens 76 = .ok (.istore 8, 2) := by decide +kernel
theorem dX10_greens_78 : decode cX10_greens 78 = .ok (.iinc 3 1, 3) := by decide +kernel
theorem dX10_greens_81 : decode cX10_greens 81 = .ok (.iload 4, 2) := by decide +kernel
theorem dX10_greens_83 : decode cX10_greens 83 = .ok (.iload 8, 2) := by decide +kernel
theorem dX10_greens_85 : decode cX10_greens 85 = .ok (.iadd, 1) := by decide +kernel
theorem dX10_greens_86 : decode cX10_greens 86 = .ok (.istore 4, 2) := by decide +kernel
theorem dX10_greens_88 : decode cX10_greens 88 = .ok (.iload 5, 2) := by decide +kernel
theorem dX10_greens_90 : decode cX10_greens 90 = .ok (.ifCond .ge 8, 3) := by decide +kernel
theorem dX10_greens_93 : decode cX10_greens 93 = .ok (.iload 8, 2) := by decide +kernel
theorem dX10_greens_95 : decode cX10_greens 95 = .ok (.goto 10, 3) := by decide +kernel
theorem dX10_greens_98 : decode cX10_greens 98 = .ok (.iload 5, 2) := by decide +kernel
theorem dX10_greens_100 : decode cX10_greens 100 = .ok (.iload 8, 2) := by decide +kernel
theorem dX10_greens_102 : decode cX10_greens 102 = .ok (.invokestatic 100, 3) := by decide +kernel
theorem dX10_greens_105 : decode cX10_greens 105 = .ok (.istore 5, 2) := by decide +kernel
theorem dX10_greens_107 : decode cX10_greens 107 = .ok (.iload 6, 2) := by decide +kernel
theorem dX10_greens_109 : decode cX10_greens 109 = .ok (.iload 8, 2) := by decide +kernel
theorem dX10_greens_111 : decode cX10_greens 111 = .ok (.invokestatic 73, 3) := by decide +kernel
theorem dX10_greens_114 : decode cX10_greens 114 = .ok (.istore 6, 2) := by decide +kernel
theorem dX10_greens_116 : decode cX10_greens 116 = .ok (.iinc 7 1, 3) := by decide +kernel
theorem dX10_greens_119 : decode cX10_greens 119 = .ok (.goto (-84), 3) := by decide +kernel
theorem dX10_greens_122 : decode cX10_greens 122 = .ok (.iload_n 2, 1) := by decide +kernel
theorem dX10_greens_123 : decode cX10_greens 123 = .ok (.ifCond .ne 7, 3) := by decide +kernel
theorem dX10_greens_126 : decode cX10_greens 126 = .ok (.iload_n 3, 1) := by decide +kernel
theorem dX10_greens_127 : decode cX10_greens 127 = .ok (.goto 25, 3) := by decide +kernel
theorem dX10_greens_130 : decode cX10_greens 130 = .ok (.iload_n 2, 1) := by decide +kernel
theorem dX10_greens_131 : decode cX10_greens 131 = .ok (.iconst 1, 1) := by decide +kernel
theorem dX10_greens_132 : decode cX10_greens 132 = .ok (.if_icmp .ne 8, 3) := by decide +kernel
theorem dX10_greens_135 : decode cX10_greens 135 = .ok (.iload 4, 2) := by decide +kernel
theorem dX10_greens_137 : decode cX10_greens 137 = .ok (.goto 15, 3) := by decide +kernel
theorem dX10_greens_140 : decode cX10_greens 140 = .ok (.iload_n 2, 1) := by decide +kernel
theorem dX10_greens_141 : decode cX10_greens 141 = .ok (.iconst 2, 1) := by decide +kernel
theorem dX10_greens_142 : decode cX10_greens 142 = .ok (.if_icmp .ne 8, 3) := by decide +kernel
theorem dX10_greens_145 : decode cX10_greens 145 = .ok (.iload 5, 2) := by decide +kernel
theorem dX10_greens_147 : decode cX10_greens 147 = .ok (.goto 5, 3) := by decide +kernel
theorem dX10_greens_150 : decode cX10_greens 150 = .ok (.iload 6, 2) := by decide +kernel
theorem dX10_greens_152 : decode cX10_greens 152 = .ok (.ireturn, 1) := by decide +kernel
theorem dX10_couldBy_0 : decode cX10_couldBy 0 = .ok (.aload_n 0, 1) := by decide +kernel
theorem dX10_couldBy_1 : decode cX10_couldBy 1 = .ok (.iload_n 1, 1) := by decide +kernel
theorem dX10_couldBy_2 : decode cX10_couldBy 2 = .ok (.iload 4, 2) := by decide +kernel
theorem dX10_couldBy_4 : decode cX10_couldBy 4 = .ok (.invokevirtual 63, 3) := by decide +kernel
theorem dX10_couldBy_7 : decode cX10_couldBy 7 = .ok (.istore 6, 2) := by decide +kernel
theorem dX10_couldBy_9 : decode cX10_couldBy 9 = .ok (.iload 6, 2) := by decide +kernel
theorem dX10_couldBy_11 : decode cX10_couldBy 11 = .ok (.ifCond .lt 18, 3) := by decide +kernel
theorem dX10_couldBy_14 : decode cX10_couldBy 14 = .ok (.iload 5, 2) := by decide +kernel
theorem dX10_couldBy_16 : decode cX10_couldBy 16 = .ok (.iload_n 2, 1) := by decide +kernel
theorem dX10_couldBy_17 : decode cX10_couldBy 17 = .ok (.aload_n 0, 1) := by decide +kernel
theorem dX10_couldBy_18 : decode cX10_couldBy 18 = .ok (.iload_n 1, 1) := by decide +kernel
theorem dX10_couldBy_19 : decode cX10_couldBy 19 = .ok (.invokevirtual 70, 3) := by decide +kernel
theorem dX10_couldBy_22 : decode cX10_couldBy 22 = .ok (.iload 6, 2) := by decide +kernel
theorem dX10_couldBy_24 : decode cX10_couldBy 24 = .ok (.imul, 1) := by decide +kernel
theorem dX10_couldBy_25 : decode cX10_couldBy 25 = .ok (.iadd, 1) := by decide +kernel
theorem dX10_couldBy_26 : decode cX10_couldBy 26 = .ok (.if_icmp .ge 5, 3) := by decide +kernel
theorem dX10_couldBy_29 : decode cX10_couldBy 29 = .ok (.iconst 0, 1) := by decide +kernel
theorem dX10_couldBy_30 : decode cX10_couldBy 30 = .ok (.ireturn, 1) := by decide +kernel
theorem dX10_couldBy_31 : decode cX10_couldBy 31 = .ok (.iload_n 3, 1) := by decide +kernel
theorem dX10_couldBy_32 : decode cX10_couldBy 32 = .ok (.ifCond .lt 26, 3) := by decide +kernel
theorem dX10_couldBy_35 : decode cX10_couldBy 35 = .ok (.iload 5, 2) := by decide +kernel
theorem dX10_couldBy_37 : decode cX10_couldBy 37 = .ok (.iload_n 3, 1) := by decide +kernel
theorem dX10_couldBy_38 : decode cX10_couldBy 38 = .ok (.aload_n 0, 1) := by decide +kernel
theorem dX10_couldBy_39 : decode cX10_couldBy 39 = .ok (.iload_n 1, 1) := by decide +kernel
theorem dX10_couldBy_40 : decode cX10_couldBy 40 = .ok (.invokevirtual 66, 3) := by decide +kernel
theorem dX10_couldBy_43 : decode cX10_couldBy 43 = .ok (.iadd, 1) := by decide +kernel
theorem dX10_couldBy_44 : decode cX10_couldBy 44 = .ok (.aload_n 0, 1) := by decide +kernel
theorem dX10_couldBy_45 : decode cX10_couldBy 45 = .ok (.iload_n 1, 1) := by decide +kernel
theorem dX10_couldBy_46 : decode cX10_couldBy 46 = .ok (.invokevirtual 70, 3) := by decide +kernel
theorem dX10_couldBy_49 : decode cX10_couldBy 49 = .ok (.iload 6, 2) := by decide +kernel
theorem dX10_couldBy_51 : decode cX10_couldBy 51 = .ok (.iconst 1, 1) := by decide +kernel
theorem dX10_couldBy_52 : decode cX10_couldBy 52 = .ok (.iadd, 1) := by decide +kernel
theorem dX10_couldBy_53 : decode cX10_couldBy 53 = .ok (.imul, 1) := by decide +kernel
theorem dX10_couldBy_54 : decode cX10_couldBy 54 = .ok (.iadd, 1) := by decide +kernel
theorem dX10_couldBy_55 : decode cX10_couldBy 55 = .ok (.if_icmp .ge 7, 3) := by decide +kernel
theorem dX10_couldBy_58 : decode cX10_couldBy 58 = .ok (.iconst 1, 1) := by decide +kernel
theorem dX10_couldBy_59 : decode cX10_couldBy 59 = .ok (.goto 4, 3) := by decide +kernel
theorem dX10_couldBy_62 : decode cX10_couldBy 62 = .ok (.iconst 0, 1) := by decide +kernel
theorem dX10_couldBy_63 : decode cX10_couldBy 63 = .ok (.ireturn, 1) := by decide +kernel
theorem dX10_coulds_0 : decode cX10_coulds 0 = .ok (.iconst 0, 1) := by decide +kernel
theorem dX10_coulds_1 : decode cX10_coulds 1 = .ok (.istore 4, 2) := by decide +kernel
theorem dX10_coulds_3 : decode cX10_coulds 3 = .ok (.iload_n 3, 1) := by decide +kernel
theorem dX10_coulds_4 : decode cX10_coulds 4 = .ok (.iconst 1, 1) := by decide +kernel
theorem dX10_coulds_5 : decode cX10_coulds 5 = .ok (.if_icmp .ne 85, 3) := by decide +kernel
theorem dX10_coulds_8 : decode cX10_coulds 8 = .ok (.iconst 0, 1) := by decide +kernel
theorem dX10_coulds_9 : decode cX10_coulds 9 = .ok (.istore 5, 2) := by decide +kernel
theorem dX10_coulds_11 : decode cX10_coulds 11 = .ok (.iload 5, 2) := by decide +kernel
theorem dX10_coulds_13 : decode cX10_coulds 13 = .ok (.aload_n 0, 1) := by decide +kernel
theorem dX10_coulds_14 : decode cX10_coulds 14 = .ok (.getfield 11, 3) := by decide +kernel
theorem dX10_coulds_17 : decode cX10_coulds 17 = .ok (.bipush 18, 2) := by decide +kernel
theorem dX10_coulds_19 : decode cX10_coulds 19 = .ok (.iaload, 1) := by decide +kernel
theorem dX10_coulds_20 : decode cX10_coulds 20 = .ok (.if_icmp .ge 67, 3) := by decide +kernel
theorem dX10_coulds_23 : decode cX10_coulds 23 = .ok (.sipush 321, 3) := by decide +kernel
theorem dX10_coulds_26 : decode cX10_coulds 26 = .ok (.iconst 3, 1) := by decide +kernel
theorem dX10_coulds_27 : decode cX10_coulds 27 = .ok (.iload 5, 2) := by decide +kernel
theorem dX10_coulds_29 : decode cX10_coulds 29 = .ok (.imul, 1) := by decide +kernel
theorem dX10_coulds_30 : decode cX10_coulds 30 = .ok (.iadd, 1) := by decide +kernel
theorem dX10_coulds_31 : decode cX10_coulds 31 = .ok (.istore 6, 2) := by decide +kernel
theorem dX10_coulds_33 : decode cX10_coulds 33 = .ok (.aload_n 0, 1) := by decide +kernel
theorem dX10_coulds_34 : decode cX10_coulds 34 = .ok (.aload_n 0, 1) := by decide +kernel
theorem dX10_coulds_35 : decode cX10_coulds 35 = .ok (.getfield 11, 3) := by decide +kernel
theorem dX10_coulds_38 : decode cX10_coulds 38 = .ok (.iload 6, 2) := by decide +kernel
theorem dX10_coulds_40 : decode cX10_coulds 40 = .ok (.iaload, 1) := by decide +kernel
theorem dX10_coulds_41 : decode cX10_coulds 41 = .ok (.aload_n 0, 1) := by decide +kernel
theorem dX10_coulds_42 : decode cX10_coulds 42 = .ok (.getfield 11, 3) := by decide +kernel
theorem dX10_coulds_45 : decode cX10_coulds 45 = .ok (.iload 6, 2) := by decide +kernel
theorem dX10_coulds_47 : decode cX10_coulds 47 = .ok (.iconst 1, 1) := by decide +kernel
theorem dX10_coulds_48 : decode cX10_coulds 48 = .ok (.iadd, 1) := by decide +kernel
theorem dX10_coulds_49 : decode cX10_coulds 49 = .ok (.iaload, 1) := by decide +kernel
theorem dX10_coulds_50 : decode cX10_coulds 50 = .ok (.aload_n 0, 1) := by decide +kernel
theorem dX10_coulds_51 : decode cX10_coulds 51 = .ok (.getfield 11, 3) := by decide +kernel
theorem dX10_coulds_54 : decode cX10_coulds 54 = .ok (.iload 6, 2) := by decide +kernel
theorem dX10_coulds_56 : decode cX10_coulds 56 = .ok (.iconst 2, 1) := by decide +kernel
theorem dX10_coulds_57 : decode cX10_coulds 57 = .ok (.iadd, 1) := by decide +kernel
theorem dX10_coulds_58 : decode cX10_coulds 58 = .ok (.iaload, 1) := by decide +kernel
theorem dX10_coulds_59 : decode cX10_coulds 59 = .ok (.iload_n 1, 1) := by decide +kernel
theorem dX10_coulds_60 : decode cX10_coulds 60 = .ok (.iload_n 2, 1) := by decide +kernel
theorem dX10_coulds_61 : decode cX10_coulds 61 = .ok (.invokevirtual 221, 3) := by decide +kernel
theorem dX10_coulds_64 : decode cX10_coulds 64 = .ok (.ifCond .eq 17, 3) := by decide +kernel
theorem dX10_coulds_67 : decode cX10_coulds 67 = .ok (.iload 4, 2) := by decide +kernel
theorem dX10_coulds_69 : decode cX10_coulds 69 = .ok (.iconst 1, 1) := by decide +kernel
theorem dX10_coulds_70 : decode cX10_coulds 70 = .ok (.aload_n 0, 1) := by decide +kernel
theorem dX10_coulds_71 : decode cX10_coulds 71 = .ok (.getfield 11, 3) := by decide +kernel
theorem dX10_coulds_74 : decode cX10_coulds 74 = .ok (.iload 6, 2) := by decide +kernel
theorem dX10_coulds_76 : decode cX10_coulds 76 = .ok (.iaload, 1) := by decide +kernel
theorem dX10_coulds_77 : decode cX10_coulds 77 = .ok (.ishl, 1) := by decide +kernel
theorem dX10_coulds_78 : decode cX10_coulds 78 = .ok (.ior, 1) := by decide +kernel
theorem dX10_coulds_79 : decode cX10_coulds 79 = .ok (.istore 4, 2) := by decide +kernel
theorem dX10_coulds_81 : decode cX10_coulds 81 = .ok (.iinc 5 1, 3) := by decide +kernel
theorem dX10_coulds_84 : decode cX10_coulds 84 = .ok (.goto (-73), 3) := by decide +kernel
theorem dX10_coulds_87 : decode cX10_coulds 87 = .ok (.iload 4, 2) := by decide +kernel
theorem dX10_coulds_89 : decode cX10_coulds 89 = .ok (.ireturn, 1) := by decide +kernel
theorem dX10_coulds_90 : decode cX10_coulds 90 = .ok (.iconst 0, 1) := by decide +kernel
theorem dX10_coulds_91 : decode cX10_coulds 91 = .ok (.istore 5, 2) := by decide +kernel
theorem dX10_coulds_93 : decode cX10_coulds 93 = .ok (.iload 5, 2) := by decide +kernel
theorem dX10_coulds_95 : decode cX10_coulds 95 = .ok (.aload_n 0, 1) := by decide +kernel
theorem dX10_coulds_96 : decode cX10_coulds 96 = .ok (.getfield 11, 3) := by decide +kernel
theorem dX10_coulds_99 : decode cX10_coulds 99 = .ok (.bipush 15, 2) := by decide +kernel
theorem dX10_coulds_101 : decode cX10_coulds 101 = .ok (.iaload, 1) := by decide +kernel
theorem dX10_coulds_102 : decode cX10_coulds 102 = .ok (.if_icmp .ge 53, 3) := by decide +kernel
theorem dX10_coulds_105 : decode cX10_coulds 105 = .ok (.aload_n 0, 1) := by decide +kernel
theorem dX10_coulds_106 : decode cX10_coulds 106 = .ok (.aload_n 0, 1) := by decide +kernel
theorem dX10_coulds_107 : decode cX10_coulds 107 = .ok (.iload 5, 2) := by decide +kernel
theorem dX10_coulds_109 : decode cX10_coulds 109 = .ok (.iconst 0, 1) := by decide +kernel
theorem dX10_coulds_110 : decode cX10_coulds 110 = .ok (.invokevirtual 218, 3) := by decide +kernel
theorem dX10_coulds_113 : decode cX10_coulds 113 = .ok (.aload_n 0, 1) := by decide +kernel
theorem dX10_coulds_114 : decode cX10_coulds 114 = .ok (.iload 5, 2) := by decide +kernel
theorem dX10_coulds_116 : decode cX10_coulds 116 = .ok (.iconst 1, 1) := by decide +kernel
theorem dX10_coulds_117 : decode cX10_coulds 117 = .ok (.invokevirtual 218, 3) := by decide +kernel
theorem dX10_coulds_120 : decode cX10_coulds 120 = .ok (.aload_n 0, 1) := by decide +kernel
theorem dX10_coulds_121 : decode cX10_coulds 121 = .ok (.iload 5, 2) := by decide +kernel
theorem dX10_coulds_123 : decode cX10_coulds 123 = .ok (.iconst 2, 1) := by decide +kernel
theorem dX10_coulds_124 : decode cX10_coulds 124 = .ok (.invokevirtual 218, 3) := by decide +kernel
theorem dX10_coulds_127 : decode cX10_coulds 127 = .ok (.iload_n 1, 1) := by decide +kernel
theorem dX10_coulds_128 : decode cX10_coulds 128 = .ok (.iload_n 2, 1) := by decide +kernel
theorem dX10_coulds_129 : decode cX10_coulds 129 = .ok (.invokevirtual 221, 3) := by decide +kernel
theorem dX10_coulds_132 : decode cX10_coulds 132 = .ok (.ifCond .eq 17, 3) := by decide +kernel
theorem dX10_coulds_135 : decode cX10_coulds 135 = .ok (.iload 4, 2) := by decide +kernel
theorem dX10_coulds_137 : decode cX10_coulds 137 = .ok (.iconst 1, 1) := by decide +kernel
theorem dX10_coulds_138 : decode cX10_coulds 138 = .ok (.aload_n 0, 1) := by decide +kernel
theorem dX10_coulds_139 : decode cX10_coulds 139 = .ok (.iload 5, 2) := by decide +kernel
theorem dX10_coulds_141 : decode cX10_coulds 141 = .ok (.iconst 0, 1) := by decide +kernel
theorem dX10_coulds_142 : decode cX10_coulds 142 = .ok (.invokevirtual 218, 3) := by decide +kernel
theorem dX10_coulds_145 : decode cX10_coulds 145 = .ok (.ishl, 1) := by decide +kernel
theorem dX10_coulds_146 : decode cX10_coulds 146 = .ok (.ior, 1) := by decide +kernel
theorem dX10_coulds_147 : decode cX10_coulds 147 = .ok (.istore 4, 2) := by decide +kernel
theorem dX10_coulds_149 : decode cX10_coulds 149 = .ok (.iinc 5 1, 3) := by decide +kernel
theorem dX10_coulds_152 : decode cX10_coulds 152 = .ok (.goto (-59), 3) := by decide +kernel
theorem dX10_coulds_155 : decode cX10_coulds 155 = .ok (.iconst 0, 1) := by decide +kernel
theorem dX10_coulds_156 : decode cX10_coulds 156 = .ok (.istore 5, 2) := by decide +kernel
theorem dX10_coulds_158 : decode cX10_coulds 158 = .ok (.iload 5, 2) := by decide +kernel
theorem dX10_coulds_160 : decode cX10_coulds 160 = .ok (.aload_n 0, 1) := by decide +kernel
theorem dX10_coulds_161 : decode cX10_coulds 161 = .ok (.getfield 11, 3) := by decide +kernel
theorem dX10_coulds_164 : decode cX10_coulds 164 = .ok (.bipush 13, 2) := by decide +kernel
theorem dX10_coulds_166 : decode cX10_coulds 166 = .ok (.iaload, 1) := by decide +kernel
theorem dX10_coulds_167 : decode cX10_coulds 167 = .ok (.if_icmp .ge 51, 3) := by decide +kernel
theorem dX10_coulds_170 : decode cX10_coulds 170 = .ok (.aload_n 0, 1) := by decide +kernel
theorem dX10_coulds_171 : decode cX10_coulds 171 = .ok (.iload 5, 2) := by decide +kernel
theorem dX10_coulds_173 : decode cX10_coulds 173 = .ok (.bipush 6, 2) := by decide +kernel
theorem dX10_coulds_175 : decode cX10_coulds 175 = .ok (.invokevirtual 56, 3) := by decide +kernel
theorem dX10_coulds_178 : decode cX10_coulds 178 = .ok (.iconst 1, 1) := by decide +kernel
theorem dX10_coulds_179 : decode cX10_coulds 179 = .ok (.if_icmp .ne 33, 3) := by decide +kernel
theorem dX10_coulds_182 : decode cX10_coulds 182 = .ok (.aload_n 0, 1) := by decide +kernel
theorem dX10_coulds_183 : decode cX10_coulds 183 = .ok (.iload 5, 2) := by decide +kernel
theorem dX10_coulds_185 : decode cX10_coulds 185 = .ok (.aload_n 0, 1) := by decide +kernel
theorem dX10_coulds_186 : decode cX10_coulds 186 = .ok (.iload 5, 2) := by decide +kernel
theorem dX10_coulds_188 : decode cX10_coulds 188 = .ok (.bipush 7, 2) := by decide +kernel
theorem dX10_coulds_190 : decode cX10_coulds 190 = .ok (.invokevirtual 56, 3) := by decide +kernel
theorem dX10_coulds_193 : decode cX10_coulds 193 = .ok (.bipush (-5), 2) := by decide +kernel
theorem dX10_coulds_195 : decode cX10_coulds 195 = .ok (.iload_n 1, 1) := by decide +kernel
theorem dX10_coulds_196 : decode cX10_coulds 196 = .ok (.iload_n 2, 1) := by decide +kernel
theorem dX10_coulds_197 : decode cX10_coulds 197 = .ok (.invokevirtual 221, 3) := by decide +kernel
theorem dX10_coulds_200 : decode cX10_coulds 200 = .ok (.ifCond .eq 12, 3) := by decide +kernel
theorem dX10_coulds_203 : decode cX10_coulds 203 = .ok (.iload 4, 2) := by decide +kernel
theorem dX10_coulds_205 : decode cX10_coulds 205 = .ok (.iconst 1, 1) := by decide +kernel
theorem dX10_coulds_206 : decode cX10_coulds 206 = .ok (.iload 5, 2) := by decide +kernel
theorem dX10_coulds_208 : decode cX10_coulds 208 = .ok (.ishl, 1) := by decide +kernel
theorem dX10_coulds_209 : decode cX10_coulds 209 = .ok (.ior, 1) := by decide +kernel
theorem dX10_coulds_210 : decode cX10_coulds 210 = .ok (.istore 4, 2) := by decide +kernel
theorem dX10_coulds_212 : decode cX10_coulds 212 = .ok (.iinc 5 1, 3) := by decide +kernel
theorem dX10_coulds_215 : decode cX10_coulds 215 = .ok (.goto (-57), 3) := by decide +kernel
theorem dX10_coulds_218 : decode cX10_coulds 218 = .ok (.iload 4, 2) := by decide +kernel
theorem dX10_coulds_220 : decode cX10_coulds 220 = .ok (.ireturn, 1) := by decide +kernel
theorem dX10_could_0 : decode cX10_could 0 = .ok (.iload_n 3, 1) := by decide +kernel
theorem dX10_could_1 : decode cX10_could 1 = .ok (.iconst 0, 1) := by decide +kernel
theorem dX10_could_2 : decode cX10_could 2 = .ok (.iconst 1, 1) := by decide +kernel
theorem dX10_could_3 : decode cX10_could 3 = .ok (.invokestatic 49, 3) := by decide +kernel
theorem dX10_could_6 : decode cX10_could 6 = .ok (.ifCond .ne 5, 3) := by decide +kernel
theorem dX10_could_9 : decode cX10_could 9 = .ok (.iconst (-1), 1) := by decide +kernel
theorem dX10_could_10 : decode cX10_could 10 = .ok (.ireturn, 1) := by decide +kernel
theorem dX10_could_11 : decode cX10_could 11 = .ok (.iload_n 1, 1) := by decide +kernel
theorem dX10_could_12 : decode cX10_could 12 = .ok (.iconst 0, 1) := by decide +kernel
theorem dX10_could_13 : decode cX10_could 13 = .ok (.bipush 63, 2) := by decide +kernel
theorem dX10_could_15 : decode cX10_could 15 = .ok (.invokestatic 49, 3) := by decide +kernel
theorem dX10_could_18 : decode cX10_could 18 = .ok (.ifCond .eq 24, 3) := by decide +kernel
theorem dX10_could_21 : decode cX10_could 21 = .ok (.iload_n 2, 1) := by decide +kernel
theorem dX10_could_22 : decode cX10_could 22 = .ok (.iconst 0, 1) := by decide +kernel
theorem dX10_could_23 : decode cX10_could 23 = .ok (.sipush 9999, 3) := by decide +kernel
theorem dX10_could_26 : decode cX10_could 26 = .ok (.invokestatic 49, 3) := by decide +kernel
theorem dX10_could_29 : decode cX10_could 29 = .ok (.ifCond .eq 13, 3) := by decide +kernel
theorem dX10_could_32 : decode cX10_could 32 = .ok (.aload_n 0, 1) := by decide +kernel
theorem dX10_could_33 : decode cX10_could 33 = .ok (.iload_n 1, 1) := by decide +kernel
theorem dX10_could_34 : decode cX10_could 34 = .ok (.iload_n 2, 1) := by decide +kernel
theorem dX10_could_35 : decode cX10_could 35 = .ok (.iload_n 3, 1) := by decide +kernel
theorem dX10_could_36 : decode cX10_could 36 = .ok (.invokevirtual 225, 3) := by decide +kernel
theorem dX10_could_39 : decode cX10_could 39 = .ok (.goto 5, 3) := by decide +kernel
theorem dX10_could_42 : decode cX10_could 42 = .ok (.bipush (-2), 2) := by decide +kernel
theorem dX10_could_44 : decode cX10_could 44 = .ok (.ireturn, 1) := by decide +kernel
theorem dX10_crowded_0 : decode cX10_crowded 0 = .ok (.iload_n 2, 1) := by decide +kernel
theorem dX10_crowded_1 : decode cX10_crowded 1 = .ok (.iconst 0, 1) := by decide +kernel
theorem dX10_crowded_2 : decode cX10_crowded 2 = .ok (.iconst 1, 1) := by decide +kernel
theorem dX10_crowded_3 : decode cX10_crowded 3 = .ok (.invokestatic 49, 3) := by decide +kernel
theorem dX10_crowded_6 : decode cX10_crowded 6 = .ok (.ifCond .ne 5, 3) := by decide +kernel
theorem dX10_crowded_9 : decode cX10_crowded 9 = .ok (.iconst (-1), 1) := by decide +kernel
theorem dX10_crowded_10 : decode cX10_crowded 10 = .ok (.ireturn, 1) := by decide +kernel
theorem dX10_crowded_11 : decode cX10_crowded 11 = .ok (.iload_n 1, 1) := by decide +kernel
theorem dX10_crowded_12 : decode cX10_crowded 12 = .ok (.iconst 0, 1) := by decide +kernel
theorem dX10_crowded_13 : decode cX10_crowded 13 = .ok (.sipush 9999, 3) := by decide +kernel
theorem dX10_crowded_16 : decode cX10_crowded 16 = .ok (.invokestatic 49, 3) := by decide +kernel
theorem dX10_crowded_19 : decode cX10_crowded 19 = .ok (.ifCond .ne 6, 3) := by decide +kernel
theorem dX10_crowded_22 : decode cX10_crowded 22 = .ok (.bipush (-2), 2) := by decide +kernel
theorem dX10_crowded_24 : decode cX10_crowded 24 = .ok (.ireturn, 1) := by decide +kernel
theorem dX10_crowded_25 : decode cX10_crowded 25 = .ok (.iconst 0, 1) := by decide +kernel
theorem dX10_crowded_26 : decode cX10_crowded 26 = .ok (.istore_n 3, 1) := by decide +kernel
theorem dX10_crowded_27 : decode cX10_crowded 27 = .ok (.iload_n 3, 1) := by decide +kernel
theorem dX10_crowded_28 : decode cX10_crowded 28 = .ok (.bipush 64, 2) := by decide +kernel
theorem dX10_crowded_30 : decode cX10_crowded 30 = .ok (.if_icmp .ge 30, 3) := by decide +kernel
theorem dX10_crowded_33 : decode cX10_crowded 33 = .ok (.aload_n 0, 1) := by decide +kernel
theorem dX10_crowded_34 : decode cX10_crowded 34 = .ok (.iload_n 3, 1) := by decide +kernel
theorem dX10_crowded_35 : decode cX10_crowded 35 = .ok (.iload_n 1, 1) := by decide +kernel
theorem dX10_crowded_36 : decode cX10_crowded 36 = .ok (.iload_n 2, 1) := by decide +kernel
theorem dX10_crowded_37 : decode cX10_crowded 37 = .ok (.invokevirtual 225, 3) := by decide +kernel
theorem dX10_crowded_40 : decode cX10_crowded 40 = .ok (.istore 4, 2) := by decide +kernel
theorem dX10_crowded_42 : decode cX10_crowded 42 = .ok (.iload 4, 2) := by decide +kernel
theorem dX10_crowded_44 : decode cX10_crowded 44 = .ok (.iload 4, 2) := by decide +kernel
theorem dX10_crowded_46 : decode cX10_crowded 46 = .ok (.iconst 1, 1) := by decide +kernel
theorem dX10_crowded_47 : decode cX10_crowded 47 = .ok (.isub, 1) := by decide +kernel
theorem dX10_crowded_48 : decode cX10_crowded 48 = .ok (.iand, 1) := by decide +kernel
theorem dX10_crowded_49 : decode cX10_crowded 49 = .ok (.ifCond .eq 5, 3) := by decide +kernel
theorem dX10_crowded_52 : decode cX10_crowded 52 = .ok (.iload_n 3, 1) := by decide +kernel
theorem dX10_crowded_53 : decode cX10_crowded 53 = .ok (.ireturn, 1) := by decide +kernel
theorem dX10_crowded_54 : decode cX10_crowded 54 = .ok (.iinc 3 1, 3) := by decide +kernel
theorem dX10_crowded_57 : decode cX10_crowded 57 = .ok (.goto (-30), 3) := by decide +kernel
theorem dX10_crowded_60 : decode cX10_crowded 60 = .ok (.bipush (-5), 2) := by decide +kernel
theorem dX10_crowded_62 : decode cX10_crowded 62 = .ok (.ireturn, 1) := by decide +kernel
theorem dX10_green_0 : decode cX10_green 0 = .ok (.iload_n 1, 1) := by decide +kernel
theorem dX10_green_1 : decode cX10_green 1 = .ok (.iconst (-1), 1) := by decide +kernel
theorem dX10_green_2 : decode cX10_green 2 = .ok (.if_icmp .ne 13, 3) := by decide +kernel
theorem dX10_green_5 : decode cX10_green 5 = .ok (.aload_n 0, 1) := by decide +kernel
theorem dX10_green_6 : decode cX10_green 6 = .ok (.getfield 11, 3) := by decide +kernel
theorem dX10_green_9 : decode cX10_green 9 = .ok (.bipush 18, 2) := by decide +kernel
theorem dX10_green_11 : decode cX10_green 11 = .ok (.iconst 0, 1) := by decide +kernel
theorem dX10_green_12 : decode cX10_green 12 = .ok (.iastore, 1) := by decide +kernel
theorem dX10_green_13 : decode cX10_green 13 = .ok (.iconst 0, 1) := by decide +kernel
theorem dX10_green_14 : decode cX10_green 14 = .ok (.ireturn, 1) := by decide +kernel
theorem dX10_green_15 : decode cX10_green 15 = .ok (.aload_n 0, 1) := by decide +kernel
theorem dX10_green_16 : decode cX10_green 16 = .ok (.iload_n 1, 1) := by decide +kernel
theorem dX10_green_17 : decode cX10_green 17 = .ok (.invokevirtual 96, 3) := by decide +kernel
theorem dX10_green_20 : decode cX10_green 20 = .ok (.ifCond .ne 5, 3) := by decide +kernel
theorem dX10_green_23 : decode cX10_green 23 = .ok (.iconst (-1), 1) := by decide +kernel
theorem dX10_green_24 : decode cX10_green 24 = .ok (.ireturn, 1) := by decide +kernel
theorem dX10_green_25 : decode cX10_green 25 = .ok (.iload_n 2, 1) := by decide +kernel
theorem dX10_green_26 : decode cX10_green 26 = .ok (.iconst 0, 1) := by decide +kernel
theorem dX10_green_27 : decode cX10_green 27 = .ok (.sipush 9998, 3) := by decide +kernel
theorem dX10_green_30 : decode cX10_green 30 = .ok (.invokestatic 49, 3) := by decide +kernel
theorem dX10_green_33 : decode cX10_green 33 = .ok (.ifCond .eq 15, 3) := by decide +kernel
theorem dX10_green_36 : decode cX10_green 36 = .ok (.iload_n 3, 1) := by decide +kernel
theorem dX10_green_37 : decode cX10_green 37 = .ok (.iload_n 2, 1) := by decide +kernel
theorem dX10_green_38 : decode cX10_green 38 = .ok (.if_icmp .le 10, 3) := by decide +kernel
theorem dX10_green_41 : decode cX10_green 41 = .ok (.iload_n 3, 1) := by decide +kernel
theorem dX10_green_42 : decode cX10_green 42 = .ok (.sipush 9999, 3) := by decide +kernel
theorem dX10_green_45 : decode cX10_green 45 = .ok (.if_icmp .le 6, 3) := by decide +kernel
theorem dX10_green_48 : decode cX10_green 48 = .ok (.bipush (-2), 2) := by decide +kernel
theorem dX10_green_50 : decode cX10_green 50 = .ok (.ireturn, 1) := by decide +kernel
theorem dX10_green_51 : decode cX10_green 51 = .ok (.aload_n 0, 1) := by decide +kernel
theorem dX10_green_52 : decode cX10_green 52 = .ok (.getfield 11, 3) := by decide +kernel
theorem dX10_green_55 : decode cX10_green 55 = .ok (.bipush 18, 2) := by decide +kernel
theorem dX10_green_57 : decode cX10_green 57 = .ok (.iaload, 1) := by decide +kernel
theorem dX10_green_58 : decode cX10_green 58 = .ok (.bipush 8, 2) := by decide +kernel
theorem dX10_green_60 : decode cX10_green 60 = .ok (.if_icmp .ne 6, 3) := by decide +kernel
theorem dX10_green_63 : decode cX10_green 63 = .ok (.bipush (-4), 2) := by decide +kernel
theorem dX10_green_65 : decode cX10_green 65 = .ok (.ireturn, 1) := by decide +kernel
theorem dX10_green_66 : decode cX10_green 66 = .ok (.sipush 321, 3) := by decide +kernel
theorem dX10_green_69 : decode cX10_green 69 = .ok (.iconst 3, 1) := by decide +kernel
theorem dX10_green_70 : decode cX10_green 70 = .ok (.aload_n 0, 1) := by decide +kernel
theorem dX10_green_71 : decode cX10_green 71 = .ok (.getfield 11, 3) := by decide +kernel
theorem dX10_green_74 : decode cX10_green 74 = .ok (.bipush 18, 2) := by decide +kernel
theorem dX10_green_76 : decode cX10_green 76 = .ok (.iaload, 1) := by decide +kernel
theorem dX10_green_77 : decode cX10_green 77 = .ok (.imul, 1) := by decide +kernel
theorem dX10_green_78 : decode cX10_green 78 = .ok (.iadd, 1) := by decide +kernel
theorem dX10_green_79 : decode cX10_green 79 = .ok (.istore 4, 2) := by decide +kernel
theorem dX10_green_81 : decode cX10_green 81 = .ok (.aload_n 0, 1) := by decide +kernel
theorem dX10_green_82 : decode cX10_green 82 = .ok (.getfield 11, 3) := by decide +kernel
theorem dX10_green_85 : decode cX10_green 85 = .ok (.iload 4, 2) := by decide +kernel
theorem dX10_green_87 : decode cX10_green 87 = .ok (.iload_n 1, 1) := by decide +kernel
theorem dX10_green_88 : decode cX10_green 88 = .ok (.iastore, 1) := by decide +kernel
theorem dX10_green_89 : decode cX10_green 89 = .ok (.aload_n 0, 1) := by decide +kernel
theorem dX10_green_90 : decode cX10_green 90 = .ok (.getfield 11, 3) := by decide +kernel
theorem dX10_green_93 : decode cX10_green 93 = .ok (.iload 4, 2) := by decide +kernel
theorem dX10_green_95 : decode cX10_green 95 = .ok (.iconst 1, 1) := by decide +kernel
theorem dX10_green_96 : decode cX10_green 96 = .ok (.iadd, 1) := by decide +kernel
theorem dX10_green_97 : decode cX10_green 97 = .ok (.iload_n 2, 1) := by decide +kernel
theorem dX10_green_98 : decode cX10_green 98 = .ok (.iastore, 1) := by decide +kernel
theorem dX10_green_99 : decode cX10_green 99 = .ok (.aload_n 0, 1) := by decide +kernel
theorem dX10_green_100 : decode cX10_green 100 = .ok (.getfield 11, 3) := by decide +kernel
theorem dX10_green_103 : decode cX10_green 103 = .ok (.iload 4, 2) := by decide +kernel
theorem dX10_green_105 : decode cX10_green 105 = .ok (.iconst 2, 1) := by decide +kernel
theorem dX10_green_106 : decode cX10_green 106 = .ok (.iadd, 1) := by decide +kernel
theorem dX10_green_107 : decode cX10_green 107 = .ok (.iload_n 3, 1) := by decide +kernel
theorem dX10_green_108 : decode cX10_green 108 = .ok (.iastore, 1) := by decide +kernel
theorem dX10_green_109 : decode cX10_green 109 = .ok (.aload_n 0, 1) := by decide +kernel
theorem dX10_green_110 : decode cX10_green 110 = .ok (.getfield 11, 3) := by decide +kernel
theorem dX10_green_113 : decode cX10_green 113 = .ok (.bipush 18, 2) := by decide +kernel
theorem dX10_green_115 : decode cX10_green 115 = .ok (.dup2, 1) := by decide +kernel
theorem dX10_green_116 : decode cX10_green 116 = .ok (.iaload, 1) := by decide +kernel
theorem dX10_green_117 : decode cX10_green 117 = .ok (.iconst 1, 1) := by decide +kernel
theorem dX10_green_118 : decode cX10_green 118 = .ok (.iadd, 1) := by decide +kernel
theorem dX10_green_119 : decode cX10_green 119 = .ok (.iastore, 1) := by decide +kernel
theorem dX10_green_120 : decode cX10_green 120 = .ok (.aload_n 0, 1) := by decide +kernel
theorem dX10_green_121 : decode cX10_green 121 = .ok (.getfield 11, 3) := by decide +kernel
theorem dX10_green_124 : decode cX10_green 124 = .ok (.bipush 18, 2) := by decide +kernel
theorem dX10_green_126 : decode cX10_green 126 = .ok (.iaload, 1) := by decide +kernel
theorem dX10_green_127 : decode cX10_green 127 = .ok (.ireturn, 1) := by decide +kernel
theorem dX10_isSafe_0 : decode cX10_isSafe 0 = .ok (.aload_n 0, 1) := by decide +kernel
theorem dX10_isSafe_1 : decode cX10_isSafe 1 = .ok (.getfield 11, 3) := by decide +kernel
theorem dX10_isSafe_4 : decode cX10_isSafe 4 = .ok (.sipush 321, 3) := by decide +kernel
theorem dX10_isSafe_7 : decode cX10_isSafe 7 = .ok (.iconst 3, 1) := by decide +kernel
theorem dX10_isSafe_8 : decode cX10_isSafe 8 = .ok (.iload_n 1, 1) := by decide +kernel
theorem dX10_isSafe_9 : decode cX10_isSafe 9 = .ok (.imul, 1) := by decide +kernel
theorem dX10_isSafe_10 : decode cX10_isSafe 10 = .ok (.iadd, 1) := by decide +kernel
theorem dX10_isSafe_11 : decode cX10_isSafe 11 = .ok (.iaload, 1) := by decide +kernel
theorem dX10_isSafe_12 : decode cX10_isSafe 12 = .ok (.istore_n 3, 1) := by decide +kernel
theorem dX10_isSafe_13 : decode cX10_isSafe 13 = .ok (.aload_n 0, 1) := by decide +kernel
theorem dX10_isSafe_14 : decode cX10_isSafe 14 = .ok (.getfield 11, 3) := by decide +kernel
theorem dX10_isSafe_17 : decode cX10_isSafe 17 = .ok (.sipush 321, 3) := by decide +kernel
theorem dX10_isSafe_20 : decode cX10_isSafe 20 = .ok (.iconst 3, 1) := by decide +kernel
theorem dX10_isSafe_21 : decode cX10_isSafe 21 = .ok (.iload_n 2, 1) := by decide +kernel
theorem dX10_isSafe_22 : decode cX10_isSafe 22 = .ok (.imul, 1) := by decide +kernel
theorem dX10_isSafe_23 : decode cX10_isSafe 23 = .ok (.iadd, 1) := by decide +kernel
theorem dX10_isSafe_24 : decode cX10_isSafe 24 = .ok (.iaload, 1) := by decide +kernel
theorem dX10_isSafe_25 : decode cX10_isSafe 25 = .ok (.istore 4, 2) := by decide +kernel
theorem dX10_isSafe_27 : decode cX10_isSafe 27 = .ok (.aload_n 0, 1) := by decide +kernel
theorem dX10_isSafe_28 : decode cX10_isSafe 28 = .ok (.iload_n 3, 1) := by decide +kernel
theorem dX10_isSafe_29 : decode cX10_isSafe 29 = .ok (.iload 4, 2) := by decide +kernel
theorem dX10_isSafe_31 : decode cX10_isSafe 31 = .ok (.invokevirtual 81, 3) := by decide +kernel
theorem dX10_isSafe_34 : decode cX10_isSafe 34 = .ok (.ifCond .eq 91, 3) := by decide +kernel
theorem dX10_isSafe_37 : decode cX10_isSafe 37 = .ok (.aload_n 0, 1) := by decide +kernel
theorem dX10_isSafe_38 : decode cX10_isSafe 38 = .ok (.getfield 11, 3) := by decide +kernel
theorem dX10_isSafe_41 : decode cX10_isSafe 41 = .ok (.sipush 321, 3) := by decide +kernel
theorem dX10_isSafe_44 : decode cX10_isSafe 44 = .ok (.iconst 3, 1) := by decide +kernel
theorem dX10_isSafe_45 : decode cX10_isSafe 45 = .ok (.iload_n 1, 1) := by decide +kernel
theorem dX10_isSafe_46 : decode cX10_isSafe 46 = .ok (.imul, 1) := by decide +kernel
theorem dX10_isSafe_47 : decode cX10_isSafe 47 = .ok (.iadd, 1) := by decide +kernel
theorem dX10_isSafe_48 : decode cX10_isSafe 48 = .ok (.iconst 1, 1) := by decide +kernel
theorem dX10_isSafe_49 : decode cX10_isSafe 49 = .ok (.iadd, 1) := by decide +kernel
theorem dX10_isSafe_50 : decode cX10_isSafe 50 = .ok (.iaload, 1) := by decide +kernel
theorem dX10_isSafe_51 : decode cX10_isSafe 51 = .ok (.aload_n 0, 1) := by decide +kernel
theorem dX10_isSafe_52 : decode cX10_isSafe 52 = .ok (.getfield 11, 3) := by decide +kernel
theorem dX10_isSafe_55 : decode cX10_isSafe 55 = .ok (.sipush 321, 3) := by decide +kernel
theorem dX10_isSafe_58 : decode cX10_isSafe 58 = .ok (.iconst 3, 1) := by decide +kernel
theorem dX10_isSafe_59 : decode cX10_isSafe 59 = .ok (.iload_n 2, 1) := by decide +kernel
theorem dX10_isSafe_60 : decode cX10_isSafe 60 = .ok (.imul, 1) := by decide +kernel
theorem dX10_isSafe_61 : decode cX10_isSafe 61 = .ok (.iadd, 1) := by decide +kernel
theorem dX10_isSafe_62 : decode cX10_isSafe 62 = .ok (.iconst 2, 1) := by decide +kernel
theorem dX10_isSafe_63 : decode cX10_isSafe 63 = .ok (.iadd, 1) := by decide +kernel
theorem dX10_isSafe_64 : decode cX10_isSafe 64 = .ok (.iaload, 1) := by decide +kernel
theorem dX10_isSafe_65 : decode cX10_isSafe 65 = .ok (.isub, 1) := by decide +kernel
theorem dX10_isSafe_66 : decode cX10_isSafe 66 = .ok (.aload_n 0, 1) := by decide +kernel
theorem dX10_isSafe_67 : decode cX10_isSafe 67 = .ok (.getfield 21, 3) := by decide +kernel
theorem dX10_isSafe_70 : decode cX10_isSafe 70 = .ok (.bipush 8, 2) := by decide +kernel
theorem dX10_isSafe_72 : decode cX10_isSafe 72 = .ok (.iload 4, 2) := by decide +kernel
theorem dX10_isSafe_74 : decode cX10_isSafe 74 = .ok (.imul, 1) := by decide +kernel
theorem dX10_isSafe_75 : decode cX10_isSafe 75 = .ok (.iload_n 3, 1) := by decide +kernel
theorem dX10_isSafe_76 : decode cX10_isSafe 76 = .ok (.iadd, 1) := by decide +kernel
theorem dX10_isSafe_77 : decode cX10_isSafe 77 = .ok (.iaload, 1) := by decide +kernel
theorem dX10_isSafe_78 : decode cX10_isSafe 78 = .ok (.if_icmp .ge 47, 3) := by decide +kernel
theorem dX10_isSafe_81 : decode cX10_isSafe 81 = .ok (.aload_n 0, 1) := by decide +kernel
theorem dX10_isSafe_82 : decode cX10_isSafe 82 = .ok (.getfield 11, 3) := by decide +kernel
theorem dX10_isSafe_85 : decode cX10_isSafe 85 = .ok (.sipush 321, 3) := by decide +kernel
theorem dX10_isSafe_88 : decode cX10_isSafe 88 = .ok (.iconst 3, 1) := by decide +kernel
theorem dX10_isSafe_89 : decode cX10_isSafe 89 = .ok (.iload_n 2, 1) := by decide +kernel
theorem dX10_isSafe_90 : decode cX10_isSafe 90 = .ok (.imul, 1) := by decide +kernel
theorem dX10_isSafe_91 : decode cX10_isSafe 91 = .ok (.iadd, 1) := by decide +kernel
theorem dX10_isSafe_92 : decode cX10_isSafe 92 = .ok (.iconst 1, 1) := by decide +kernel
theorem dX10_isSafe_93 : decode cX10_isSafe 93 = .ok (.iadd, 1) := by decide +kernel
theorem dX10_isSafe_94 : decode cX10_isSafe 94 = .ok (.iaload, 1) := by decide +kernel
theorem dX10_isSafe_95 : decode cX10_isSafe 95 = .ok (.aload_n 0, 1) := by decide +kernel
theorem dX10_isSafe_96 : decode cX10_isSafe 96 = .ok (.getfield 11, 3) := by decide +kernel
theorem dX10_isSafe_99 : decode cX10_isSafe 99 = .ok (.sipush 321, 3) := by decide +kernel
theorem dX10_isSafe_102 : decode cX10_isSafe 102 = .ok (.iconst 3, 1) := by decide +kernel
theorem dX10_isSafe_103 : decode cX10_isSafe 103 = .ok (.iload_n 1, 1) := by decide +kernel
theorem dX10_isSafe_104 : decode cX10_isSafe 104 = .ok (.imul, 1) := by decide +kernel
theorem dX10_isSafe_105 : decode cX10_isSafe 105 = .ok (.iadd, 1) := by decide +kernel
theorem dX10_isSafe_106 : decode cX10_isSafe 106 = .ok (.iconst 2, 1) := by decide +kernel
theorem dX10_isSafe_107 : decode cX10_isSafe 107 = .ok (.iadd, 1) := by decide +kernel
theorem dX10_isSafe_108 : decode cX10_isSafe 108 = .ok (.iaload, 1) := by decide +kernel
theorem dX10_isSafe_109 : decode cX10_isSafe 109 = .ok (.isub, 1) := by decide +kernel
theorem dX10_isSafe_110 : decode cX10_isSafe 110 = .ok (.aload_n 0, 1) := by decide +kernel
theorem dX10_isSafe_111 : decode cX10_isSafe 111 = .ok (.getfield 21, 3) := by decide +kernel
theorem dX10_isSafe_114 : decode cX10_isSafe 114 = .ok (.bipush 8, 2) := by decide +kernel
theorem dX10_isSafe_116 : decode cX10_isSafe 116 = .ok (.iload_n 3, 1) := by decide +kernel
theorem dX10_isSafe_117 : decode cX10_isSafe 117 = .ok (.imul, 1) := by decide +kernel
theorem dX10_isSafe_118 : decode cX10_isSafe 118 = .ok (.iload 4, 2) := by decide +kernel
theorem dX10_isSafe_120 : decode cX10_isSafe 120 = .ok (.iadd, 1) := by decide +kernel
theorem dX10_isSafe_121 : decode cX10_isSafe 121 = .ok (.iaload, 1) := by decide +kernel
theorem dX10_isSafe_122 : decode cX10_isSafe 122 = .ok (.if_icmp .lt 7, 3) := by decide +kernel
theorem dX10_isSafe_125 : decode cX10_isSafe 125 = .ok (.iconst 1, 1) := by decide +kernel
theorem dX10_isSafe_126 : decode cX10_isSafe 126 = .ok (.goto 4, 3) := by decide +kernel
theorem dX10_isSafe_129 : decode cX10_isSafe 129 = .ok (.iconst 0, 1) := by decide +kernel
theorem dX10_isSafe_130 : decode cX10_isSafe 130 = .ok (.ireturn, 1) := by decide +kernel
theorem dX10_proved_0 : decode cX10_proved 0 = .ok (.iconst 0, 1) := by decide +kernel
theorem dX10_proved_1 : decode cX10_proved 1 = .ok (.istore_n 1, 1) := by decide +kernel
theorem dX10_proved_2 : decode cX10_proved 2 = .ok (.iload_n 1, 1) := by decide +kernel
theorem dX10_proved_3 : decode cX10_proved 3 = .ok (.aload_n 0, 1) := by decide +kernel
theorem dX10_proved_4 : decode cX10_proved 4 = .ok (.getfield 11, 3) := by decide +kernel
theorem dX10_proved_7 : decode cX10_proved 7 = .ok (.bipush 18, 2) := by decide +kernel
theorem dX10_proved_9 : decode cX10_proved 9 = .ok (.iaload, 1) := by decide +kernel
theorem dX10_proved_10 : decode cX10_proved 10 = .ok (.if_icmp .ge 33, 3) := by decide +kernel
theorem dX10_proved_13 : decode cX10_proved 13 = .ok (.iconst 0, 1) := by decide +kernel
theorem dX10_proved_14 : decode cX10_proved 14 = .ok (.istore_n 2, 1) := by decide +kernel
theorem dX10_proved_15 : decode cX10_proved 15 = .ok (.iload_n 2, 1) := by decide +kernel
theorem dX10_proved_16 : decode cX10_proved 16 = .ok (.iload_n 1, 1) := by decide +kernel
theorem dX10_proved_17 : decode cX10_proved 17 = .ok (.if_icmp .ge 20, 3) := by decide +kernel
theorem dX10_proved_20 : decode cX10_proved 20 = .ok (.aload_n 0, 1) := by decide +kernel
theorem dX10_proved_21 : decode cX10_proved 21 = .ok (.iload_n 1, 1) := by decide +kernel
theorem dX10_proved_22 : decode cX10_proved 22 = .ok (.iload_n 2, 1) := by decide +kernel
theorem dX10_proved_23 : decode cX10_proved 23 = .ok (.invokevirtual 228, 3) := by decide +kernel
theorem dX10_proved_26 : decode cX10_proved 26 = .ok (.ifCond .ne 5, 3) := by decide +kernel
theorem dX10_proved_29 : decode cX10_proved 29 = .ok (.iload_n 1, 1) := by decide +kernel
theorem dX10_proved_30 : decode cX10_proved 30 = .ok (.ireturn, 1) := by decide +kernel
theorem dX10_proved_31 : decode cX10_proved 31 = .ok (.iinc 2 1, 3) := by decide +kernel
theorem dX10_proved_34 : decode cX10_proved 34 = .ok (.goto (-19), 3) := by decide +kernel
theorem dX10_proved_37 : decode cX10_proved 37 = .ok (.iinc 1 1, 3) := by decide +kernel
theorem dX10_proved_40 : decode cX10_proved 40 = .ok (.goto (-38), 3) := by decide +kernel
theorem dX10_proved_43 : decode cX10_proved 43 = .ok (.bipush (-5), 2) := by decide +kernel
theorem dX10_proved_45 : decode cX10_proved 45 = .ok (.ireturn, 1) := by decide +kernel
theorem dX10_wave_0 : decode cX10_wave 0 = .ok (.iload_n 1, 1) := by decide +kernel
theorem dX10_wave_1 : decode cX10_wave 1 = .ok (.bipush 20, 2) := by decide +kernel
theorem dX10_wave_3 : decode cX10_wave 3 = .ok (.bipush 60, 2) := by decide +kernel
theorem dX10_wave_5 : decode cX10_wave 5 = .ok (.invokestatic 49, 3) := by decide +kernel
theorem dX10_wave_8 : decode cX10_wave 8 = .ok (.ifCond .ne 6, 3) := by decide +kernel
theorem dX10_wave_11 : decode cX10_wave 11 = .ok (.bipush (-2), 2) := by decide +kernel
theorem dX10_wave_13 : decode cX10_wave 13 = .ok (.ireturn, 1) := by decide +kernel
theorem dX10_wave_14 : decode cX10_wave 14 = .ok (.aload_n 0, 1) := by decide +kernel
theorem dX10_wave_15 : decode cX10_wave 15 = .ok (.getfield 11, 3) := by decide +kernel
theorem dX10_wave_18 : decode cX10_wave 18 = .ok (.bipush 16, 2) := by decide +kernel
theorem dX10_wave_20 : decode cX10_wave 20 = .ok (.iaload, 1) := by decide +kernel
theorem dX10_wave_21 : decode cX10_wave 21 = .ok (.istore_n 2, 1) := by decide +kernel
theorem dX10_wave_22 : decode cX10_wave 22 = .ok (.aload_n 0, 1) := by decide +kernel
theorem dX10_wave_23 : decode cX10_wave 23 = .ok (.getfield 11, 3) := by decide +kernel
theorem dX10_wave_26 : decode cX10_wave 26 = .ok (.bipush 16, 2) := by decide +kernel
theorem dX10_wave_28 : decode cX10_wave 28 = .ok (.iload_n 1, 1) := by decide +kernel
theorem dX10_wave_29 : decode cX10_wave 29 = .ok (.iastore, 1) := by decide +kernel
theorem dX10_wave_30 : decode cX10_wave 30 = .ok (.aload_n 0, 1) := by decide +kernel
theorem dX10_wave_31 : decode cX10_wave 31 = .ok (.getfield 11, 3) := by decide +kernel
theorem dX10_wave_34 : decode cX10_wave 34 = .ok (.bipush 17, 2) := by decide +kernel
theorem dX10_wave_36 : decode cX10_wave 36 = .ok (.iconst 0, 1) := by decide +kernel
theorem dX10_wave_37 : decode cX10_wave 37 = .ok (.iastore, 1) := by decide +kernel
theorem dX10_wave_38 : decode cX10_wave 38 = .ok (.iload_n 2, 1) := by decide +kernel
theorem dX10_wave_39 : decode cX10_wave 39 = .ok (.ireturn, 1) := by decide +kernel
theorem dX10_mayBe_0 : decode cX10_mayBe 0 = .ok (.iload_n 1, 1) := by decide +kernel
theorem dX10_mayBe_1 : decode cX10_mayBe 1 = .ok (.ifCond .ne 20, 3) := by decide +kernel
theorem dX10_mayBe_4 : decode cX10_mayBe 4 = .ok (.iload_n 2, 1) := by decide +kernel
theorem dX10_mayBe_5 : decode cX10_mayBe 5 = .ok (.iconst 0, 1) := by decide +kernel
theorem dX10_mayBe_6 : decode cX10_mayBe 6 = .ok (.aload_n 0, 1) := by decide +kernel
theorem dX10_mayBe_7 : decode cX10_mayBe 7 = .ok (.getfield 11, 3) := by decide +kernel
theorem dX10_mayBe_10 : decode cX10_mayBe 10 = .ok (.bipush 16, 2) := by decide +kernel
theorem dX10_mayBe_12 : decode cX10_mayBe 12 = .ok (.iaload, 1) := by decide +kernel
theorem dX10_mayBe_13 : decode cX10_mayBe 13 = .ok (.iconst 1, 1) := by decide +kernel
theorem dX10_mayBe_14 : decode cX10_mayBe 14 = .ok (.isub, 1) := by decide +kernel
theorem dX10_mayBe_15 : decode cX10_mayBe 15 = .ok (.invokestatic 49, 3) := by decide +kernel
theorem dX10_mayBe_18 : decode cX10_mayBe 18 = .ok (.goto 30, 3) := by decide +kernel
theorem dX10_mayBe_21 : decode cX10_mayBe 21 = .ok (.iload_n 1, 1) := by decide +kernel
theorem dX10_mayBe_22 : decode cX10_mayBe 22 = .ok (.iconst 1, 1) := by decide +kernel
theorem dX10_mayBe_23 : decode cX10_mayBe 23 = .ok (.if_icmp .ne 18, 3) := by decide +kernel
theorem dX10_mayBe_26 : decode cX10_mayBe 26 = .ok (.iload_n 2, 1) := by decide +kernel
theorem dX10_mayBe_27 : decode cX10_mayBe 27 = .ok (.iconst 1, 1) := by decide +kernel
theorem dX10_mayBe_28 : decode cX10_mayBe 28 = .ok (.aload_n 0, 1) := by decide +kernel
theorem dX10_mayBe_29 : decode cX10_mayBe 29 = .ok (.getfield 11, 3) := by decide +kernel
theorem dX10_mayBe_32 : decode cX10_mayBe 32 = .ok (.bipush 16, 2) := by decide +kernel
theorem dX10_mayBe_34 : decode cX10_mayBe 34 = .ok (.iaload, 1) := by decide +kernel
theorem dX10_mayBe_35 : decode cX10_mayBe 35 = .ok (.invokestatic 49, 3) := by decide +kernel
theorem dX10_mayBe_38 : decode cX10_mayBe 38 = .ok (.goto 10, 3) := by decide +kernel
theorem dX10_mayBe_41 : decode cX10_mayBe 41 = .ok (.iload_n 2, 1) := by decide +kernel
theorem dX10_mayBe_42 : decode cX10_mayBe 42 = .ok (.iconst 0, 1) := by decide +kernel
theorem dX10_mayBe_43 : decode cX10_mayBe 43 = .ok (.bipush 99, 2) := by decide +kernel
theorem dX10_mayBe_45 : decode cX10_mayBe 45 = .ok (.invokestatic 49, 3) := by decide +kernel
theorem dX10_mayBe_48 : decode cX10_mayBe 48 = .ok (.ireturn, 1) := by decide +kernel
theorem dX10_node_0 : decode cX10_node 0 = .ok (.aload_n 0, 1) := by decide +kernel
theorem dX10_node_1 : decode cX10_node 1 = .ok (.iconst 0, 1) := by decide +kernel
theorem dX10_node_2 : decode cX10_node 2 = .ok (.iload_n 1, 1) := by decide +kernel
theorem dX10_node_3 : decode cX10_node 3 = .ok (.invokevirtual 231, 3) := by decide +kernel
theorem dX10_node_6 : decode cX10_node 6 = .ok (.ifCond .eq 21, 3) := by decide +kernel
theorem dX10_node_9 : decode cX10_node 9 = .ok (.aload_n 0, 1) := by decide +kernel
theorem dX10_node_10 : decode cX10_node 10 = .ok (.iconst 1, 1) := by decide +kernel
theorem dX10_node_11 : decode cX10_node 11 = .ok (.iload_n 2, 1) := by decide +kernel
theorem dX10_node_12 : decode cX10_node 12 = .ok (.invokevirtual 231, 3) := by decide +kernel
theorem dX10_node_15 : decode cX10_node 15 = .ok (.ifCond .eq 12, 3) := by decide +kernel
theorem dX10_node_18 : decode cX10_node 18 = .ok (.aload_n 0, 1) := by decide +kernel
theorem dX10_node_19 : decode cX10_node 19 = .ok (.iconst 2, 1) := by decide +kernel
theorem dX10_node_20 : decode cX10_node 20 = .ok (.iload_n 3, 1) := by decide +kernel
theorem dX10_node_21 : decode cX10_node 21 = .ok (.invokevirtual 231, 3) := by decide +kernel
theorem dX10_node_24 : decode cX10_node 24 = .ok (.ifCond .ne 6, 3) := by decide +kernel
theorem dX10_node_27 : decode cX10_node 27 = .ok (.bipush (-2), 2) := by decide +kernel
theorem dX10_node_29 : decode cX10_node 29 = .ok (.ireturn, 1) := by decide +kernel
theorem dX10_node_30 : decode cX10_node 30 = .ok (.aload_n 0, 1) := by decide +kernel
theorem dX10_node_31 : decode cX10_node 31 = .ok (.getfield 11, 3) := by decide +kernel
theorem dX10_node_34 : decode cX10_node 34 = .ok (.bipush 17, 2) := by decide +kernel
theorem dX10_node_36 : decode cX10_node 36 = .ok (.iaload, 1) := by decide +kernel
theorem dX10_node_37 : decode cX10_node 37 = .ok (.iconst 5, 1) := by decide +kernel
theorem dX10_node_38 : decode cX10_node 38 = .ok (.if_icmp .ne 6, 3) := by decide +kernel
theorem dX10_node_41 : decode cX10_node 41 = .ok (.bipush (-4), 2) := by decide +kernel
theorem dX10_node_43 : decode cX10_node 43 = .ok (.ireturn, 1) := by decide +kernel
theorem dX10_node_44 : decode cX10_node 44 = .ok (.sipush 306, 3) := by decide +kernel
theorem dX10_node_47 : decode cX10_node 47 = .ok (.iconst 3, 1) := by decide +kernel
theorem dX10_node_48 : decode cX10_node 48 = .ok (.aload_n 0, 1) := by decide +kernel
theorem dX10_node_49 : decode cX10_node 49 = .ok (.getfield 11, 3) := by decide +kernel
theorem dX10_node_52 : decode cX10_node 52 = .ok (.bipush 17, 2) := by decide +kernel
theorem dX10_node_54 : decode cX10_node 54 = .ok (.iaload, 1) := by decide +kernel
theorem dX10_node_55 : decode cX10_node 55 = .ok (.imul, 1) := by decide +kernel
theorem dX10_node_56 : decode cX10_node 56 = .ok (.iadd, 1) := by decide +kernel
theorem dX10_node_57 : decode cX10_node 57 = .ok (.istore 4, 2) := by decide +kernel
theorem dX10_node_59 : decode cX10_node 59 = .ok (.aload_n 0, 1) := by decide +kernel
theorem dX10_node_60 : decode cX10_node 60 = .ok (.getfield 11, 3) := by decide +kernel
theorem dX10_node_63 : decode cX10_node 63 = .ok (.iload 4, 2) := by decide +kernel
theorem dX10_node_65 : decode cX10_node 65 = .ok (.iload_n 1, 1) := by decide +kernel
theorem dX10_node_66 : decode cX10_node 66 = .ok (.iastore, 1) := by decide +kernel
theorem dX10_node_67 : decode cX10_node 67 = .ok (.aload_n 0, 1) := by decide +kernel
theorem dX10_node_68 : decode cX10_node 68 = .ok (.getfield 11, 3) := by decide +kernel
theorem dX10_node_71 : decode cX10_node 71 = .ok (.iload 4, 2) := by decide +kernel
theorem dX10_node_73 : decode cX10_node 73 = .ok (.iconst 1, 1) := by decide +kernel
theorem dX10_node_74 : decode cX10_node 74 = .ok (.iadd, 1) := by decide +kernel
theorem dX10_node_75 : decode cX10_node 75 = .ok (.iload_n 2, 1) := by decide +kernel
theorem dX10_node_76 : decode cX10_node 76 = .ok (.iastore, 1) := by decide +kernel
theorem dX10_node_77 : decode cX10_node 77 = .ok (.aload_n 0, 1) := by decide +kernel
theorem dX10_node_78 : decode cX10_node 78 = .ok (.getfield 11, 3) := by decide +kernel
theorem dX10_node_81 : decode cX10_node 81 = .ok (.iload 4, 2) := by decide +kernel
theorem dX10_node_83 : decode cX10_node 83 = .ok (.iconst 2, 1) := by decide +kernel
theorem dX10_node_84 : decode cX10_node 84 = .ok (.iadd, 1) := by decide +kernel
theorem dX10_node_85 : decode cX10_node 85 = .ok (.iload_n 3, 1) := by decide +kernel
theorem dX10_node_86 : decode cX10_node 86 = .ok (.iastore, 1) := by decide +kernel
theorem dX10_node_87 : decode cX10_node 87 = .ok (.aload_n 0, 1) := by decide +kernel
theorem dX10_node_88 : decode cX10_node 88 = .ok (.getfield 11, 3) := by decide +kernel
theorem dX10_node_91 : decode cX10_node 91 = .ok (.bipush 17, 2) := by decide +kernel
theorem dX10_node_93 : decode cX10_node 93 = .ok (.dup2, 1) := by decide +kernel
theorem dX10_node_94 : decode cX10_node 94 = .ok (.iaload, 1) := by decide +kernel
theorem dX10_node_95 : decode cX10_node 95 = .ok (.iconst 1, 1) := by decide +kernel
theorem dX10_node_96 : decode cX10_node 96 = .ok (.iadd, 1) := by decide +kernel
theorem dX10_node_97 : decode cX10_node 97 = .ok (.iastore, 1) := by decide +kernel
theorem dX10_node_98 : decode cX10_node 98 = .ok (.aload_n 0, 1) := by decide +kernel
theorem dX10_node_99 : decode cX10_node 99 = .ok (.getfield 11, 3) := by decide +kernel
theorem dX10_node_102 : decode cX10_node 102 = .ok (.bipush 17, 2) := by decide +kernel
theorem dX10_node_104 : decode cX10_node 104 = .ok (.iaload, 1) := by decide +kernel
theorem dX10_node_105 : decode cX10_node 105 = .ok (.iconst 1, 1) := by decide +kernel
theorem dX10_node_106 : decode cX10_node 106 = .ok (.isub, 1) := by decide +kernel
theorem dX10_node_107 : decode cX10_node 107 = .ok (.ireturn, 1) := by decide +kernel
theorem dX10_isNode_0 : decode cX10_isNode 0 = .ok (.iload_n 1, 1) := by decide +kernel
theorem dX10_isNode_1 : decode cX10_isNode 1 = .ok (.iconst 0, 1) := by decide +kernel
theorem dX10_isNode_2 : decode cX10_isNode 2 = .ok (.aload_n 0, 1) := by decide +kernel
theorem dX10_isNode_3 : decode cX10_isNode 3 = .ok (.getfield 11, 3) := by decide +kernel
theorem dX10_isNode_6 : decode cX10_isNode 6 = .ok (.bipush 17, 2) := by decide +kernel
theorem dX10_isNode_8 : decode cX10_isNode 8 = .ok (.iaload, 1) := by decide +kernel
theorem dX10_isNode_9 : decode cX10_isNode 9 = .ok (.iconst 1, 1) := by decide +kernel
theorem dX10_isNode_10 : decode cX10_isNode 10 = .ok (.isub, 1) := by decide +kernel
theorem dX10_isNode_11 : decode cX10_isNode 11 = .ok (.invokestatic 49, 3) := by decide +kernel
theorem dX10_isNode_14 : decode cX10_isNode 14 = .ok (.ireturn, 1) := by decide +kernel
theorem dX10_change_0 : decode cX10_change 0 = .ok (.aload_n 0, 1) := by decide +kernel
theorem dX10_change_1 : decode cX10_change 1 = .ok (.iload_n 1, 1) := by decide +kernel
theorem dX10_change_2 : decode cX10_change 2 = .ok (.invokevirtual 234, 3) := by decide +kernel
theorem dX10_change_5 : decode cX10_change 5 = .ok (.ifCond .eq 12, 3) := by decide +kernel
theorem dX10_change_8 : decode cX10_change 8 = .ok (.iload_n 2, 1) := by decide +kernel
theorem dX10_change_9 : decode cX10_change 9 = .ok (.iconst 0, 1) := by decide +kernel
theorem dX10_change_10 : decode cX10_change 10 = .ok (.iconst 2, 1) := by decide +kernel
theorem dX10_change_11 : decode cX10_change 11 = .ok (.invokestatic 49, 3) := by decide +kernel
theorem dX10_change_14 : decode cX10_change 14 = .ok (.ifCond .ne 5, 3) := by decide +kernel
theorem dX10_change_17 : decode cX10_change 17 = .ok (.iconst (-1), 1) := by decide +kernel
theorem dX10_change_18 : decode cX10_change 18 = .ok (.ireturn, 1) := by decide +kernel
theorem dX10_change_19 : decode cX10_change 19 = .ok (.aload_n 0, 1) := by decide +kernel
theorem dX10_change_20 : decode cX10_change 20 = .ok (.iload_n 2, 1) := by decide +kernel
theorem dX10_change_21 : decode cX10_change 21 = .ok (.iload_n 3, 1) := by decide +kernel
theorem dX10_change_22 : decode cX10_change 22 = .ok (.invokevirtual 231, 3) := by decide +kernel
theorem dX10_change_25 : decode cX10_change 25 = .ok (.ifCond .ne 6, 3) := by decide +kernel
theorem dX10_change_28 : decode cX10_change 28 = .ok (.bipush (-2), 2) := by decide +kernel
theorem dX10_change_30 : decode cX10_change 30 = .ok (.ireturn, 1) := by decide +kernel
theorem dX10_change_31 : decode cX10_change 31 = .ok (.aload_n 0, 1) := by decide +kernel
theorem dX10_change_32 : decode cX10_change 32 = .ok (.getfield 11, 3) := by decide +kernel
theorem dX10_change_35 : decode cX10_change 35 = .ok (.sipush 306, 3) := by decide +kernel
theorem dX10_change_38 : decode cX10_change 38 = .ok (.iconst 3, 1) := by decide +kernel
theorem dX10_change_39 : decode cX10_change 39 = .ok (.iload_n 1, 1) := by decide +kernel
theorem dX10_change_40 : decode cX10_change 40 = .ok (.imul, 1) := by decide +kernel
theorem dX10_change_41 : decode cX10_change 41 = .ok (.iadd, 1) := by decide +kernel
theorem dX10_change_42 : decode cX10_change 42 = .ok (.iload_n 2, 1) := by decide +kernel
theorem dX10_change_43 : decode cX10_change 43 = .ok (.iadd, 1) := by decide +kernel
theorem dX10_change_44 : decode cX10_change 44 = .ok (.iaload, 1) := by decide +kernel
theorem dX10_change_45 : decode cX10_change 45 = .ok (.istore 4, 2) := by decide +kernel
theorem dX10_change_47 : decode cX10_change 47 = .ok (.aload_n 0, 1) := by decide +kernel
theorem dX10_change_48 : decode cX10_change 48 = .ok (.getfield 11, 3) := by decide +kernel
theorem dX10_change_51 : decode cX10_change 51 = .ok (.sipush 306, 3) := by decide +kernel
theorem dX10_change_54 : decode cX10_change 54 = .ok (.iconst 3, 1) := by decide +kernel
theorem dX10_change_55 : decode cX10_change 55 = .ok (.iload_n 1, 1) := by decide +kernel
theorem dX10_change_56 : decode cX10_change 56 = .ok (.imul, 1) := by decide +kernel
theorem dX10_change_57 : decode cX10_change 57 = .ok (.iadd, 1) := by decide +kernel
theorem dX10_change_58 : decode cX10_change 58 = .ok (.iload_n 2, 1) := by decide +kernel
theorem dX10_change_59 : decode cX10_change 59 = .ok (.iadd, 1) := by decide +kernel
theorem dX10_change_60 : decode cX10_change 60 = .ok (.iload_n 3, 1) := by decide +kernel
theorem dX10_change_61 : decode cX10_change 61 = .ok (.iastore, 1) := by decide +kernel
theorem dX10_change_62 : decode cX10_change 62 = .ok (.iload 4, 2) := by decide +kernel
theorem dX10_change_64 : decode cX10_change 64 = .ok (.ireturn, 1) := by decide +kernel
theorem dX10_isOpen_0 : decode cX10_isOpen 0 = .ok (.iload_n 2, 1) := by decide +kernel
theorem dX10_isOpen_1 : decode cX10_isOpen 1 = .ok (.aload_n 0, 1) := by decide +kernel
theorem dX10_isOpen_2 : decode cX10_isOpen 2 = .ok (.getfield 11, 3) := by decide +kernel
theorem dX10_isOpen_5 : decode cX10_isOpen 5 = .ok (.sipush 306, 3) := by decide +kernel
theorem dX10_isOpen_8 : decode cX10_isOpen 8 = .ok (.iconst 3, 1) := by decide +kernel
theorem dX10_isOpen_9 : decode cX10_isOpen 9 = .ok (.iload_n 1, 1) := by decide +kernel
theorem dX10_isOpen_10 : decode cX10_isOpen 10 = .ok (.imul, 1) := by decide +kernel
theorem dX10_isOpen_11 : decode cX10_isOpen 11 = .ok (.iadd, 1) := by decide +kernel
theorem dX10_isOpen_12 : decode cX10_isOpen 12 = .ok (.iaload, 1) := by decide +kernel
theorem dX10_isOpen_13 : decode cX10_isOpen 13 = .ok (.isub, 1) := by decide +kernel
theorem dX10_isOpen_14 : decode cX10_isOpen 14 = .ok (.aload_n 0, 1) := by decide +kernel
theorem dX10_isOpen_15 : decode cX10_isOpen 15 = .ok (.getfield 11, 3) := by decide +kernel
theorem dX10_isOpen_18 : decode cX10_isOpen 18 = .ok (.bipush 16, 2) := by decide +kernel
theorem dX10_isOpen_20 : decode cX10_isOpen 20 = .ok (.iaload, 1) := by decide +kernel
theorem dX10_isOpen_21 : decode cX10_isOpen 21 = .ok (.irem, 1) := by decide +kernel
theorem dX10_isOpen_22 : decode cX10_isOpen 22 = .ok (.istore_n 3, 1) := by decide +kernel
theorem dX10_isOpen_23 : decode cX10_isOpen 23 = .ok (.iload_n 3, 1) := by decide +kernel
theorem dX10_isOpen_24 : decode cX10_isOpen 24 = .ok (.ifCond .ge 15, 3) := by decide +kernel
theorem dX10_isOpen_27 : decode cX10_isOpen 27 = .ok (.iload_n 3, 1) := by decide +kernel
theorem dX10_isOpen_28 : decode cX10_isOpen 28 = .ok (.aload_n 0, 1) := by decide +kernel
theorem dX10_isOpen_29 : decode cX10_isOpen 29 = .ok (.getfield 11, 3) := by decide +kernel
theorem dX10_isOpen_32 : decode cX10_isOpen 32 = .ok (.bipush 16, 2) := by decide +kernel
theorem dX10_isOpen_34 : decode cX10_isOpen 34 = .ok (.iaload, 1) := by decide +kernel
theorem dX10_isOpen_35 : decode cX10_isOpen 35 = .ok (.iadd, 1) := by decide +kernel
theorem dX10_isOpen_36 : decode cX10_isOpen 36 = .ok (.goto 4, 3) := by decide +kernel
theorem dX10_isOpen_39 : decode cX10_isOpen 39 = .ok (.iload_n 3, 1) := by decide +kernel
theorem dX10_isOpen_40 : decode cX10_isOpen 40 = .ok (.aload_n 0, 1) := by decide +kernel
theorem dX10_isOpen_41 : decode cX10_isOpen 41 = .ok (.getfield 11, 3) := by decide +kernel
theorem dX10_isOpen_44 : decode cX10_isOpen 44 = .ok (.sipush 306, 3) := by decide +kernel
theorem dX10_isOpen_47 : decode cX10_isOpen 47 = .ok (.iconst 3, 1) := by decide +kernel
theorem dX10_isOpen_48 : decode cX10_isOpen 48 = .ok (.iload_n 1, 1) := by decide +kernel
theorem dX10_isOpen_49 : decode cX10_isOpen 49 = .ok (.imul, 1) := by decide +kernel
theorem dX10_isOpen_50 : decode cX10_isOpen 50 = .ok (.iadd, 1) := by decide +kernel
theorem dX10_isOpen_51 : decode cX10_isOpen 51 = .ok (.iconst 1, 1) := by decide +kernel
theorem dX10_isOpen_52 : decode cX10_isOpen 52 = .ok (.iadd, 1) := by decide +kernel
theorem dX10_isOpen_53 : decode cX10_isOpen 53 = .ok (.iaload, 1) := by decide +kernel
theorem dX10_isOpen_54 : decode cX10_isOpen 54 = .ok (.if_icmp .ge 7, 3) := by decide +kernel
theorem dX10_isOpen_57 : decode cX10_isOpen 57 = .ok (.iconst 1, 1) := by decide +kernel
theorem dX10_isOpen_58 : decode cX10_isOpen 58 = .ok (.goto 4, 3) := by decide +kernel
theorem dX10_isOpen_61 : decode cX10_isOpen 61 = .ok (.iconst 0, 1) := by decide +kernel
theorem dX10_isOpen_62 : decode cX10_isOpen 62 = .ok (.ireturn, 1) := by decide +kernel
theorem dX10_bandOf_0 : decode cX10_bandOf 0 = .ok (.iconst 0, 1) := by decide +kernel
theorem dX10_bandOf_1 : decode cX10_bandOf 1 = .ok (.istore_n 2, 1) := by decide +kernel
theorem dX10_bandOf_2 : decode cX10_bandOf 2 = .ok (.iconst 0, 1) := by decide +kernel
theorem dX10_bandOf_3 : decode cX10_bandOf 3 = .ok (.istore_n 3, 1) := by decide +kernel
theorem dX10_bandOf_4 : decode cX10_bandOf 4 = .ok (.iload_n 3, 1) := by decide +kernel
theorem dX10_bandOf_5 : decode cX10_bandOf 5 = .ok (.aload_n 0, 1) := by decide +kernel
theorem dX10_bandOf_6 : decode cX10_bandOf 6 = .ok (.getfield 11, 3) := by decide +kernel
theorem dX10_bandOf_9 : decode cX10_bandOf 9 = .ok (.bipush 16, 2) := by decide +kernel
theorem dX10_bandOf_11 : decode cX10_bandOf 11 = .ok (.iaload, 1) := by decide +kernel
theorem dX10_bandOf_12 : decode cX10_bandOf 12 = .ok (.if_icmp .ge 131, 3) := by decide +kernel
theorem dX10_bandOf_15 : decode cX10_bandOf 15 = .ok (.aload_n 0, 1) := by decide +kernel
theorem dX10_bandOf_16 : decode cX10_bandOf 16 = .ok (.getfield 11, 3) := by decide +kernel
theorem dX10_bandOf_19 : decode cX10_bandOf 19 = .ok (.bipush 17, 2) := by decide +kernel
theorem dX10_bandOf_21 : decode cX10_bandOf 21 = .ok (.iaload, 1) := by decide +kernel
theorem dX10_bandOf_22 : decode cX10_bandOf 22 = .ok (.ifCond .le 121, 3) := by decide +kernel
theorem dX10_bandOf_25 : decode cX10_bandOf 25 = .ok (.iconst 1, 1) := by decide +kernel
theorem dX10_bandOf_26 : decode cX10_bandOf 26 = .ok (.istore 4, 2) := by decide +kernel
theorem dX10_bandOf_28 : decode cX10_bandOf 28 = .ok (.iload_n 3, 1) := by decide +kernel
theorem dX10_bandOf_29 : decode cX10_bandOf 29 = .ok (.istore 5, 2) := by decide +kernel
theorem dX10_bandOf_31 : decode cX10_bandOf 31 = .ok (.iconst 0, 1) := by decide +kernel
theorem dX10_bandOf_32 : decode cX10_bandOf 32 = .ok (.istore 6, 2) := by decide +kernel
theorem dX10_bandOf_34 : decode cX10_bandOf 34 = .ok (.iload 6, 2) := by decide +kernel
theorem dX10_bandOf_36 : decode cX10_bandOf 36 = .ok (.aload_n 0, 1) := by decide +kernel
theorem dX10_bandOf_37 : decode cX10_bandOf 37 = .ok (.getfield 11, 3) := by decide +kernel
theorem dX10_bandOf_40 : decode cX10_bandOf 40 = .ok (.bipush 17, 2) := by decide +kernel
theorem dX10_bandOf_42 : decode cX10_bandOf 42 = .ok (.iaload, 1) := by decide +kernel
theorem dX10_bandOf_43 : decode cX10_bandOf 43 = .ok (.if_icmp .ge 81, 3) := by decide +kernel
theorem dX10_bandOf_46 : decode cX10_bandOf 46 = .ok (.iload_n 1, 1) := by decide +kernel
theorem dX10_bandOf_47 : decode cX10_bandOf 47 = .ok (.ifCond .ne 8, 3) := by decide +kernel
theorem dX10_bandOf_50 : decode cX10_bandOf 50 = .ok (.iload 6, 2) := by decide +kernel
theorem dX10_bandOf_52 : decode cX10_bandOf 52 = .ok (.goto 15, 3) := by decide +kernel
theorem dX10_bandOf_55 : decode cX10_bandOf 55 = .ok (.aload_n 0, 1) := by decide +kernel
theorem dX10_bandOf_56 : decode cX10_bandOf 56 = .ok (.getfield 11, 3) := by decide +kernel
theorem dX10_bandOf_59 : decode cX10_bandOf 59 = .ok (.bipush 17, 2) := by decide +kernel
theorem dX10_bandOf_61 : decode cX10_bandOf 61 = .ok (.iaload, 1) := by decide +kernel
theorem dX10_bandOf_62 : decode cX10_bandOf 62 = .ok (.iconst 1, 1) := by decide +kernel
theorem dX10_bandOf_63 : decode cX10_bandOf 63 = .ok (.isub, 1) := by decide +kernel
theorem dX10_bandOf_64 : decode cX10_bandOf 64 = .ok (.iload 6, 2) := by decide +kernel
theorem dX10_bandOf_66 : decode cX10_bandOf 66 = .ok (.isub, 1) := by decide +kernel
theorem dX10_bandOf_67 : decode cX10_bandOf 67 = .ok (.istore 7, 2) := by decide +kernel
theorem dX10_bandOf_69 : decode cX10_bandOf 69 = .ok (.iload 6, 2) := by decide +kernel
theorem dX10_bandOf_71 : decode cX10_bandOf 71 = .ok (.ifCond .le 34, 3) := by decide +kernel
theorem dX10_bandOf_74 : decode cX10_bandOf 74 = .ok (.iload 5, 2) := by decide +kernel
theorem dX10_bandOf_76 : decode cX10_bandOf 76 = .ok (.aload_n 0, 1) := by decide +kernel
theorem dX10_bandOf_77 : decode cX10_bandOf 77 = .ok (.getfield 11, 3) := by decide +kernel
theorem dX10_bandOf_80 : decode cX10_bandOf 80 = .ok (.sipush 306, 3) := by decide +kernel
theorem dX10_bandOf_83 : decode cX10_bandOf 83 = .ok (.iconst 3, 1) := by decide +kernel
theorem dX10_bandOf_84 : decode cX10_bandOf 84 = .ok (.iload_n 1, 1) := by decide +kernel
theorem dX10_bandOf_85 : decode cX10_bandOf 85 = .ok (.ifCond .ne 10, 3) := by decide +kernel
theorem dX10_bandOf_88 : decode cX10_bandOf 88 = .ok (.iload 7, 2) := by decide +kernel
theorem dX10_bandOf_90 : decode cX10_bandOf 90 = .ok (.iconst 1, 1) := by decide +kernel
theorem dX10_bandOf_91 : decode cX10_bandOf 91 = .ok (.isub, 1) := by decide +kernel
theorem dX10_bandOf_92 : decode cX10_bandOf 92 = .ok (.goto 5, 3) := by decide +kernel
theorem dX10_bandOf_95 : decode cX10_bandOf 95 = .ok (.iload 7, 2) := by decide +kernel
theorem dX10_bandOf_97 : decode cX10_bandOf 97 = .ok (.imul, 1) := by decide +kernel
theorem dX10_bandOf_98 : decode cX10_bandOf 98 = .ok (.iadd, 1) := by decide +kernel
theorem dX10_bandOf_99 : decode cX10_bandOf 99 = .ok (.iconst 2, 1) := by decide +kernel
theorem dX10_bandOf_100 : decode cX10_bandOf 100 = .ok (.iadd, 1) := by decide +kernel
theorem dX10_bandOf_101 : decode cX10_bandOf 101 = .ok (.iaload, 1) := by decide +kernel
theorem dX10_bandOf_102 : decode cX10_bandOf 102 = .ok (.iadd, 1) := by decide +kernel
theorem dX10_bandOf_103 : decode cX10_bandOf 103 = .ok (.istore 5, 2) := by decide +kernel
theorem dX10_bandOf_105 : decode cX10_bandOf 105 = .ok (.iload 4, 2) := by decide +kernel
theorem dX10_bandOf_107 : decode cX10_bandOf 107 = .ok (.aload_n 0, 1) := by decide +kernel
theorem dX10_bandOf_108 : decode cX10_bandOf 108 = .ok (.iload 7, 2) := by decide +kernel
theorem dX10_bandOf_110 : decode cX10_bandOf 110 = .ok (.iload 5, 2) := by decide +kernel
theorem dX10_bandOf_112 : decode cX10_bandOf 112 = .ok (.invokevirtual 237, 3) := by decide +kernel
theorem dX10_bandOf_115 : decode cX10_bandOf 115 = .ok (.iand, 1) := by decide +kernel
theorem dX10_bandOf_116 : decode cX10_bandOf 116 = .ok (.istore 4, 2) := by decide +kernel
theorem dX10_bandOf_118 : decode cX10_bandOf 118 = .ok (.iinc 6 1, 3) := by decide +kernel
theorem dX10_bandOf_121 : decode cX10_bandOf 121 = .ok (.goto (-87), 3) := by decide +kernel
theorem dX10_bandOf_124 : decode cX10_bandOf 124 = .ok (.iload_n 2, 1) := by decide +kernel
theorem dX10_bandOf_125 : decode cX10_bandOf 125 = .ok (.iload 4, 2) := by decide +kernel
theorem dX10_bandOf_127 : decode cX10_bandOf 127 = .ok (.ifCond .eq 7, 3) := by decide +kernel
theorem dX10_bandOf_130 : decode cX10_bandOf 130 = .ok (.iconst 1, 1) := by decide +kernel
theorem dX10_bandOf_131 : decode cX10_bandOf 131 = .ok (.goto 4, 3) := by decide +kernel
theorem dX10_bandOf_134 : decode cX10_bandOf 134 = .ok (.iconst 0, 1) := by decide +kernel
theorem dX10_bandOf_135 : decode cX10_bandOf 135 = .ok (.iadd, 1) := by decide +kernel
theorem dX10_bandOf_136 : decode cX10_bandOf 136 = .ok (.istore_n 2, 1) := by decide +kernel
theorem dX10_bandOf_137 : decode cX10_bandOf 137 = .ok (.iinc 3 1, 3) := by decide +kernel
theorem dX10_bandOf_140 : decode cX10_bandOf 140 = .ok (.goto (-136), 3) := by decide +kernel
theorem dX10_bandOf_143 : decode cX10_bandOf 143 = .ok (.iload_n 2, 1) := by decide +kernel
theorem dX10_bandOf_144 : decode cX10_bandOf 144 = .ok (.ireturn, 1) := by decide +kernel
theorem dX10_bands_0 : decode cX10_bands 0 = .ok (.aload_n 0, 1) := by decide +kernel
theorem dX10_bands_1 : decode cX10_bands 1 = .ok (.iconst 0, 1) := by decide +kernel
theorem dX10_bands_2 : decode cX10_bands 2 = .ok (.invokevirtual 240, 3) := by decide +kernel
theorem dX10_bands_5 : decode cX10_bands 5 = .ok (.aload_n 0, 1) := by decide +kernel
theorem dX10_bands_6 : decode cX10_bands 6 = .ok (.iconst 1, 1) := by decide +kernel
theorem dX10_bands_7 : decode cX10_bands 7 = .ok (.invokevirtual 240, 3) := by decide +kernel
theorem dX10_bands_10 : decode cX10_bands 10 = .ok (.iadd, 1) := by decide +kernel
theorem dX10_bands_11 : decode cX10_bands 11 = .ok (.ireturn, 1) := by decide +kernel
theorem dX10_band_0 : decode cX10_band 0 = .ok (.iload_n 1, 1) := by decide +kernel
theorem dX10_band_1 : decode cX10_band 1 = .ok (.iconst 0, 1) := by decide +kernel
theorem dX10_band_2 : decode cX10_band 2 = .ok (.iconst 2, 1) := by decide +kernel
theorem dX10_band_3 : decode cX10_band 3 = .ok (.invokestatic 49, 3) := by decide +kernel
theorem dX10_band_6 : decode cX10_band 6 = .ok (.ifCond .ne 7, 3) := by decide +kernel
theorem dX10_band_9 : decode cX10_band 9 = .ok (.iconst (-1), 1) := by decide +kernel
theorem dX10_band_10 : decode cX10_band 10 = .ok (.goto 20, 3) := by decide +kernel
theorem dX10_band_13 : decode cX10_band 13 = .ok (.iload_n 1, 1) := by decide +kernel
theorem dX10_band_14 : decode cX10_band 14 = .ok (.iconst 2, 1) := by decide +kernel
theorem dX10_band_15 : decode cX10_band 15 = .ok (.if_icmp .ne 10, 3) := by decide +kernel
theorem dX10_band_18 : decode cX10_band 18 = .ok (.aload_n 0, 1) := by decide +kernel
theorem dX10_band_19 : decode cX10_band 19 = .ok (.invokevirtual 243, 3) := by decide +kernel
theorem dX10_band_22 : decode cX10_band 22 = .ok (.goto 8, 3) := by decide +kernel
theorem dX10_band_25 : decode cX10_band 25 = .ok (.aload_n 0, 1) := by decide +kernel
theorem dX10_band_26 : decode cX10_band 26 = .ok (.iload_n 1, 1) := by decide +kernel
theorem dX10_band_27 : decode cX10_band 27 = .ok (.invokevirtual 240, 3) := by decide +kernel
theorem dX10_band_30 : decode cX10_band 30 = .ok (.ireturn, 1) := by decide +kernel
theorem dX10_bestOffset_0 : decode cX10_bestOffset 0 = .ok (.aload_n 0, 1) := by decide +kernel
theorem dX10_bestOffset_1 : decode cX10_bestOffset 1 = .ok (.getfield 11, 3) := by decide +kernel
theorem dX10_bestOffset_4 : decode cX10_bestOffset 4 = .ok (.sipush 306, 3) := by decide +kernel
theorem dX10_bestOffset_7 : decode cX10_bestOffset 7 = .ok (.iconst 3, 1) := by decide +kernel
theorem dX10_bestOffset_8 : decode cX10_bestOffset 8 = .ok (.iload_n 1, 1) := by decide +kernel
theorem dX10_bestOffset_9 : decode cX10_bestOffset 9 = .ok (.imul, 1) := by decide +kernel
theorem dX10_bestOffset_10 : decode cX10_bestOffset 10 = .ok (.iadd, 1) := by decide +kernel
theorem dX10_bestOffset_11 : decode cX10_bestOffset 11 = .ok (.iaload, 1) := by decide +kernel
theorem dX10_bestOffset_12 : decode cX10_bestOffset 12 = .ok (.istore_n 2, 1) := by decide +kernel
theorem dX10_bestOffset_13 : decode cX10_bestOffset 13 = .ok (.iconst 0, 1) := by decide +kernel
theorem dX10_bestOffset_14 : decode cX10_bestOffset 14 = .ok (.istore_n 3, 1) := by decide +kernel
theorem dX10_bestOffset_15 : decode cX10_bestOffset 15 = .ok (.aload_n 0, 1) := by decide +kernel
theorem dX10_bestOffset_16 : decode cX10_bestOffset 16 = .ok (.iconst (-1), 1) := by decide +kernel
theorem dX10_bestOffset_17 : decode cX10_bestOffset 17 = .ok (.putfield 246, 3) := by decide +kernel
theorem dX10_bestOffset_20 : decode cX10_bestOffset 20 = .ok (.iconst 0, 1) := by decide +kernel
theorem dX10_bestOffset_21 : decode cX10_bestOffset 21 = .ok (.istore 4, 2) := by decide +kernel
theorem dX10_bestOffset_23 : decode cX10_bestOffset 23 = .ok (.iload 4, 2) := by decide +kernel
theorem dX10_bestOffset_25 : decode cX10_bestOffset 25 = .ok (.aload_n 0, 1) := by decide +kernel
theorem dX10_bestOffset_26 : decode cX10_bestOffset 26 = .ok (.getfield 11, 3) := by decide +kernel
theorem dX10_bestOffset_29 : decode cX10_bestOffset 29 = .ok (.bipush 16, 2) := by decide +kernel
theorem dX10_bestOffset_31 : decode cX10_bestOffset 31 = .ok (.iaload, 1) := by decide +kernel
theorem dX10_bestOffset_32 : decode cX10_bestOffset 32 = .ok (.if_icmp .ge 50, 3) := by decide +kernel
theorem dX10_bestOffset_35 : decode cX10_bestOffset 35 = .ok (.aload_n 0, 1) := by decide +kernel
theorem dX10_bestOffset_36 : decode cX10_bestOffset 36 = .ok (.getfield 11, 3) := by decide +kernel
theorem dX10_bestOffset_39 : decode cX10_bestOffset 39 = .ok (.sipush 306, 3) := by decide +kernel
theorem dX10_bestOffset_42 : decode cX10_bestOffset 42 = .ok (.iconst 3, 1) := by decide +kernel
theorem dX10_bestOffset_43 : decode cX10_bestOffset 43 = .ok (.iload_n 1, 1) := by decide +kernel
theorem dX10_bestOffset_44 : decode cX10_bestOffset 44 = .ok (.imul, 1) := by decide +kernel
theorem dX10_bestOffset_45 : decode cX10_bestOffset 45 = .ok (.iadd, 1) := by decide +kernel
theorem dX10_bestOffset_46 : decode cX10_bestOffset 46 = .ok (.iload 4, 2) := by decide +kernel
theorem dX10_bestOffset_48 : decode cX10_bestOffset 48 = .ok (.iastore, 1) := by decide +kernel
theorem dX10_bestOffset_49 : decode cX10_bestOffset 49 = .ok (.aload_n 0, 1) := by decide +kernel
theorem dX10_bestOffset_50 : decode cX10_bestOffset 50 = .ok (.invokevirtual 243, 3) := by decide +kernel
theorem dX10_bestOffset_53 : decode cX10_bestOffset 53 = .ok (.istore 5, 2) := by decide +kernel
theorem dX10_bestOffset_55 : decode cX10_bestOffset 55 = .ok (.iload 5, 2) := by decide +kernel
theorem dX10_bestOffset_57 : decode cX10_bestOffset 57 = .ok (.aload_n 0, 1) := by decide +kernel
theorem dX10_bestOffset_58 : decode cX10_bestOffset 58 = .ok (.getfield 246, 3) := by decide +kernel
theorem dX10_bestOffset_61 : decode cX10_bestOffset 61 = .ok (.if_icmp .gt 6, 3) := by decide +kernel
theorem dX10_bestOffset_64 : decode cX10_bestOffset 64 = .ok (.goto 12, 3) := by decide +kernel
theorem dX10_bestOffset_67 : decode cX10_bestOffset 67 = .ok (.aload_n 0, 1) := by decide +kernel
theorem dX10_bestOffset_68 : decode cX10_bestOffset 68 = .ok (.iload 5, 2) := by decide +kernel
theorem dX10_bestOffset_70 : decode cX10_bestOffset 70 = .ok (.putfield 246, 3) := by decide +kernel
theorem dX10_bestOffset_73 : decode cX10_bestOffset 73 = .ok (.iload 4, 2) := by decide +kernel
theorem dX10_bestOffset_75 : decode cX10_bestOffset 75 = .ok (.istore_n 3, 1) := by decide +kernel
theorem dX10_bestOffset_76 : decode cX10_bestOffset 76 = .ok (.iinc 4 1, 3) := by decide +kernel
theorem dX10_bestOffset_79 : decode cX10_bestOffset 79 = .ok (.goto (-56), 3) := by decide +kernel
theorem dX10_bestOffset_82 : decode cX10_bestOffset 82 = .ok (.aload_n 0, 1) := by decide +kernel
theorem dX10_bestOffset_83 : decode cX10_bestOffset 83 = .ok (.getfield 11, 3) := by decide +kernel
theorem dX10_bestOffset_86 : decode cX10_bestOffset 86 = .ok (.sipush 306, 3) := by decide +kernel
theorem dX10_bestOffset_89 : decode cX10_bestOffset 89 = .ok (.iconst 3, 1) := by decide +kernel
theorem dX10_bestOffset_90 : decode cX10_bestOffset 90 = .ok (.iload_n 1, 1) := by decide +kernel
theorem dX10_bestOffset_91 : decode cX10_bestOffset 91 = .ok (.imul, 1) := by decide +kernel
theorem dX10_bestOffset_92 : decode cX10_bestOffset 92 = .ok (.iadd, 1) := by decide +kernel
theorem dX10_bestOffset_93 : decode cX10_bestOffset 93 = .ok (.iload_n 2, 1) := by decide +kernel
theorem dX10_bestOffset_94 : decode cX10_bestOffset 94 = .ok (.iastore, 1) := by decide +kernel
theorem dX10_bestOffset_95 : decode cX10_bestOffset 95 = .ok (.iload_n 3, 1) := by decide +kernel
theorem dX10_bestOffset_96 : decode cX10_bestOffset 96 = .ok (.ireturn, 1) := by decide +kernel
theorem dX10_nodeBest_0 : decode cX10_nodeBest 0 = .ok (.aload_n 0, 1) := by decide +kernel
theorem dX10_nodeBest_1 : decode cX10_nodeBest 1 = .ok (.iload_n 1, 1) := by decide +kernel
theorem dX10_nodeBest_2 : decode cX10_nodeBest 2 = .ok (.invokevirtual 234, 3) := by decide +kernel
theorem dX10_nodeBest_5 : decode cX10_nodeBest 5 = .ok (.ifCond .eq 12, 3) := by decide +kernel
theorem dX10_nodeBest_8 : decode cX10_nodeBest 8 = .ok (.iload_n 2, 1) := by decide +kernel
theorem dX10_nodeBest_9 : decode cX10_nodeBest 9 = .ok (.iconst 0, 1) := by decide +kernel
theorem dX10_nodeBest_10 : decode cX10_nodeBest 10 = .ok (.iconst 1, 1) := by decide +kernel
theorem dX10_nodeBest_11 : decode cX10_nodeBest 11 = .ok (.invokestatic 49, 3) := by decide +kernel
theorem dX10_nodeBest_14 : decode cX10_nodeBest 14 = .ok (.ifCond .ne 5, 3) := by decide +kernel
theorem dX10_nodeBest_17 : decode cX10_nodeBest 17 = .ok (.iconst (-1), 1) := by decide +kernel
theorem dX10_nodeBest_18 : decode cX10_nodeBest 18 = .ok (.ireturn, 1) := by decide +kernel
theorem dX10_nodeBest_19 : decode cX10_nodeBest 19 = .ok (.aload_n 0, 1) := by decide +kernel
theorem dX10_nodeBest_20 : decode cX10_nodeBest 20 = .ok (.bipush 10, 2) := by decide +kernel
theorem dX10_nodeBest_22 : decode cX10_nodeBest 22 = .ok (.invokevirtual 203, 3) := by decide +kernel
theorem dX10_nodeBest_25 : decode cX10_nodeBest 25 = .ok (.ifCond .ne 6, 3) := by decide +kernel
theorem dX10_nodeBest_28 : decode cX10_nodeBest 28 = .ok (.bipush (-4), 2) := by decide +kernel
theorem dX10_nodeBest_30 : decode cX10_nodeBest 30 = .ok (.ireturn, 1) := by decide +kernel
theorem dX10_nodeBest_31 : decode cX10_nodeBest 31 = .ok (.aload_n 0, 1) := by decide +kernel
theorem dX10_nodeBest_32 : decode cX10_nodeBest 32 = .ok (.iload_n 1, 1) := by decide +kernel
theorem dX10_nodeBest_33 : decode cX10_nodeBest 33 = .ok (.invokevirtual 249, 3) := by decide +kernel
theorem dX10_nodeBest_36 : decode cX10_nodeBest 36 = .ok (.istore_n 3, 1) := by decide +kernel
theorem dX10_nodeBest_37 : decode cX10_nodeBest 37 = .ok (.iload_n 2, 1) := by decide +kernel
theorem dX10_nodeBest_38 : decode cX10_nodeBest 38 = .ok (.ifCond .ne 7, 3) := by decide +kernel
theorem dX10_nodeBest_41 : decode cX10_nodeBest 41 = .ok (.iload_n 3, 1) := by decide +kernel
theorem dX10_nodeBest_42 : decode cX10_nodeBest 42 = .ok (.goto 7, 3) := by decide +kernel
theorem dX10_nodeBest_45 : decode cX10_nodeBest 45 = .ok (.aload_n 0, 1) := by decide +kernel
theorem dX10_nodeBest_46 : decode cX10_nodeBest 46 = .ok (.getfield 246, 3) := by decide +kernel
theorem dX10_nodeBest_49 : decode cX10_nodeBest 49 = .ok (.ireturn, 1) := by decide +kernel
theorem dX10_tune_0 : decode cX10_tune 0 = .ok (.aload_n 0, 1) := by decide +kernel
theorem dX10_tune_1 : decode cX10_tune 1 = .ok (.sipush 200, 3) := by decide +kernel
theorem dX10_tune_4 : decode cX10_tune 4 = .ok (.invokevirtual 203, 3) := by decide +kernel
theorem dX10_tune_7 : decode cX10_tune 7 = .ok (.ifCond .ne 6, 3) := by decide +kernel
theorem dX10_tune_10 : decode cX10_tune 10 = .ok (.bipush (-4), 2) := by decide +kernel
theorem dX10_tune_12 : decode cX10_tune 12 = .ok (.ireturn, 1) := by decide +kernel
theorem dX10_tune_13 : decode cX10_tune 13 = .ok (.iconst 0, 1) := by decide +kernel
theorem dX10_tune_14 : decode cX10_tune 14 = .ok (.istore_n 1, 1) := by decide +kernel
theorem dX10_tune_15 : decode cX10_tune 15 = .ok (.iload_n 1, 1) := by decide +kernel
theorem dX10_tune_16 : decode cX10_tune 16 = .ok (.iconst 4, 1) := by decide +kernel
theorem dX10_tune_17 : decode cX10_tune 17 = .ok (.if_icmp .ge 58, 3) := by decide +kernel
theorem dX10_tune_20 : decode cX10_tune 20 = .ok (.iconst 0, 1) := by decide +kernel
theorem dX10_tune_21 : decode cX10_tune 21 = .ok (.istore_n 2, 1) := by decide +kernel
theorem dX10_tune_22 : decode cX10_tune 22 = .ok (.iload_n 2, 1) := by decide +kernel
theorem dX10_tune_23 : decode cX10_tune 23 = .ok (.aload_n 0, 1) := by decide +kernel
theorem dX10_tune_24 : decode cX10_tune 24 = .ok (.getfield 11, 3) := by decide +kernel
theorem dX10_tune_27 : decode cX10_tune 27 = .ok (.bipush 17, 2) := by decide +kernel
theorem dX10_tune_29 : decode cX10_tune 29 = .ok (.iaload, 1) := by decide +kernel
theorem dX10_tune_30 : decode cX10_tune 30 = .ok (.if_icmp .ge 39, 3) := by decide +kernel
theorem dX10_tune_33 : decode cX10_tune 33 = .ok (.aload_n 0, 1) := by decide +kernel
theorem dX10_tune_34 : decode cX10_tune 34 = .ok (.iload_n 2, 1) := by decide +kernel
theorem dX10_tune_35 : decode cX10_tune 35 = .ok (.invokevirtual 249, 3) := by decide +kernel
theorem dX10_tune_38 : decode cX10_tune 38 = .ok (.istore_n 3, 1) := by decide +kernel
theorem dX10_tune_39 : decode cX10_tune 39 = .ok (.aload_n 0, 1) := by decide +kernel
theorem dX10_tune_40 : decode cX10_tune 40 = .ok (.getfield 246, 3) := by decide +kernel
theorem dX10_tune_43 : decode cX10_tune 43 = .ok (.aload_n 0, 1) := by decide +kernel
theorem dX10_tune_44 : decode cX10_tune 44 = .ok (.invokevirtual 243, 3) := by decide +kernel
theorem dX10_tune_47 : decode cX10_tune 47 = .ok (.if_icmp .le 16, 3) := by decide +kernel
theorem dX10_tune_50 : decode cX10_tune 50 = .ok (.aload_n 0, 1) := by decide +kernel
theorem dX10_tune_51 : decode cX10_tune 51 = .ok (.getfield 11, 3) := by decide +kernel
theorem dX10_tune_54 : decode cX10_tune 54 = .ok (.sipush 306, 3) := by decide +kernel
theorem dX10_tune_57 : decode cX10_tune 57 = .ok (.iconst 3, 1) := by decide +kernel
theorem dX10_tune_58 : decode cX10_tune 58 = .ok (.iload_n 2, 1) := by decide +kernel
theorem dX10_tune_59 : decode cX10_tune 59 = .ok (.imul, 1) := by decide +kernel
theorem dX10_tune_60 : decode cX10_tune 60 = .ok (.iadd, 1) := by decide +kernel
theorem dX10_tune_61 : decode cX10_tune 61 = .ok (.iload_n 3, 1) := by decide +kernel
theorem dX10_tune_62 : decode cX10_tune 62 = .ok (.iastore, 1) := by decide +kernel
theorem dX10_tune_63 : decode cX10_tune 63 = .ok (.iinc 2 1, 3) := by decide +kernel
theorem dX10_tune_66 : decode cX10_tune 66 = .ok (.goto (-44), 3) := by decide +kernel
theorem dX10_tune_69 : decode cX10_tune 69 = .ok (.iinc 1 1, 3) := by decide +kernel
theorem dX10_tune_72 : decode cX10_tune 72 = .ok (.goto (-57), 3) := by decide +kernel
theorem dX10_tune_75 : decode cX10_tune 75 = .ok (.aload_n 0, 1) := by decide +kernel
theorem dX10_tune_76 : decode cX10_tune 76 = .ok (.invokevirtual 243, 3) := by decide +kernel
theorem dX10_tune_79 : decode cX10_tune 79 = .ok (.ireturn, 1) := by decide +kernel
theorem dX10_thinks_0 : decode cX10_thinks 0 = .ok (.aload_n 0, 1) := by decide +kernel
theorem dX10_thinks_1 : decode cX10_thinks 1 = .ok (.getfield 11, 3) := by decide +kernel
theorem dX10_thinks_4 : decode cX10_thinks 4 = .ok (.aload_n 0, 1) := by decide +kernel
theorem dX10_thinks_5 : decode cX10_thinks 5 = .ok (.getfield 18, 3) := by decide +kernel
theorem dX10_thinks_8 : decode cX10_thinks 8 = .ok (.invokestatic 252, 3) := by decide +kernel
theorem dX10_thinks_11 : decode cX10_thinks 11 = .ok (.return_, 1) := by decide +kernel
theorem dX10_forgets_0 : decode cX10_forgets 0 = .ok (.aload_n 0, 1) := by decide +kernel
theorem dX10_forgets_1 : decode cX10_forgets 1 = .ok (.getfield 18, 3) := by decide +kernel
theorem dX10_forgets_4 : decode cX10_forgets 4 = .ok (.aload_n 0, 1) := by decide +kernel
theorem dX10_forgets_5 : decode cX10_forgets 5 = .ok (.getfield 11, 3) := by decide +kernel
theorem dX10_forgets_8 : decode cX10_forgets 8 = .ok (.invokestatic 252, 3) := by decide +kernel
theorem dX10_forgets_11 : decode cX10_forgets 11 = .ok (.return_, 1) := by decide +kernel
theorem dX10_would_0 : decode cX10_would 0 = .ok (.iload_n 2, 1) := by decide +kernel
theorem dX10_would_1 : decode cX10_would 1 = .ok (.iconst 0, 1) := by decide +kernel
theorem dX10_would_2 : decode cX10_would 2 = .ok (.bipush 18, 2) := by decide +kernel
theorem dX10_would_4 : decode cX10_would 4 = .ok (.invokestatic 49, 3) := by decide +kernel
theorem dX10_would_7 : decode cX10_would 7 = .ok (.ifCond .ne 5, 3) := by decide +kernel
theorem dX10_would_10 : decode cX10_would 10 = .ok (.iconst (-1), 1) := by decide +kernel
theorem dX10_would_11 : decode cX10_would 11 = .ok (.ireturn, 1) := by decide +kernel
theorem dX10_would_12 : decode cX10_would 12 = .ok (.iload_n 1, 1) := by decide +kernel
theorem dX10_would_13 : decode cX10_would 13 = .ok (.iconst 0, 1) := by decide +kernel
theorem dX10_would_14 : decode cX10_would 14 = .ok (.bipush 99, 2) := by decide +kernel
theorem dX10_would_16 : decode cX10_would 16 = .ok (.invokestatic 49, 3) := by decide +kernel
theorem dX10_would_19 : decode cX10_would 19 = .ok (.ifCond .ne 6, 3) := by decide +kernel
theorem dX10_would_22 : decode cX10_would 22 = .ok (.bipush (-2), 2) := by decide +kernel
theorem dX10_would_24 : decode cX10_would 24 = .ok (.ireturn, 1) := by decide +kernel
theorem dX10_would_25 : decode cX10_would 25 = .ok (.aload_n 0, 1) := by decide +kernel
theorem dX10_would_26 : decode cX10_would 26 = .ok (.getfield 11, 3) := by decide +kernel
theorem dX10_would_29 : decode cX10_would 29 = .ok (.iconst 2, 1) := by decide +kernel
theorem dX10_would_30 : decode cX10_would 30 = .ok (.iaload, 1) := by decide +kernel
theorem dX10_would_31 : decode cX10_would 31 = .ok (.ifCond .ne 6, 3) := by decide +kernel
theorem dX10_would_34 : decode cX10_would 34 = .ok (.bipush (-3), 2) := by decide +kernel
theorem dX10_would_36 : decode cX10_would 36 = .ok (.ireturn, 1) := by decide +kernel
theorem dX10_would_37 : decode cX10_would 37 = .ok (.aload_n 0, 1) := by decide +kernel
theorem dX10_would_38 : decode cX10_would 38 = .ok (.iload_n 1, 1) := by decide +kernel
theorem dX10_would_39 : decode cX10_would 39 = .ok (.invokevirtual 203, 3) := by decide +kernel
theorem dX10_would_42 : decode cX10_would 42 = .ok (.ifCond .ne 6, 3) := by decide +kernel
theorem dX10_would_45 : decode cX10_would 45 = .ok (.bipush (-4), 2) := by decide +kernel
theorem dX10_would_47 : decode cX10_would 47 = .ok (.ireturn, 1) := by decide +kernel
theorem dX10_would_48 : decode cX10_would 48 = .ok (.aload_n 0, 1) := by decide +kernel
theorem dX10_would_49 : decode cX10_would 49 = .ok (.invokevirtual 256, 3) := by decide +kernel
theorem dX10_would_52 : decode cX10_would 52 = .ok (.aload_n 0, 1) := by decide +kernel
theorem dX10_would_53 : decode cX10_would 53 = .ok (.iload_n 1, 1) := by decide +kernel
theorem dX10_would_54 : decode cX10_would 54 = .ok (.invokevirtual 206, 3) := by decide +kernel
theorem dX10_would_57 : decode cX10_would 57 = .ok (.aload_n 0, 1) := by decide +kernel
theorem dX10_would_58 : decode cX10_would 58 = .ok (.iload_n 2, 1) := by decide +kernel
theorem dX10_would_59 : decode cX10_would 59 = .ok (.invokevirtual 259, 3) := by decide +kernel
theorem dX10_would_62 : decode cX10_would 62 = .ok (.istore_n 3, 1) := by decide +kernel
theorem dX10_would_63 : decode cX10_would 63 = .ok (.aload_n 0, 1) := by decide +kernel
theorem dX10_would_64 : decode cX10_would 64 = .ok (.invokevirtual 262, 3) := by decide +kernel
theorem dX10_would_67 : decode cX10_would 67 = .ok (.iload_n 3, 1) := by decide +kernel
theorem dX10_would_68 : decode cX10_would 68 = .ok (.ireturn, 1) := by decide +kernel
theorem dX10_turns__0 : decode cX10_turns_ 0 = .ok (.aload_n 0, 1) := by decide +kernel
theorem dX10_turns__1 : decode cX10_turns_ 1 = .ok (.iload_n 1, 1) := by decide +kernel
theorem dX10_turns__2 : decode cX10_turns_ 2 = .ok (.invokevirtual 96, 3) := by decide +kernel
theorem dX10_turns__5 : decode cX10_turns_ 5 = .ok (.ifCond .ne 5, 3) := by decide +kernel
theorem dX10_turns__8 : decode cX10_turns_ 8 = .ok (.iconst (-1), 1) := by decide +kernel
theorem dX10_turns__9 : decode cX10_turns_ 9 = .ok (.ireturn, 1) := by decide +kernel
theorem dX10_turns__10 : decode cX10_turns_ 10 = .ok (.iload_n 2, 1) := by decide +kernel
theorem dX10_turns__11 : decode cX10_turns_ 11 = .ok (.iconst 0, 1) := by decide +kernel
theorem dX10_turns__12 : decode cX10_turns_ 12 = .ok (.bipush 99, 2) := by decide +kernel
theorem dX10_turns__14 : decode cX10_turns_ 14 = .ok (.invokestatic 49, 3) := by decide +kernel
theorem dX10_turns__17 : decode cX10_turns_ 17 = .ok (.ifCond .ne 6, 3) := by decide +kernel
theorem dX10_turns__20 : decode cX10_turns_ 20 = .ok (.bipush (-2), 2) := by decide +kernel
theorem dX10_turns__22 : decode cX10_turns_ 22 = .ok (.ireturn, 1) := by decide +kernel
theorem dX10_turns__23 : decode cX10_turns_ 23 = .ok (.aload_n 0, 1) := by decide +kernel
theorem dX10_turns__24 : decode cX10_turns_ 24 = .ok (.getfield 11, 3) := by decide +kernel
theorem dX10_turns__27 : decode cX10_turns_ 27 = .ok (.iconst 2, 1) := by decide +kernel
theorem dX10_turns__28 : decode cX10_turns_ 28 = .ok (.iaload, 1) := by decide +kernel
theorem dX10_turns__29 : decode cX10_turns_ 29 = .ok (.ifCond .ne 6, 3) := by decide +kernel
theorem dX10_turns__32 : decode cX10_turns_ 32 = .ok (.bipush (-3), 2) := by decide +kernel
theorem dX10_turns__34 : decode cX10_turns_ 34 = .ok (.ireturn, 1) := by decide +kernel
theorem dX10_turns__35 : decode cX10_turns_ 35 = .ok (.aload_n 0, 1) := by decide +kernel
theorem dX10_turns__36 : decode cX10_turns_ 36 = .ok (.iload_n 2, 1) := by decide +kernel
theorem dX10_turns__37 : decode cX10_turns_ 37 = .ok (.invokevirtual 203, 3) := by decide +kernel
theorem dX10_turns__40 : decode cX10_turns_ 40 = .ok (.ifCond .ne 6, 3) := by decide +kernel
theorem dX10_turns__43 : decode cX10_turns_ 43 = .ok (.bipush (-4), 2) := by decide +kernel
theorem dX10_turns__45 : decode cX10_turns_ 45 = .ok (.ireturn, 1) := by decide +kernel
theorem dX10_turns__46 : decode cX10_turns_ 46 = .ok (.aload_n 0, 1) := by decide +kernel
theorem dX10_turns__47 : decode cX10_turns_ 47 = .ok (.invokevirtual 256, 3) := by decide +kernel
theorem dX10_turns__50 : decode cX10_turns_ 50 = .ok (.bipush (-5), 2) := by decide +kernel
theorem dX10_turns__52 : decode cX10_turns_ 52 = .ok (.istore_n 3, 1) := by decide +kernel
theorem dX10_turns__53 : decode cX10_turns_ 53 = .ok (.iconst 0, 1) := by decide +kernel
theorem dX10_turns__54 : decode cX10_turns_ 54 = .ok (.istore 4, 2) := by decide +kernel
theorem dX10_turns__56 : decode cX10_turns_ 56 = .ok (.iload 4, 2) := by decide +kernel
theorem dX10_turns__58 : decode cX10_turns_ 58 = .ok (.iload_n 2, 1) := by decide +kernel
theorem dX10_turns__59 : decode cX10_turns_ 59 = .ok (.if_icmp .ge 44, 3) := by decide +kernel
theorem dX10_turns__62 : decode cX10_turns_ 62 = .ok (.iload_n 3, 1) := by decide +kernel
theorem dX10_turns__63 : decode cX10_turns_ 63 = .ok (.ifCond .ge 40, 3) := by decide +kernel
theorem dX10_turns__66 : decode cX10_turns_ 66 = .ok (.aload_n 0, 1) := by decide +kernel
theorem dX10_turns__67 : decode cX10_turns_ 67 = .ok (.invokevirtual 194, 3) := by decide +kernel
theorem dX10_turns__70 : decode cX10_turns_ 70 = .ok (.aload_n 0, 1) := by decide +kernel
theorem dX10_turns__71 : decode cX10_turns_ 71 = .ok (.iload_n 1, 1) := by decide +kernel
theorem dX10_turns__72 : decode cX10_turns_ 72 = .ok (.bipush 6, 2) := by decide +kernel
theorem dX10_turns__74 : decode cX10_turns_ 74 = .ok (.invokevirtual 56, 3) := by decide +kernel
theorem dX10_turns__77 : decode cX10_turns_ 77 = .ok (.iconst 1, 1) := by decide +kernel
theorem dX10_turns__78 : decode cX10_turns_ 78 = .ok (.if_icmp .ne 12, 3) := by decide +kernel
theorem dX10_turns__81 : decode cX10_turns_ 81 = .ok (.aload_n 0, 1) := by decide +kernel
theorem dX10_turns__82 : decode cX10_turns_ 82 = .ok (.getfield 11, 3) := by decide +kernel
theorem dX10_turns__85 : decode cX10_turns_ 85 = .ok (.iconst 3, 1) := by decide +kernel
theorem dX10_turns__86 : decode cX10_turns_ 86 = .ok (.iaload, 1) := by decide +kernel
theorem dX10_turns__87 : decode cX10_turns_ 87 = .ok (.goto 5, 3) := by decide +kernel
theorem dX10_turns__90 : decode cX10_turns_ 90 = .ok (.bipush (-5), 2) := by decide +kernel
theorem dX10_turns__92 : decode cX10_turns_ 92 = .ok (.istore_n 3, 1) := by decide +kernel
theorem dX10_turns__93 : decode cX10_turns_ 93 = .ok (.aload_n 0, 1) := by decide +kernel
theorem dX10_turns__94 : decode cX10_turns_ 94 = .ok (.invokevirtual 197, 3) := by decide +kernel
theorem dX10_turns__97 : decode cX10_turns_ 97 = .ok (.iinc 4 1, 3) := by decide +kernel
theorem dX10_turns__100 : decode cX10_turns_ 100 = .ok (.goto (-44), 3) := by decide +kernel
theorem dX10_turns__103 : decode cX10_turns_ 103 = .ok (.aload_n 0, 1) := by decide +kernel
theorem dX10_turns__104 : decode cX10_turns_ 104 = .ok (.invokevirtual 262, 3) := by decide +kernel
theorem dX10_turns__107 : decode cX10_turns_ 107 = .ok (.iload_n 3, 1) := by decide +kernel
theorem dX10_turns__108 : decode cX10_turns_ 108 = .ok (.ireturn, 1) := by decide +kernel
theorem dX10_gaps_0 : decode cX10_gaps 0 = .ok (.iconst 0, 1) := by decide +kernel
theorem dX10_gaps_1 : decode cX10_gaps 1 = .ok (.istore_n 2, 1) := by decide +kernel
theorem dX10_gaps_2 : decode cX10_gaps 2 = .ok (.iload_n 2, 1) := by decide +kernel
theorem dX10_gaps_3 : decode cX10_gaps 3 = .ok (.aload_n 0, 1) := by decide +kernel
theorem dX10_gaps_4 : decode cX10_gaps 4 = .ok (.getfield 11, 3) := by decide +kernel
theorem dX10_gaps_7 : decode cX10_gaps 7 = .ok (.bipush 13, 2) := by decide +kernel
theorem dX10_gaps_9 : decode cX10_gaps 9 = .ok (.iaload, 1) := by decide +kernel
theorem dX10_gaps_10 : decode cX10_gaps 10 = .ok (.if_icmp .ge 16, 3) := by decide +kernel
theorem dX10_gaps_13 : decode cX10_gaps 13 = .ok (.aload_n 0, 1) := by decide +kernel
theorem dX10_gaps_14 : decode cX10_gaps 14 = .ok (.iload_n 2, 1) := by decide +kernel
theorem dX10_gaps_15 : decode cX10_gaps 15 = .ok (.iconst 3, 1) := by decide +kernel
theorem dX10_gaps_16 : decode cX10_gaps 16 = .ok (.iload_n 1, 1) := by decide +kernel
theorem dX10_gaps_17 : decode cX10_gaps 17 = .ok (.invokevirtual 85, 3) := by decide +kernel
theorem dX10_gaps_20 : decode cX10_gaps 20 = .ok (.iinc 2 1, 3) := by decide +kernel
theorem dX10_gaps_23 : decode cX10_gaps 23 = .ok (.goto (-21), 3) := by decide +kernel
theorem dX10_gaps_26 : decode cX10_gaps 26 = .ok (.return_, 1) := by decide +kernel
theorem dX10_best_0 : decode cX10_best 0 = .ok (.iload_n 2, 1) := by decide +kernel
theorem dX10_best_1 : decode cX10_best 1 = .ok (.iconst 0, 1) := by decide +kernel
theorem dX10_best_2 : decode cX10_best 2 = .ok (.iconst 1, 1) := by decide +kernel
theorem dX10_best_3 : decode cX10_best 3 = .ok (.invokestatic 49, 3) := by decide +kernel
theorem dX10_best_6 : decode cX10_best 6 = .ok (.ifCond .ne 5, 3) := by decide +kernel
theorem dX10_best_9 : decode cX10_best 9 = .ok (.iconst (-1), 1) := by decide +kernel
theorem dX10_best_10 : decode cX10_best 10 = .ok (.ireturn, 1) := by decide +kernel
theorem dX10_best_11 : decode cX10_best 11 = .ok (.iload_n 1, 1) := by decide +kernel
theorem dX10_best_12 : decode cX10_best 12 = .ok (.iconst 0, 1) := by decide +kernel
theorem dX10_best_13 : decode cX10_best 13 = .ok (.bipush 60, 2) := by decide +kernel
theorem dX10_best_15 : decode cX10_best 15 = .ok (.invokestatic 49, 3) := by decide +kernel
theorem dX10_best_18 : decode cX10_best 18 = .ok (.ifCond .ne 6, 3) := by decide +kernel
theorem dX10_best_21 : decode cX10_best 21 = .ok (.bipush (-2), 2) := by decide +kernel
theorem dX10_best_23 : decode cX10_best 23 = .ok (.ireturn, 1) := by decide +kernel
theorem dX10_best_24 : decode cX10_best 24 = .ok (.aload_n 0, 1) := by decide +kernel
theorem dX10_best_25 : decode cX10_best 25 = .ok (.getfield 11, 3) := by decide +kernel
theorem dX10_best_28 : decode cX10_best 28 = .ok (.iconst 2, 1) := by decide +kernel
theorem dX10_best_29 : decode cX10_best 29 = .ok (.iaload, 1) := by decide +kernel
theorem dX10_best_30 : decode cX10_best 30 = .ok (.ifCond .ne 6, 3) := by decide +kernel
theorem dX10_best_33 : decode cX10_best 33 = .ok (.bipush (-3), 2) := by decide +kernel
theorem dX10_best_35 : decode cX10_best 35 = .ok (.ireturn, 1) := by decide +kernel
theorem dX10_best_36 : decode cX10_best 36 = .ok (.aload_n 0, 1) := by decide +kernel
theorem dX10_best_37 : decode cX10_best 37 = .ok (.bipush 9, 2) := by decide +kernel
theorem dX10_best_39 : decode cX10_best 39 = .ok (.iload_n 1, 1) := by decide +kernel
theorem dX10_best_40 : decode cX10_best 40 = .ok (.imul, 1) := by decide +kernel
theorem dX10_best_41 : decode cX10_best 41 = .ok (.invokevirtual 203, 3) := by decide +kernel
theorem dX10_best_44 : decode cX10_best 44 = .ok (.ifCond .ne 6, 3) := by decide +kernel
theorem dX10_best_47 : decode cX10_best 47 = .ok (.bipush (-4), 2) := by decide +kernel
theorem dX10_best_49 : decode cX10_best 49 = .ok (.ireturn, 1) := by decide +kernel
theorem dX10_best_50 : decode cX10_best 50 = .ok (.aload_n 0, 1) := by decide +kernel
theorem dX10_best_51 : decode cX10_best 51 = .ok (.invokevirtual 256, 3) := by decide +kernel
theorem dX10_best_54 : decode cX10_best 54 = .ok (.iconst 0, 1) := by decide +kernel
theorem dX10_best_55 : decode cX10_best 55 = .ok (.istore_n 3, 1) := by decide +kernel
theorem dX10_best_56 : decode cX10_best 56 = .ok (.iconst 0, 1) := by decide +kernel
theorem dX10_best_57 : decode cX10_best 57 = .ok (.istore 4, 2) := by decide +kernel
theorem dX10_best_59 : decode cX10_best 59 = .ok (.iconst 1, 1) := by decide +kernel
theorem dX10_best_60 : decode cX10_best 60 = .ok (.istore 5, 2) := by decide +kernel
theorem dX10_best_62 : decode cX10_best 62 = .ok (.iload 5, 2) := by decide +kernel
theorem dX10_best_64 : decode cX10_best 64 = .ok (.bipush 9, 2) := by decide +kernel
theorem dX10_best_66 : decode cX10_best 66 = .ok (.if_icmp .gt 52, 3) := by decide +kernel
theorem dX10_best_69 : decode cX10_best 69 = .ok (.aload_n 0, 1) := by decide +kernel
theorem dX10_best_70 : decode cX10_best 70 = .ok (.iload 5, 2) := by decide +kernel
theorem dX10_best_72 : decode cX10_best 72 = .ok (.invokevirtual 265, 3) := by decide +kernel
theorem dX10_best_75 : decode cX10_best 75 = .ok (.aload_n 0, 1) := by decide +kernel
theorem dX10_best_76 : decode cX10_best 76 = .ok (.iload_n 1, 1) := by decide +kernel
theorem dX10_best_77 : decode cX10_best 77 = .ok (.invokevirtual 206, 3) := by decide +kernel
theorem dX10_best_80 : decode cX10_best 80 = .ok (.iload_n 3, 1) := by decide +kernel
theorem dX10_best_81 : decode cX10_best 81 = .ok (.ifCond .eq 15, 3) := by decide +kernel
theorem dX10_best_84 : decode cX10_best 84 = .ok (.aload_n 0, 1) := by decide +kernel
theorem dX10_best_85 : decode cX10_best 85 = .ok (.getfield 11, 3) := by decide +kernel
theorem dX10_best_88 : decode cX10_best 88 = .ok (.bipush 7, 2) := by decide +kernel
theorem dX10_best_90 : decode cX10_best 90 = .ok (.iaload, 1) := by decide +kernel
theorem dX10_best_91 : decode cX10_best 91 = .ok (.iload 4, 2) := by decide +kernel
theorem dX10_best_93 : decode cX10_best 93 = .ok (.if_icmp .ge 15, 3) := by decide +kernel
theorem dX10_best_96 : decode cX10_best 96 = .ok (.iload 5, 2) := by decide +kernel
theorem dX10_best_98 : decode cX10_best 98 = .ok (.istore_n 3, 1) := by decide +kernel
theorem dX10_best_99 : decode cX10_best 99 = .ok (.aload_n 0, 1) := by decide +kernel
theorem dX10_best_100 : decode cX10_best 100 = .ok (.getfield 11, 3) := by decide +kernel
theorem dX10_best_103 : decode cX10_best 103 = .ok (.bipush 7, 2) := by decide +kernel
theorem dX10_best_105 : decode cX10_best 105 = .ok (.iaload, 1) := by decide +kernel
theorem dX10_best_106 : decode cX10_best 106 = .ok (.istore 4, 2) := by decide +kernel
theorem dX10_best_108 : decode cX10_best 108 = .ok (.aload_n 0, 1) := by decide +kernel
theorem dX10_best_109 : decode cX10_best 109 = .ok (.invokevirtual 262, 3) := by decide +kernel
theorem dX10_best_112 : decode cX10_best 112 = .ok (.iinc 5 1, 3) := by decide +kernel
theorem dX10_best_115 : decode cX10_best 115 = .ok (.goto (-53), 3) := by decide +kernel
theorem dX10_best_118 : decode cX10_best 118 = .ok (.iload_n 2, 1) := by decide +kernel
theorem dX10_best_119 : decode cX10_best 119 = .ok (.ifCond .ne 7, 3) := by decide +kernel
theorem dX10_best_122 : decode cX10_best 122 = .ok (.iload_n 3, 1) := by decide +kernel
theorem dX10_best_123 : decode cX10_best 123 = .ok (.goto 5, 3) := by decide +kernel
theorem dX10_best_126 : decode cX10_best 126 = .ok (.iload 4, 2) := by decide +kernel
theorem dX10_best_128 : decode cX10_best 128 = .ok (.ireturn, 1) := by decide +kernel
theorem dX10_note_0 : decode cX10_note 0 = .ok (.iload_n 1, 1) := by decide +kernel
theorem dX10_note_1 : decode cX10_note 1 = .ok (.iconst (-1), 1) := by decide +kernel
theorem dX10_note_2 : decode cX10_note 2 = .ok (.if_icmp .ne 13, 3) := by decide +kernel
theorem dX10_note_5 : decode cX10_note 5 = .ok (.aload_n 0, 1) := by decide +kernel
theorem dX10_note_6 : decode cX10_note 6 = .ok (.getfield 11, 3) := by decide +kernel
theorem dX10_note_9 : decode cX10_note 9 = .ok (.bipush 19, 2) := by decide +kernel
theorem dX10_note_11 : decode cX10_note 11 = .ok (.iconst 0, 1) := by decide +kernel
theorem dX10_note_12 : decode cX10_note 12 = .ok (.iastore, 1) := by decide +kernel
theorem dX10_note_13 : decode cX10_note 13 = .ok (.iconst 0, 1) := by decide +kernel
theorem dX10_note_14 : decode cX10_note 14 = .ok (.ireturn, 1) := by decide +kernel
theorem dX10_note_15 : decode cX10_note 15 = .ok (.iload_n 1, 1) := by decide +kernel
theorem dX10_note_16 : decode cX10_note 16 = .ok (.iconst 0, 1) := by decide +kernel
theorem dX10_note_17 : decode cX10_note 17 = .ok (.ldc_w 268, 3) := by decide +kernel
theorem dX10_note_20 : decode cX10_note 20 = .ok (.invokestatic 49, 3) := by decide +kernel
theorem dX10_note_23 : decode cX10_note 23 = .ok (.ifCond .eq 14, 3) := by decide +kernel
theorem dX10_note_26 : decode cX10_note 26 = .ok (.iload_n 2, 1) := by decide +kernel
theorem dX10_note_27 : decode cX10_note 27 = .ok (.iconst 0, 1) := by decide +kernel
theorem dX10_note_28 : decode cX10_note 28 = .ok (.sipush 255, 3) := by decide +kernel
theorem dX10_note_31 : decode cX10_note 31 = .ok (.invokestatic 49, 3) := by decide +kernel
theorem dX10_note_34 : decode cX10_note 34 = .ok (.ifCond .ne 6, 3) := by decide +kernel
theorem dX10_note_37 : decode cX10_note 37 = .ok (.bipush (-2), 2) := by decide +kernel
theorem dX10_note_39 : decode cX10_note 39 = .ok (.ireturn, 1) := by decide +kernel
theorem dX10_note_40 : decode cX10_note 40 = .ok (.aload_n 0, 1) := by decide +kernel
theorem dX10_note_41 : decode cX10_note 41 = .ok (.getfield 11, 3) := by decide +kernel
theorem dX10_note_44 : decode cX10_note 44 = .ok (.bipush 19, 2) := by decide +kernel
theorem dX10_note_46 : decode cX10_note 46 = .ok (.iaload, 1) := by decide +kernel
theorem dX10_note_47 : decode cX10_note 47 = .ok (.iconst 5, 1) := by decide +kernel
theorem dX10_note_48 : decode cX10_note 48 = .ok (.if_icmp .ne 6, 3) := by decide +kernel
theorem dX10_note_51 : decode cX10_note 51 = .ok (.bipush (-4), 2) := by decide +kernel
theorem dX10_note_53 : decode cX10_note 53 = .ok (.ireturn, 1) := by decide +kernel
theorem dX10_note_54 : decode cX10_note 54 = .ok (.aload_n 0, 1) := by decide +kernel
theorem dX10_note_55 : decode cX10_note 55 = .ok (.getfield 11, 3) := by decide +kernel
theorem dX10_note_58 : decode cX10_note 58 = .ok (.sipush 345, 3) := by decide +kernel
theorem dX10_note_61 : decode cX10_note 61 = .ok (.iconst 2, 1) := by decide +kernel
theorem dX10_note_62 : decode cX10_note 62 = .ok (.aload_n 0, 1) := by decide +kernel
theorem dX10_note_63 : decode cX10_note 63 = .ok (.getfield 11, 3) := by decide +kernel
theorem dX10_note_66 : decode cX10_note 66 = .ok (.bipush 19, 2) := by decide +kernel
theorem dX10_note_68 : decode cX10_note 68 = .ok (.iaload, 1) := by decide +kernel
theorem dX10_note_69 : decode cX10_note 69 = .ok (.imul, 1) := by decide +kernel
theorem dX10_note_70 : decode cX10_note 70 = .ok (.iadd, 1) := by decide +kernel
theorem dX10_note_71 : decode cX10_note 71 = .ok (.iload_n 1, 1) := by decide +kernel
theorem dX10_note_72 : decode cX10_note 72 = .ok (.iastore, 1) := by decide +kernel
theorem dX10_note_73 : decode cX10_note 73 = .ok (.aload_n 0, 1) := by decide +kernel
theorem dX10_note_74 : decode cX10_note 74 = .ok (.getfield 11, 3) := by decide +kernel
theorem dX10_note_77 : decode cX10_note 77 = .ok (.sipush 345, 3) := by decide +kernel
theorem dX10_note_80 : decode cX10_note 80 = .ok (.iconst 2, 1) := by decide +kernel
theorem dX10_note_81 : decode cX10_note 81 = .ok (.aload_n 0, 1) := by decide +kernel
theorem dX10_note_82 : decode cX10_note 82 = .ok (.getfield 11, 3) := by decide +kernel
theorem dX10_note_85 : decode cX10_note 85 = .ok (.bipush 19, 2) := by decide +kernel
theorem dX10_note_87 : decode cX10_note 87 = .ok (.iaload, 1) := by decide +kernel
theorem dX10_note_88 : decode cX10_note 88 = .ok (.imul, 1) := by decide +kernel
theorem dX10_note_89 : decode cX10_note 89 = .ok (.iadd, 1) := by decide +kernel
theorem dX10_note_90 : decode cX10_note 90 = .ok (.iconst 1, 1) := by decide +kernel
theorem dX10_note_91 : decode cX10_note 91 = .ok (.iadd, 1) := by decide +kernel
theorem dX10_note_92 : decode cX10_note 92 = .ok (.iload_n 2, 1) := by decide +kernel
theorem dX10_note_93 : decode cX10_note 93 = .ok (.iastore, 1) := by decide +kernel
theorem dX10_note_94 : decode cX10_note 94 = .ok (.aload_n 0, 1) := by decide +kernel
theorem dX10_note_95 : decode cX10_note 95 = .ok (.getfield 11, 3) := by decide +kernel
theorem dX10_note_98 : decode cX10_note 98 = .ok (.bipush 19, 2) := by decide +kernel
theorem dX10_note_100 : decode cX10_note 100 = .ok (.dup2, 1) := by decide +kernel
theorem dX10_note_101 : decode cX10_note 101 = .ok (.iaload, 1) := by decide +kernel
theorem dX10_note_102 : decode cX10_note 102 = .ok (.iconst 1, 1) := by decide +kernel
theorem dX10_note_103 : decode cX10_note 103 = .ok (.iadd, 1) := by decide +kernel
theorem dX10_note_104 : decode cX10_note 104 = .ok (.iastore, 1) := by decide +kernel
theorem dX10_note_105 : decode cX10_note 105 = .ok (.aload_n 0, 1) := by decide +kernel
theorem dX10_note_106 : decode cX10_note 106 = .ok (.getfield 11, 3) := by decide +kernel
theorem dX10_note_109 : decode cX10_note 109 = .ok (.bipush 19, 2) := by decide +kernel
theorem dX10_note_111 : decode cX10_note 111 = .ok (.iaload, 1) := by decide +kernel
theorem dX10_note_112 : decode cX10_note 112 = .ok (.ireturn, 1) := by decide +kernel
theorem dX10_notesSo_0 : decode cX10_notesSo 0 = .ok (.iconst 0, 1) := by decide +kernel
theorem dX10_notesSo_1 : decode cX10_notesSo 1 = .ok (.istore_n 1, 1) := by decide +kernel
theorem dX10_notesSo_2 : decode cX10_notesSo 2 = .ok (.iconst 0, 1) := by decide +kernel
theorem dX10_notesSo_3 : decode cX10_notesSo 3 = .ok (.istore_n 2, 1) := by decide +kernel
theorem dX10_notesSo_4 : decode cX10_notesSo 4 = .ok (.iload_n 2, 1) := by decide +kernel
theorem dX10_notesSo_5 : decode cX10_notesSo 5 = .ok (.bipush 60, 2) := by decide +kernel
theorem dX10_notesSo_7 : decode cX10_notesSo 7 = .ok (.if_icmp .ge 90, 3) := by decide +kernel
theorem dX10_notesSo_10 : decode cX10_notesSo 10 = .ok (.aload_n 0, 1) := by decide +kernel
theorem dX10_notesSo_11 : decode cX10_notesSo 11 = .ok (.getfield 11, 3) := by decide +kernel
theorem dX10_notesSo_14 : decode cX10_notesSo 14 = .ok (.iconst 3, 1) := by decide +kernel
theorem dX10_notesSo_15 : decode cX10_notesSo 15 = .ok (.iaload, 1) := by decide +kernel
theorem dX10_notesSo_16 : decode cX10_notesSo 16 = .ok (.istore_n 3, 1) := by decide +kernel
theorem dX10_notesSo_17 : decode cX10_notesSo 17 = .ok (.aload_n 0, 1) := by decide +kernel
theorem dX10_notesSo_18 : decode cX10_notesSo 18 = .ok (.iconst 1, 1) := by decide +kernel
theorem dX10_notesSo_19 : decode cX10_notesSo 19 = .ok (.invokevirtual 206, 3) := by decide +kernel
theorem dX10_notesSo_22 : decode cX10_notesSo 22 = .ok (.iconst 0, 1) := by decide +kernel
theorem dX10_notesSo_23 : decode cX10_notesSo 23 = .ok (.istore 4, 2) := by decide +kernel
theorem dX10_notesSo_25 : decode cX10_notesSo 25 = .ok (.iload 4, 2) := by decide +kernel
theorem dX10_notesSo_27 : decode cX10_notesSo 27 = .ok (.aload_n 0, 1) := by decide +kernel
theorem dX10_notesSo_28 : decode cX10_notesSo 28 = .ok (.getfield 11, 3) := by decide +kernel
theorem dX10_notesSo_31 : decode cX10_notesSo 31 = .ok (.bipush 19, 2) := by decide +kernel
theorem dX10_notesSo_33 : decode cX10_notesSo 33 = .ok (.iaload, 1) := by decide +kernel
theorem dX10_notesSo_34 : decode cX10_notesSo 34 = .ok (.if_icmp .ge 57, 3) := by decide +kernel
theorem dX10_notesSo_37 : decode cX10_notesSo 37 = .ok (.iload_n 1, 1) := by decide +kernel
theorem dX10_notesSo_38 : decode cX10_notesSo 38 = .ok (.aload_n 0, 1) := by decide +kernel
theorem dX10_notesSo_39 : decode cX10_notesSo 39 = .ok (.getfield 11, 3) := by decide +kernel
theorem dX10_notesSo_42 : decode cX10_notesSo 42 = .ok (.sipush 345, 3) := by decide +kernel
theorem dX10_notesSo_45 : decode cX10_notesSo 45 = .ok (.iconst 2, 1) := by decide +kernel
theorem dX10_notesSo_46 : decode cX10_notesSo 46 = .ok (.iload 4, 2) := by decide +kernel
theorem dX10_notesSo_48 : decode cX10_notesSo 48 = .ok (.imul, 1) := by decide +kernel
theorem dX10_notesSo_49 : decode cX10_notesSo 49 = .ok (.iadd, 1) := by decide +kernel
theorem dX10_notesSo_50 : decode cX10_notesSo 50 = .ok (.iaload, 1) := by decide +kernel
theorem dX10_notesSo_51 : decode cX10_notesSo 51 = .ok (.iload_n 3, 1) := by decide +kernel
theorem dX10_notesSo_52 : decode cX10_notesSo 52 = .ok (.if_icmp .ne 30, 3) := by decide +kernel
theorem dX10_notesSo_55 : decode cX10_notesSo 55 = .ok (.aload_n 0, 1) := by decide +kernel
theorem dX10_notesSo_56 : decode cX10_notesSo 56 = .ok (.getfield 11, 3) := by decide +kernel
theorem dX10_notesSo_59 : decode cX10_notesSo 59 = .ok (.sipush 345, 3) := by decide +kernel
theorem dX10_notesSo_62 : decode cX10_notesSo 62 = .ok (.iconst 2, 1) := by decide +kernel
theorem dX10_notesSo_63 : decode cX10_notesSo 63 = .ok (.iload 4, 2) := by decide +kernel
theorem dX10_notesSo_65 : decode cX10_notesSo 65 = .ok (.imul, 1) := by decide +kernel
theorem dX10_notesSo_66 : decode cX10_notesSo 66 = .ok (.iadd, 1) := by decide +kernel
theorem dX10_notesSo_67 : decode cX10_notesSo 67 = .ok (.iconst 1, 1) := by decide +kernel
theorem dX10_notesSo_68 : decode cX10_notesSo 68 = .ok (.iadd, 1) := by decide +kernel
theorem dX10_notesSo_69 : decode cX10_notesSo 69 = .ok (.iaload, 1) := by decide +kernel
theorem dX10_notesSo_70 : decode cX10_notesSo 70 = .ok (.aload_n 0, 1) := by decide +kernel
theorem dX10_notesSo_71 : decode cX10_notesSo 71 = .ok (.iconst 2, 1) := by decide +kernel
theorem dX10_notesSo_72 : decode cX10_notesSo 72 = .ok (.invokevirtual 212, 3) := by decide +kernel
theorem dX10_notesSo_75 : decode cX10_notesSo 75 = .ok (.if_icmp .ne 7, 3) := by decide +kernel
theorem dX10_notesSo_78 : decode cX10_notesSo 78 = .ok (.iconst 1, 1) := by decide +kernel
theorem dX10_notesSo_79 : decode cX10_notesSo 79 = .ok (.goto 4, 3) := by decide +kernel
theorem dX10_notesSo_82 : decode cX10_notesSo 82 = .ok (.iconst 0, 1) := by decide +kernel
theorem dX10_notesSo_83 : decode cX10_notesSo 83 = .ok (.iadd, 1) := by decide +kernel
theorem dX10_notesSo_84 : decode cX10_notesSo 84 = .ok (.istore_n 1, 1) := by decide +kernel
theorem dX10_notesSo_85 : decode cX10_notesSo 85 = .ok (.iinc 4 1, 3) := by decide +kernel
theorem dX10_notesSo_88 : decode cX10_notesSo 88 = .ok (.goto (-63), 3) := by decide +kernel
theorem dX10_notesSo_91 : decode cX10_notesSo 91 = .ok (.iinc 2 1, 3) := by decide +kernel
theorem dX10_notesSo_94 : decode cX10_notesSo 94 = .ok (.goto (-90), 3) := by decide +kernel
theorem dX10_notesSo_97 : decode cX10_notesSo 97 = .ok (.iload_n 1, 1) := by decide +kernel
theorem dX10_notesSo_98 : decode cX10_notesSo 98 = .ok (.ireturn, 1) := by decide +kernel
theorem dX10_fits_0 : decode cX10_fits 0 = .ok (.iload_n 1, 1) := by decide +kernel
theorem dX10_fits_1 : decode cX10_fits 1 = .ok (.iconst 0, 1) := by decide +kernel
theorem dX10_fits_2 : decode cX10_fits 2 = .ok (.iconst 1, 1) := by decide +kernel
theorem dX10_fits_3 : decode cX10_fits 3 = .ok (.invokestatic 49, 3) := by decide +kernel
theorem dX10_fits_6 : decode cX10_fits 6 = .ok (.ifCond .ne 5, 3) := by decide +kernel
theorem dX10_fits_9 : decode cX10_fits 9 = .ok (.iconst (-1), 1) := by decide +kernel
theorem dX10_fits_10 : decode cX10_fits 10 = .ok (.ireturn, 1) := by decide +kernel
theorem dX10_fits_11 : decode cX10_fits 11 = .ok (.aload_n 0, 1) := by decide +kernel
theorem dX10_fits_12 : decode cX10_fits 12 = .ok (.getfield 11, 3) := by decide +kernel
theorem dX10_fits_15 : decode cX10_fits 15 = .ok (.iconst 2, 1) := by decide +kernel
theorem dX10_fits_16 : decode cX10_fits 16 = .ok (.iaload, 1) := by decide +kernel
theorem dX10_fits_17 : decode cX10_fits 17 = .ok (.ifCond .ne 6, 3) := by decide +kernel
theorem dX10_fits_20 : decode cX10_fits 20 = .ok (.bipush (-3), 2) := by decide +kernel
theorem dX10_fits_22 : decode cX10_fits 22 = .ok (.ireturn, 1) := by decide +kernel
theorem dX10_fits_23 : decode cX10_fits 23 = .ok (.aload_n 0, 1) := by decide +kernel
theorem dX10_fits_24 : decode cX10_fits 24 = .ok (.sipush 540, 3) := by decide +kernel
theorem dX10_fits_27 : decode cX10_fits 27 = .ok (.invokevirtual 203, 3) := by decide +kernel
theorem dX10_fits_30 : decode cX10_fits 30 = .ok (.ifCond .ne 6, 3) := by decide +kernel
theorem dX10_fits_33 : decode cX10_fits 33 = .ok (.bipush (-4), 2) := by decide +kernel
theorem dX10_fits_35 : decode cX10_fits 35 = .ok (.ireturn, 1) := by decide +kernel
theorem dX10_fits_36 : decode cX10_fits 36 = .ok (.aload_n 0, 1) := by decide +kernel
theorem dX10_fits_37 : decode cX10_fits 37 = .ok (.invokevirtual 256, 3) := by decide +kernel
theorem dX10_fits_40 : decode cX10_fits 40 = .ok (.iconst 0, 1) := by decide +kernel
theorem dX10_fits_41 : decode cX10_fits 41 = .ok (.istore_n 2, 1) := by decide +kernel
theorem dX10_fits_42 : decode cX10_fits 42 = .ok (.bipush (-5), 2) := by decide +kernel
theorem dX10_fits_44 : decode cX10_fits 44 = .ok (.istore_n 3, 1) := by decide +kernel
theorem dX10_fits_45 : decode cX10_fits 45 = .ok (.bipush 9, 2) := by decide +kernel
theorem dX10_fits_47 : decode cX10_fits 47 = .ok (.istore 4, 2) := by decide +kernel
theorem dX10_fits_49 : decode cX10_fits 49 = .ok (.iload 4, 2) := by decide +kernel
theorem dX10_fits_51 : decode cX10_fits 51 = .ok (.iconst 1, 1) := by decide +kernel
theorem dX10_fits_52 : decode cX10_fits 52 = .ok (.if_icmp .lt 39, 3) := by decide +kernel
theorem dX10_fits_55 : decode cX10_fits 55 = .ok (.aload_n 0, 1) := by decide +kernel
theorem dX10_fits_56 : decode cX10_fits 56 = .ok (.iload 4, 2) := by decide +kernel
theorem dX10_fits_58 : decode cX10_fits 58 = .ok (.invokevirtual 265, 3) := by decide +kernel
theorem dX10_fits_61 : decode cX10_fits 61 = .ok (.aload_n 0, 1) := by decide +kernel
theorem dX10_fits_62 : decode cX10_fits 62 = .ok (.invokevirtual 269, 3) := by decide +kernel
theorem dX10_fits_65 : decode cX10_fits 65 = .ok (.aload_n 0, 1) := by decide +kernel
theorem dX10_fits_66 : decode cX10_fits 66 = .ok (.getfield 11, 3) := by decide +kernel
theorem dX10_fits_69 : decode cX10_fits 69 = .ok (.bipush 19, 2) := by decide +kernel
theorem dX10_fits_71 : decode cX10_fits 71 = .ok (.iaload, 1) := by decide +kernel
theorem dX10_fits_72 : decode cX10_fits 72 = .ok (.if_icmp .ne 9, 3) := by decide +kernel
theorem dX10_fits_75 : decode cX10_fits 75 = .ok (.iinc 2 1, 3) := by decide +kernel
theorem dX10_fits_78 : decode cX10_fits 78 = .ok (.iload 4, 2) := by decide +kernel
theorem dX10_fits_80 : decode cX10_fits 80 = .ok (.istore_n 3, 1) := by decide +kernel
theorem dX10_fits_81 : decode cX10_fits 81 = .ok (.aload_n 0, 1) := by decide +kernel
theorem dX10_fits_82 : decode cX10_fits 82 = .ok (.invokevirtual 262, 3) := by decide +kernel
theorem dX10_fits_85 : decode cX10_fits 85 = .ok (.iinc 4 (-1), 3) := by decide +kernel
theorem dX10_fits_88 : decode cX10_fits 88 = .ok (.goto (-39), 3) := by decide +kernel
theorem dX10_fits_91 : decode cX10_fits 91 = .ok (.iload_n 1, 1) := by decide +kernel
theorem dX10_fits_92 : decode cX10_fits 92 = .ok (.ifCond .ne 7, 3) := by decide +kernel
theorem dX10_fits_95 : decode cX10_fits 95 = .ok (.iload_n 2, 1) := by decide +kernel
theorem dX10_fits_96 : decode cX10_fits 96 = .ok (.goto 4, 3) := by decide +kernel
theorem dX10_fits_99 : decode cX10_fits 99 = .ok (.iload_n 3, 1) := by decide +kernel
theorem dX10_fits_100 : decode cX10_fits 100 = .ok (.ireturn, 1) := by decide +kernel
theorem dX10_dayOf_0 : decode cX10_dayOf 0 = .ok (.aload_n 0, 1) := by decide +kernel
theorem dX10_dayOf_1 : decode cX10_dayOf 1 = .ok (.invokevirtual 256, 3) := by decide +kernel
theorem dX10_dayOf_4 : decode cX10_dayOf 4 = .ok (.aload_n 0, 1) := by decide +kernel
theorem dX10_dayOf_5 : decode cX10_dayOf 5 = .ok (.getfield 11, 3) := by decide +kernel
theorem dX10_dayOf_8 : decode cX10_dayOf 8 = .ok (.bipush 7, 2) := by decide +kernel
theorem dX10_dayOf_10 : decode cX10_dayOf 10 = .ok (.iaload, 1) := by decide +kernel
theorem dX10_dayOf_11 : decode cX10_dayOf 11 = .ok (.istore_n 3, 1) := by decide +kernel
theorem dX10_dayOf_12 : decode cX10_dayOf 12 = .ok (.aload_n 0, 1) := by decide +kernel
theorem dX10_dayOf_13 : decode cX10_dayOf 13 = .ok (.getfield 11, 3) := by decide +kernel
theorem dX10_dayOf_16 : decode cX10_dayOf 16 = .ok (.iconst 0, 1) := by decide +kernel
theorem dX10_dayOf_17 : decode cX10_dayOf 17 = .ok (.iload_n 1, 1) := by decide +kernel
theorem dX10_dayOf_18 : decode cX10_dayOf 18 = .ok (.iastore, 1) := by decide +kernel
theorem dX10_dayOf_19 : decode cX10_dayOf 19 = .ok (.aload_n 0, 1) := by decide +kernel
theorem dX10_dayOf_20 : decode cX10_dayOf 20 = .ok (.iload_n 2, 1) := by decide +kernel
theorem dX10_dayOf_21 : decode cX10_dayOf 21 = .ok (.invokevirtual 206, 3) := by decide +kernel
theorem dX10_dayOf_24 : decode cX10_dayOf 24 = .ok (.aload_n 0, 1) := by decide +kernel
theorem dX10_dayOf_25 : decode cX10_dayOf 25 = .ok (.getfield 11, 3) := by decide +kernel
theorem dX10_dayOf_28 : decode cX10_dayOf 28 = .ok (.bipush 7, 2) := by decide +kernel
theorem dX10_dayOf_30 : decode cX10_dayOf 30 = .ok (.iaload, 1) := by decide +kernel
theorem dX10_dayOf_31 : decode cX10_dayOf 31 = .ok (.iload_n 3, 1) := by decide +kernel
theorem dX10_dayOf_32 : decode cX10_dayOf 32 = .ok (.isub, 1) := by decide +kernel
theorem dX10_dayOf_33 : decode cX10_dayOf 33 = .ok (.istore 4, 2) := by decide +kernel
theorem dX10_dayOf_35 : decode cX10_dayOf 35 = .ok (.aload_n 0, 1) := by decide +kernel
theorem dX10_dayOf_36 : decode cX10_dayOf 36 = .ok (.invokevirtual 262, 3) := by decide +kernel
theorem dX10_dayOf_39 : decode cX10_dayOf 39 = .ok (.iload 4, 2) := by decide +kernel
theorem dX10_dayOf_41 : decode cX10_dayOf 41 = .ok (.ireturn, 1) := by decide +kernel
theorem dX10_day_0 : decode cX10_day 0 = .ok (.iload_n 2, 1) := by decide +kernel
theorem dX10_day_1 : decode cX10_day 1 = .ok (.iconst 0, 1) := by decide +kernel
theorem dX10_day_2 : decode cX10_day 2 = .ok (.bipush 99, 2) := by decide +kernel
theorem dX10_day_4 : decode cX10_day 4 = .ok (.invokestatic 49, 3) := by decide +kernel
theorem dX10_day_7 : decode cX10_day 7 = .ok (.ifCond .ne 6, 3) := by decide +kernel
theorem dX10_day_10 : decode cX10_day 10 = .ok (.bipush (-2), 2) := by decide +kernel
theorem dX10_day_12 : decode cX10_day 12 = .ok (.ireturn, 1) := by decide +kernel
theorem dX10_day_13 : decode cX10_day 13 = .ok (.aload_n 0, 1) := by decide +kernel
theorem dX10_day_14 : decode cX10_day 14 = .ok (.getfield 11, 3) := by decide +kernel
theorem dX10_day_17 : decode cX10_day 17 = .ok (.iconst 2, 1) := by decide +kernel
theorem dX10_day_18 : decode cX10_day 18 = .ok (.iaload, 1) := by decide +kernel
theorem dX10_day_19 : decode cX10_day 19 = .ok (.ifCond .ne 6, 3) := by decide +kernel
theorem dX10_day_22 : decode cX10_day 22 = .ok (.bipush (-3), 2) := by decide +kernel
theorem dX10_day_24 : decode cX10_day 24 = .ok (.ireturn, 1) := by decide +kernel
theorem dX10_day_25 : decode cX10_day 25 = .ok (.aload_n 0, 1) := by decide +kernel
theorem dX10_day_26 : decode cX10_day 26 = .ok (.iload_n 2, 1) := by decide +kernel
theorem dX10_day_27 : decode cX10_day 27 = .ok (.invokevirtual 203, 3) := by decide +kernel
theorem dX10_day_30 : decode cX10_day 30 = .ok (.ifCond .eq 12, 3) := by decide +kernel
theorem dX10_day_33 : decode cX10_day 33 = .ok (.aload_n 0, 1) := by decide +kernel
theorem dX10_day_34 : decode cX10_day 34 = .ok (.iload_n 1, 1) := by decide +kernel
theorem dX10_day_35 : decode cX10_day 35 = .ok (.iload_n 2, 1) := by decide +kernel
theorem dX10_day_36 : decode cX10_day 36 = .ok (.invokevirtual 272, 3) := by decide +kernel
theorem dX10_day_39 : decode cX10_day 39 = .ok (.goto 5, 3) := by decide +kernel
theorem dX10_day_42 : decode cX10_day 42 = .ok (.bipush (-4), 2) := by decide +kernel
theorem dX10_day_44 : decode cX10_day 44 = .ok (.ireturn, 1) := by decide +kernel
theorem dX10_common_0 : decode cX10_common 0 = .ok (.iload_n 1, 1) := by decide +kernel
theorem dX10_common_1 : decode cX10_common 1 = .ok (.ifCond .ne 7, 3) := by decide +kernel
theorem dX10_common_4 : decode cX10_common 4 = .ok (.iload_n 0, 1) := by decide +kernel
theorem dX10_common_5 : decode cX10_common 5 = .ok (.goto 10, 3) := by decide +kernel
theorem dX10_common_8 : decode cX10_common 8 = .ok (.iload_n 1, 1) := by decide +kernel
theorem dX10_common_9 : decode cX10_common 9 = .ok (.iload_n 0, 1) := by decide +kernel
theorem dX10_common_10 : decode cX10_common 10 = .ok (.iload_n 1, 1) := by decide +kernel
theorem dX10_common_11 : decode cX10_common 11 = .ok (.irem, 1) := by decide +kernel
theorem dX10_common_12 : decode cX10_common 12 = .ok (.invokestatic 275, 3) := by decide +kernel
theorem dX10_common_15 : decode cX10_common 15 = .ok (.ireturn, 1) := by decide +kernel
theorem dX10_part_0 : decode cX10_part 0 = .ok (.iload_n 2, 1) := by decide +kernel
theorem dX10_part_1 : decode cX10_part 1 = .ok (.ifCond .ne 7, 3) := by decide +kernel
theorem dX10_part_4 : decode cX10_part 4 = .ok (.iload_n 0, 1) := by decide +kernel
theorem dX10_part_5 : decode cX10_part 5 = .ok (.goto 4, 3) := by decide +kernel
theorem dX10_part_8 : decode cX10_part 8 = .ok (.iload_n 1, 1) := by decide +kernel
theorem dX10_part_9 : decode cX10_part 9 = .ok (.iload_n 0, 1) := by decide +kernel
theorem dX10_part_10 : decode cX10_part 10 = .ok (.iload_n 1, 1) := by decide +kernel
theorem dX10_part_11 : decode cX10_part 11 = .ok (.invokestatic 275, 3) := by decide +kernel
theorem dX10_part_14 : decode cX10_part 14 = .ok (.idiv, 1) := by decide +kernel
theorem dX10_part_15 : decode cX10_part 15 = .ok (.i2l, 1) := by decide +kernel
theorem dX10_part_16 : decode cX10_part 16 = .ok (.lreturn, 1) := by decide +kernel
theorem dX10_chance_0 : decode cX10_chance 0 = .ok (.iload_n 2, 1) := by decide +kernel
theorem dX10_chance_1 : decode cX10_chance 1 = .ok (.iconst 0, 1) := by decide +kernel
theorem dX10_chance_2 : decode cX10_chance 2 = .ok (.bipush 99, 2) := by decide +kernel
theorem dX10_chance_4 : decode cX10_chance 4 = .ok (.invokestatic 49, 3) := by decide +kernel
theorem dX10_chance_7 : decode cX10_chance 7 = .ok (.ifCond .eq 53, 3) := by decide +kernel
theorem dX10_chance_10 : decode cX10_chance 10 = .ok (.iload_n 3, 1) := by decide +kernel
theorem dX10_chance_11 : decode cX10_chance 11 = .ok (.iconst 1, 1) := by decide +kernel
theorem dX10_chance_12 : decode cX10_chance 12 = .ok (.iconst 4, 1) := by decide +kernel
theorem dX10_chance_13 : decode cX10_chance 13 = .ok (.invokestatic 49, 3) := by decide +kernel
theorem dX10_chance_16 : decode cX10_chance 16 = .ok (.ifCond .eq 44, 3) := by decide +kernel
theorem dX10_chance_19 : decode cX10_chance 19 = .ok (.iload 4, 2) := by decide +kernel
theorem dX10_chance_21 : decode cX10_chance 21 = .ok (.iconst 0, 1) := by decide +kernel
theorem dX10_chance_22 : decode cX10_chance 22 = .ok (.ldc_w 268, 3) := by decide +kernel
theorem dX10_chance_25 : decode cX10_chance 25 = .ok (.invokestatic 49, 3) := by decide +kernel
theorem dX10_chance_28 : decode cX10_chance 28 = .ok (.ifCond .eq 32, 3) := by decide +kernel
theorem dX10_chance_31 : decode cX10_chance 31 = .ok (.iload 5, 2) := by decide +kernel
theorem dX10_chance_33 : decode cX10_chance 33 = .ok (.iconst 0, 1) := by decide +kernel
theorem dX10_chance_34 : decode cX10_chance 34 = .ok (.iconst 1, 1) := by decide +kernel
theorem dX10_chance_35 : decode cX10_chance 35 = .ok (.invokestatic 49, 3) := by decide +kernel
theorem dX10_chance_38 : decode cX10_chance 38 = .ok (.ifCond .eq 22, 3) := by decide +kernel
theorem dX10_chance_41 : decode cX10_chance 41 = .ok (.aload_n 0, 1) := by decide +kernel
theorem dX10_chance_42 : decode cX10_chance 42 = .ok (.getfield 11, 3) := by decide +kernel
theorem dX10_chance_45 : decode cX10_chance 45 = .ok (.iconst 2, 1) := by decide +kernel
theorem dX10_chance_46 : decode cX10_chance 46 = .ok (.iaload, 1) := by decide +kernel
theorem dX10_chance_47 : decode cX10_chance 47 = .ok (.ifCond .eq 13, 3) := by decide +kernel
theorem dX10_chance_50 : decode cX10_chance 50 = .ok (.aload_n 0, 1) := by decide +kernel
theorem dX10_chance_51 : decode cX10_chance 51 = .ok (.iload_n 3, 1) := by decide +kernel
theorem dX10_chance_52 : decode cX10_chance 52 = .ok (.iload_n 2, 1) := by decide +kernel
theorem dX10_chance_53 : decode cX10_chance 53 = .ok (.imul, 1) := by decide +kernel
theorem dX10_chance_54 : decode cX10_chance 54 = .ok (.invokevirtual 203, 3) := by decide +kernel
theorem dX10_chance_57 : decode cX10_chance 57 = .ok (.ifCond .ne 7, 3) := by decide +kernel
theorem dX10_chance_60 : decode cX10_chance 60 = .ok (.ldc2_w 278, 3) := by decide +kernel
theorem dX10_chance_63 : decode cX10_chance 63 = .ok (.lreturn, 1) := by decide +kernel
theorem dX10_chance_64 : decode cX10_chance 64 = .ok (.iconst 0, 1) := by decide +kernel
theorem dX10_chance_65 : decode cX10_chance 65 = .ok (.istore 6, 2) := by decide +kernel
theorem dX10_chance_67 : decode cX10_chance 67 = .ok (.iconst 0, 1) := by decide +kernel
theorem dX10_chance_68 : decode cX10_chance 68 = .ok (.istore 7, 2) := by decide +kernel
theorem dX10_chance_70 : decode cX10_chance 70 = .ok (.iload 7, 2) := by decide +kernel
theorem dX10_chance_72 : decode cX10_chance 72 = .ok (.iload_n 3, 1) := by decide +kernel
theorem dX10_chance_73 : decode cX10_chance 73 = .ok (.if_icmp .ge 33, 3) := by decide +kernel
theorem dX10_chance_76 : decode cX10_chance 76 = .ok (.iload 6, 2) := by decide +kernel
theorem dX10_chance_78 : decode cX10_chance 78 = .ok (.aload_n 0, 1) := by decide +kernel
theorem dX10_chance_79 : decode cX10_chance 79 = .ok (.iload_n 1, 1) := by decide +kernel
theorem dX10_chance_80 : decode cX10_chance 80 = .ok (.iload 7, 2) := by decide +kernel
theorem dX10_chance_82 : decode cX10_chance 82 = .ok (.iadd, 1) := by decide +kernel
theorem dX10_chance_83 : decode cX10_chance 83 = .ok (.iload_n 2, 1) := by decide +kernel
theorem dX10_chance_84 : decode cX10_chance 84 = .ok (.invokevirtual 272, 3) := by decide +kernel
theorem dX10_chance_87 : decode cX10_chance 87 = .ok (.iload 4, 2) := by decide +kernel
theorem dX10_chance_89 : decode cX10_chance 89 = .ok (.if_icmp .gt 7, 3) := by decide +kernel
theorem dX10_chance_92 : decode cX10_chance 92 = .ok (.iconst 1, 1) := by decide +kernel
theorem dX10_chance_93 : decode cX10_chance 93 = .ok (.goto 4, 3) := by decide +kernel
theorem dX10_chance_96 : decode cX10_chance 96 = .ok (.iconst 0, 1) := by decide +kernel
theorem dX10_chance_97 : decode cX10_chance 97 = .ok (.iadd, 1) := by decide +kernel
theorem dX10_chance_98 : decode cX10_chance 98 = .ok (.istore 6, 2) := by decide +kernel
theorem dX10_chance_100 : decode cX10_chance 100 = .ok (.iinc 7 1, 3) := by decide +kernel
theorem dX10_chance_103 : decode cX10_chance 103 = .ok (.goto (-33), 3) := by decide +kernel
theorem dX10_chance_106 : decode cX10_chance 106 = .ok (.iload 6, 2) := by decide +kernel
theorem dX10_chance_108 : decode cX10_chance 108 = .ok (.iload_n 3, 1) := by decide +kernel
theorem dX10_chance_109 : decode cX10_chance 109 = .ok (.iload 5, 2) := by decide +kernel
theorem dX10_chance_111 : decode cX10_chance 111 = .ok (.invokestatic 280, 3) := by decide +kernel
theorem dX10_chance_114 : decode cX10_chance 114 = .ok (.lreturn, 1) := by decide +kernel
theorem dX10_mean_0 : decode cX10_mean 0 = .ok (.iload_n 1, 1) := by decide +kernel
theorem dX10_mean_1 : decode cX10_mean 1 = .ok (.iconst 0, 1) := by decide +kernel
theorem dX10_mean_2 : decode cX10_mean 2 = .ok (.iconst 1, 1) := by decide +kernel
theorem dX10_mean_3 : decode cX10_mean 3 = .ok (.invokestatic 49, 3) := by decide +kernel
theorem dX10_mean_6 : decode cX10_mean 6 = .ok (.ifCond .eq 34, 3) := by decide +kernel
theorem dX10_mean_9 : decode cX10_mean 9 = .ok (.aload_n 0, 1) := by decide +kernel
theorem dX10_mean_10 : decode cX10_mean 10 = .ok (.getfield 11, 3) := by decide +kernel
theorem dX10_mean_13 : decode cX10_mean 13 = .ok (.bipush 8, 2) := by decide +kernel
theorem dX10_mean_15 : decode cX10_mean 15 = .ok (.iaload, 1) := by decide +kernel
theorem dX10_mean_16 : decode cX10_mean 16 = .ok (.ifCond .le 24, 3) := by decide +kernel
theorem dX10_mean_19 : decode cX10_mean 19 = .ok (.aload_n 0, 1) := by decide +kernel
theorem dX10_mean_20 : decode cX10_mean 20 = .ok (.getfield 11, 3) := by decide +kernel
theorem dX10_mean_23 : decode cX10_mean 23 = .ok (.bipush 7, 2) := by decide +kernel
theorem dX10_mean_25 : decode cX10_mean 25 = .ok (.iaload, 1) := by decide +kernel
theorem dX10_mean_26 : decode cX10_mean 26 = .ok (.aload_n 0, 1) := by decide +kernel
theorem dX10_mean_27 : decode cX10_mean 27 = .ok (.getfield 11, 3) := by decide +kernel
theorem dX10_mean_30 : decode cX10_mean 30 = .ok (.bipush 8, 2) := by decide +kernel
theorem dX10_mean_32 : decode cX10_mean 32 = .ok (.iaload, 1) := by decide +kernel
theorem dX10_mean_33 : decode cX10_mean 33 = .ok (.iload_n 1, 1) := by decide +kernel
theorem dX10_mean_34 : decode cX10_mean 34 = .ok (.invokestatic 280, 3) := by decide +kernel
theorem dX10_mean_37 : decode cX10_mean 37 = .ok (.goto 6, 3) := by decide +kernel
theorem dX10_mean_40 : decode cX10_mean 40 = .ok (.ldc2_w 278, 3) := by decide +kernel
theorem dX10_mean_43 : decode cX10_mean 43 = .ok (.lreturn, 1) := by decide +kernel
theorem dX10_plan_0 : decode cX10_plan 0 = .ok (.iload_n 1, 1) := by decide +kernel
theorem dX10_plan_1 : decode cX10_plan 1 = .ok (.iconst (-1), 1) := by decide +kernel
theorem dX10_plan_2 : decode cX10_plan 2 = .ok (.if_icmp .ne 13, 3) := by decide +kernel
theorem dX10_plan_5 : decode cX10_plan 5 = .ok (.aload_n 0, 1) := by decide +kernel
theorem dX10_plan_6 : decode cX10_plan 6 = .ok (.getfield 11, 3) := by decide +kernel
theorem dX10_plan_9 : decode cX10_plan 9 = .ok (.bipush 20, 2) := by decide +kernel
theorem dX10_plan_11 : decode cX10_plan 11 = .ok (.iconst 0, 1) := by decide +kernel
theorem dX10_plan_12 : decode cX10_plan 12 = .ok (.iastore, 1) := by decide +kernel
theorem dX10_plan_13 : decode cX10_plan 13 = .ok (.iconst 0, 1) := by decide +kernel
theorem dX10_plan_14 : decode cX10_plan 14 = .ok (.ireturn, 1) := by decide +kernel
theorem dX10_plan_15 : decode cX10_plan 15 = .ok (.iload_n 1, 1) := by decide +kernel
theorem dX10_plan_16 : decode cX10_plan 16 = .ok (.iconst 0, 1) := by decide +kernel
theorem dX10_plan_17 : decode cX10_plan 17 = .ok (.iconst 3, 1) := by decide +kernel
theorem dX10_plan_18 : decode cX10_plan 18 = .ok (.invokestatic 49, 3) := by decide +kernel
theorem dX10_plan_21 : decode cX10_plan 21 = .ok (.ifCond .ne 5, 3) := by decide +kernel
theorem dX10_plan_24 : decode cX10_plan 24 = .ok (.iconst (-1), 1) := by decide +kernel
theorem dX10_plan_25 : decode cX10_plan 25 = .ok (.ireturn, 1) := by decide +kernel
theorem dX10_plan_26 : decode cX10_plan 26 = .ok (.iload_n 1, 1) := by decide +kernel
theorem dX10_plan_27 : decode cX10_plan 27 = .ok (.ifCond .ne 13, 3) := by decide +kernel
theorem dX10_plan_30 : decode cX10_plan 30 = .ok (.iload_n 2, 1) := by decide +kernel
theorem dX10_plan_31 : decode cX10_plan 31 = .ok (.iconst 0, 1) := by decide +kernel
theorem dX10_plan_32 : decode cX10_plan 32 = .ok (.bipush 99, 2) := by decide +kernel
theorem dX10_plan_34 : decode cX10_plan 34 = .ok (.invokestatic 49, 3) := by decide +kernel
theorem dX10_plan_37 : decode cX10_plan 37 = .ok (.ifCond .eq 20, 3) := by decide +kernel
theorem dX10_plan_40 : decode cX10_plan 40 = .ok (.iload_n 1, 1) := by decide +kernel
theorem dX10_plan_41 : decode cX10_plan 41 = .ok (.iconst 2, 1) := by decide +kernel
theorem dX10_plan_42 : decode cX10_plan 42 = .ok (.irem, 1) := by decide +kernel
theorem dX10_plan_43 : decode cX10_plan 43 = .ok (.iconst 1, 1) := by decide +kernel
theorem dX10_plan_44 : decode cX10_plan 44 = .ok (.if_icmp .ne 16, 3) := by decide +kernel
theorem dX10_plan_47 : decode cX10_plan 47 = .ok (.iload_n 2, 1) := by decide +kernel
theorem dX10_plan_48 : decode cX10_plan 48 = .ok (.iconst 0, 1) := by decide +kernel
theorem dX10_plan_49 : decode cX10_plan 49 = .ok (.bipush 7, 2) := by decide +kernel
theorem dX10_plan_51 : decode cX10_plan 51 = .ok (.invokestatic 49, 3) := by decide +kernel
theorem dX10_plan_54 : decode cX10_plan 54 = .ok (.ifCond .ne 6, 3) := by decide +kernel
theorem dX10_plan_57 : decode cX10_plan 57 = .ok (.bipush (-2), 2) := by decide +kernel
theorem dX10_plan_59 : decode cX10_plan 59 = .ok (.ireturn, 1) := by decide +kernel
theorem dX10_plan_60 : decode cX10_plan 60 = .ok (.aload_n 0, 1) := by decide +kernel
theorem dX10_plan_61 : decode cX10_plan 61 = .ok (.getfield 11, 3) := by decide +kernel
theorem dX10_plan_64 : decode cX10_plan 64 = .ok (.bipush 20, 2) := by decide +kernel
theorem dX10_plan_66 : decode cX10_plan 66 = .ok (.iaload, 1) := by decide +kernel
theorem dX10_plan_67 : decode cX10_plan 67 = .ok (.bipush 8, 2) := by decide +kernel
theorem dX10_plan_69 : decode cX10_plan 69 = .ok (.if_icmp .ne 6, 3) := by decide +kernel
theorem dX10_plan_72 : decode cX10_plan 72 = .ok (.bipush (-4), 2) := by decide +kernel
theorem dX10_plan_74 : decode cX10_plan 74 = .ok (.ireturn, 1) := by decide +kernel
theorem dX10_plan_75 : decode cX10_plan 75 = .ok (.aload_n 0, 1) := by decide +kernel
theorem dX10_plan_76 : decode cX10_plan 76 = .ok (.getfield 11, 3) := by decide +kernel
theorem dX10_plan_79 : decode cX10_plan 79 = .ok (.sipush 355, 3) := by decide +kernel
theorem dX10_plan_82 : decode cX10_plan 82 = .ok (.iconst 2, 1) := by decide +kernel
theorem dX10_plan_83 : decode cX10_plan 83 = .ok (.aload_n 0, 1) := by decide +kernel
theorem dX10_plan_84 : decode cX10_plan 84 = .ok (.getfield 11, 3) := by decide +kernel
theorem dX10_plan_87 : decode cX10_plan 87 = .ok (.bipush 20, 2) := by decide +kernel
theorem dX10_plan_89 : decode cX10_plan 89 = .ok (.iaload, 1) := by decide +kernel
theorem dX10_plan_90 : decode cX10_plan 90 = .ok (.imul, 1) := by decide +kernel
theorem dX10_plan_91 : decode cX10_plan 91 = .ok (.iadd, 1) := by decide +kernel
theorem dX10_plan_92 : decode cX10_plan 92 = .ok (.iload_n 1, 1) := by decide +kernel
theorem dX10_plan_93 : decode cX10_plan 93 = .ok (.iastore, 1) := by decide +kernel
theorem dX10_plan_94 : decode cX10_plan 94 = .ok (.aload_n 0, 1) := by decide +kernel
theorem dX10_plan_95 : decode cX10_plan 95 = .ok (.getfield 11, 3) := by decide +kernel
theorem dX10_plan_98 : decode cX10_plan 98 = .ok (.sipush 355, 3) := by decide +kernel
theorem dX10_plan_101 : decode cX10_plan 101 = .ok (.iconst 2, 1) := by decide +kernel
theorem dX10_plan_102 : decode cX10_plan 102 = .ok (.aload_n 0, 1) := by decide +kernel
theorem dX10_plan_103 : decode cX10_plan 103 = .ok (.getfield 11, 3) := by decide +kernel
theorem dX10_plan_106 : decode cX10_plan 106 = .ok (.bipush 20, 2) := by decide +kernel
theorem dX10_plan_108 : decode cX10_plan 108 = .ok (.iaload, 1) := by decide +kernel
theorem dX10_plan_109 : decode cX10_plan 109 = .ok (.imul, 1) := by decide +kernel
theorem dX10_plan_110 : decode cX10_plan 110 = .ok (.iadd, 1) := by decide +kernel
theorem dX10_plan_111 : decode cX10_plan 111 = .ok (.iconst 1, 1) := by decide +kernel
theorem dX10_plan_112 : decode cX10_plan 112 = .ok (.iadd, 1) := by decide +kernel
theorem dX10_plan_113 : decode cX10_plan 113 = .ok (.iload_n 2, 1) := by decide +kernel
theorem dX10_plan_114 : decode cX10_plan 114 = .ok (.iastore, 1) := by decide +kernel
theorem dX10_plan_115 : decode cX10_plan 115 = .ok (.aload_n 0, 1) := by decide +kernel
theorem dX10_plan_116 : decode cX10_plan 116 = .ok (.getfield 11, 3) := by decide +kernel
theorem dX10_plan_119 : decode cX10_plan 119 = .ok (.bipush 20, 2) := by decide +kernel
theorem dX10_plan_121 : decode cX10_plan 121 = .ok (.dup2, 1) := by decide +kernel
theorem dX10_plan_122 : decode cX10_plan 122 = .ok (.iaload, 1) := by decide +kernel
theorem dX10_plan_123 : decode cX10_plan 123 = .ok (.iconst 1, 1) := by decide +kernel
theorem dX10_plan_124 : decode cX10_plan 124 = .ok (.iadd, 1) := by decide +kernel
theorem dX10_plan_125 : decode cX10_plan 125 = .ok (.iastore, 1) := by decide +kernel
theorem dX10_plan_126 : decode cX10_plan 126 = .ok (.aload_n 0, 1) := by decide +kernel
theorem dX10_plan_127 : decode cX10_plan 127 = .ok (.getfield 11, 3) := by decide +kernel
theorem dX10_plan_130 : decode cX10_plan 130 = .ok (.bipush 20, 2) := by decide +kernel
theorem dX10_plan_132 : decode cX10_plan 132 = .ok (.iaload, 1) := by decide +kernel
theorem dX10_plan_133 : decode cX10_plan 133 = .ok (.ireturn, 1) := by decide +kernel
theorem dX10_does_0 : decode cX10_does 0 = .ok (.iload_n 1, 1) := by decide +kernel
theorem dX10_does_1 : decode cX10_does 1 = .ok (.ifCond .ne 8, 3) := by decide +kernel
theorem dX10_does_4 : decode cX10_does 4 = .ok (.aload_n 0, 1) := by decide +kernel
theorem dX10_does_5 : decode cX10_does 5 = .ok (.iload_n 2, 1) := by decide +kernel
theorem dX10_does_6 : decode cX10_does 6 = .ok (.invokevirtual 206, 3) := by decide +kernel
theorem dX10_does_9 : decode cX10_does 9 = .ok (.iload_n 1, 1) := by decide +kernel
theorem dX10_does_10 : decode cX10_does 10 = .ok (.iconst 1, 1) := by decide +kernel
theorem dX10_does_11 : decode cX10_does 11 = .ok (.if_icmp .ne 9, 3) := by decide +kernel
theorem dX10_does_14 : decode cX10_does 14 = .ok (.aload_n 0, 1) := by decide +kernel
theorem dX10_does_15 : decode cX10_does 15 = .ok (.iload_n 2, 1) := by decide +kernel
theorem dX10_does_16 : decode cX10_does 16 = .ok (.invokevirtual 284, 3) := by decide +kernel
theorem dX10_does_19 : decode cX10_does 19 = .ok (.pop, 1) := by decide +kernel
theorem dX10_does_20 : decode cX10_does 20 = .ok (.iload_n 1, 1) := by decide +kernel
theorem dX10_does_21 : decode cX10_does 21 = .ok (.iconst 2, 1) := by decide +kernel
theorem dX10_does_22 : decode cX10_does 22 = .ok (.if_icmp .ne 8, 3) := by decide +kernel
theorem dX10_does_25 : decode cX10_does 25 = .ok (.aload_n 0, 1) := by decide +kernel
theorem dX10_does_26 : decode cX10_does 26 = .ok (.invokevirtual 287, 3) := by decide +kernel
theorem dX10_does_29 : decode cX10_does 29 = .ok (.pop, 1) := by decide +kernel
theorem dX10_does_30 : decode cX10_does 30 = .ok (.iload_n 1, 1) := by decide +kernel
theorem dX10_does_31 : decode cX10_does 31 = .ok (.iconst 3, 1) := by decide +kernel
theorem dX10_does_32 : decode cX10_does 32 = .ok (.if_icmp .ne 18, 3) := by decide +kernel
theorem dX10_does_35 : decode cX10_does 35 = .ok (.aload_n 0, 1) := by decide +kernel
theorem dX10_does_36 : decode cX10_does 36 = .ok (.iload_n 2, 1) := by decide +kernel
theorem dX10_does_37 : decode cX10_does 37 = .ok (.invokevirtual 96, 3) := by decide +kernel
theorem dX10_does_40 : decode cX10_does 40 = .ok (.ifCond .eq 10, 3) := by decide +kernel
theorem dX10_does_43 : decode cX10_does 43 = .ok (.aload_n 0, 1) := by decide +kernel
theorem dX10_does_44 : decode cX10_does 44 = .ok (.iload_n 2, 1) := by decide +kernel
theorem dX10_does_45 : decode cX10_does 45 = .ok (.iconst 5, 1) := by decide +kernel
theorem dX10_does_46 : decode cX10_does 46 = .ok (.iconst 0, 1) := by decide +kernel
theorem dX10_does_47 : decode cX10_does 47 = .ok (.invokevirtual 85, 3) := by decide +kernel
theorem dX10_does_50 : decode cX10_does 50 = .ok (.return_, 1) := by decide +kernel
theorem dX10_ends__0 : decode cX10_ends_ 0 = .ok (.iload_n 1, 1) := by decide +kernel
theorem dX10_ends__1 : decode cX10_ends_ 1 = .ok (.iconst 0, 1) := by decide +kernel
theorem dX10_ends__2 : decode cX10_ends_ 2 = .ok (.iconst 1, 1) := by decide +kernel
theorem dX10_ends__3 : decode cX10_ends_ 3 = .ok (.invokestatic 49, 3) := by decide +kernel
theorem dX10_ends__6 : decode cX10_ends_ 6 = .ok (.ifCond .ne 5, 3) := by decide +kernel
theorem dX10_ends__9 : decode cX10_ends_ 9 = .ok (.iconst (-1), 1) := by decide +kernel
theorem dX10_ends__10 : decode cX10_ends_ 10 = .ok (.ireturn, 1) := by decide +kernel
theorem dX10_ends__11 : decode cX10_ends_ 11 = .ok (.aload_n 0, 1) := by decide +kernel
theorem dX10_ends__12 : decode cX10_ends_ 12 = .ok (.getfield 11, 3) := by decide +kernel
theorem dX10_ends__15 : decode cX10_ends_ 15 = .ok (.iconst 2, 1) := by decide +kernel
theorem dX10_ends__16 : decode cX10_ends_ 16 = .ok (.iaload, 1) := by decide +kernel
theorem dX10_ends__17 : decode cX10_ends_ 17 = .ok (.ifCond .ne 6, 3) := by decide +kernel
theorem dX10_ends__20 : decode cX10_ends_ 20 = .ok (.bipush (-3), 2) := by decide +kernel
theorem dX10_ends__22 : decode cX10_ends_ 22 = .ok (.ireturn, 1) := by decide +kernel
theorem dX10_ends__23 : decode cX10_ends_ 23 = .ok (.iconst 0, 1) := by decide +kernel
theorem dX10_ends__24 : decode cX10_ends_ 24 = .ok (.istore_n 2, 1) := by decide +kernel
theorem dX10_ends__25 : decode cX10_ends_ 25 = .ok (.iconst 0, 1) := by decide +kernel
theorem dX10_ends__26 : decode cX10_ends_ 26 = .ok (.istore_n 3, 1) := by decide +kernel
theorem dX10_ends__27 : decode cX10_ends_ 27 = .ok (.iload_n 3, 1) := by decide +kernel
theorem dX10_ends__28 : decode cX10_ends_ 28 = .ok (.aload_n 0, 1) := by decide +kernel
theorem dX10_ends__29 : decode cX10_ends_ 29 = .ok (.getfield 11, 3) := by decide +kernel
theorem dX10_ends__32 : decode cX10_ends_ 32 = .ok (.bipush 20, 2) := by decide +kernel
theorem dX10_ends__34 : decode cX10_ends_ 34 = .ok (.iaload, 1) := by decide +kernel
theorem dX10_ends__35 : decode cX10_ends_ 35 = .ok (.if_icmp .ge 45, 3) := by decide +kernel
theorem dX10_ends__38 : decode cX10_ends_ 38 = .ok (.iload_n 2, 1) := by decide +kernel
theorem dX10_ends__39 : decode cX10_ends_ 39 = .ok (.aload_n 0, 1) := by decide +kernel
theorem dX10_ends__40 : decode cX10_ends_ 40 = .ok (.getfield 11, 3) := by decide +kernel
theorem dX10_ends__43 : decode cX10_ends_ 43 = .ok (.sipush 355, 3) := by decide +kernel
theorem dX10_ends__46 : decode cX10_ends_ 46 = .ok (.iconst 2, 1) := by decide +kernel
theorem dX10_ends__47 : decode cX10_ends_ 47 = .ok (.iload_n 3, 1) := by decide +kernel
theorem dX10_ends__48 : decode cX10_ends_ 48 = .ok (.imul, 1) := by decide +kernel
theorem dX10_ends__49 : decode cX10_ends_ 49 = .ok (.iadd, 1) := by decide +kernel
theorem dX10_ends__50 : decode cX10_ends_ 50 = .ok (.iaload, 1) := by decide +kernel
theorem dX10_ends__51 : decode cX10_ends_ 51 = .ok (.ifCond .ne 20, 3) := by decide +kernel
theorem dX10_ends__54 : decode cX10_ends_ 54 = .ok (.aload_n 0, 1) := by decide +kernel
theorem dX10_ends__55 : decode cX10_ends_ 55 = .ok (.getfield 11, 3) := by decide +kernel
theorem dX10_ends__58 : decode cX10_ends_ 58 = .ok (.sipush 355, 3) := by decide +kernel
theorem dX10_ends__61 : decode cX10_ends_ 61 = .ok (.iconst 2, 1) := by decide +kernel
theorem dX10_ends__62 : decode cX10_ends_ 62 = .ok (.iload_n 3, 1) := by decide +kernel
theorem dX10_ends__63 : decode cX10_ends_ 63 = .ok (.imul, 1) := by decide +kernel
theorem dX10_ends__64 : decode cX10_ends_ 64 = .ok (.iadd, 1) := by decide +kernel
theorem dX10_ends__65 : decode cX10_ends_ 65 = .ok (.iconst 1, 1) := by decide +kernel
theorem dX10_ends__66 : decode cX10_ends_ 66 = .ok (.iadd, 1) := by decide +kernel
theorem dX10_ends__67 : decode cX10_ends_ 67 = .ok (.iaload, 1) := by decide +kernel
theorem dX10_ends__68 : decode cX10_ends_ 68 = .ok (.goto 4, 3) := by decide +kernel
theorem dX10_ends__71 : decode cX10_ends_ 71 = .ok (.iconst 0, 1) := by decide +kernel
theorem dX10_ends__72 : decode cX10_ends_ 72 = .ok (.iadd, 1) := by decide +kernel
theorem dX10_ends__73 : decode cX10_ends_ 73 = .ok (.istore_n 2, 1) := by decide +kernel
theorem dX10_ends__74 : decode cX10_ends_ 74 = .ok (.iinc 3 1, 3) := by decide +kernel
theorem dX10_ends__77 : decode cX10_ends_ 77 = .ok (.goto (-50), 3) := by decide +kernel
theorem dX10_ends__80 : decode cX10_ends_ 80 = .ok (.aload_n 0, 1) := by decide +kernel
theorem dX10_ends__81 : decode cX10_ends_ 81 = .ok (.iload_n 2, 1) := by decide +kernel
theorem dX10_ends__82 : decode cX10_ends_ 82 = .ok (.invokevirtual 203, 3) := by decide +kernel
theorem dX10_ends__85 : decode cX10_ends_ 85 = .ok (.ifCond .ne 6, 3) := by decide +kernel
theorem dX10_ends__88 : decode cX10_ends_ 88 = .ok (.bipush (-4), 2) := by decide +kernel
theorem dX10_ends__90 : decode cX10_ends_ 90 = .ok (.ireturn, 1) := by decide +kernel
theorem dX10_ends__91 : decode cX10_ends_ 91 = .ok (.aload_n 0, 1) := by decide +kernel
theorem dX10_ends__92 : decode cX10_ends_ 92 = .ok (.invokevirtual 256, 3) := by decide +kernel
theorem dX10_ends__95 : decode cX10_ends_ 95 = .ok (.iconst 0, 1) := by decide +kernel
theorem dX10_ends__96 : decode cX10_ends_ 96 = .ok (.istore_n 3, 1) := by decide +kernel
theorem dX10_ends__97 : decode cX10_ends_ 97 = .ok (.iload_n 3, 1) := by decide +kernel
theorem dX10_ends__98 : decode cX10_ends_ 98 = .ok (.aload_n 0, 1) := by decide +kernel
theorem dX10_ends__99 : decode cX10_ends_ 99 = .ok (.getfield 11, 3) := by decide +kernel
theorem dX10_ends__102 : decode cX10_ends_ 102 = .ok (.bipush 20, 2) := by decide +kernel
theorem dX10_ends__104 : decode cX10_ends_ 104 = .ok (.iaload, 1) := by decide +kernel
theorem dX10_ends__105 : decode cX10_ends_ 105 = .ok (.if_icmp .ge 39, 3) := by decide +kernel
theorem dX10_ends__108 : decode cX10_ends_ 108 = .ok (.aload_n 0, 1) := by decide +kernel
theorem dX10_ends__109 : decode cX10_ends_ 109 = .ok (.aload_n 0, 1) := by decide +kernel
theorem dX10_ends__110 : decode cX10_ends_ 110 = .ok (.getfield 11, 3) := by decide +kernel
theorem dX10_ends__113 : decode cX10_ends_ 113 = .ok (.sipush 355, 3) := by decide +kernel
theorem dX10_ends__116 : decode cX10_ends_ 116 = .ok (.iconst 2, 1) := by decide +kernel
theorem dX10_ends__117 : decode cX10_ends_ 117 = .ok (.iload_n 3, 1) := by decide +kernel
theorem dX10_ends__118 : decode cX10_ends_ 118 = .ok (.imul, 1) := by decide +kernel
theorem dX10_ends__119 : decode cX10_ends_ 119 = .ok (.iadd, 1) := by decide +kernel
theorem dX10_ends__120 : decode cX10_ends_ 120 = .ok (.iaload, 1) := by decide +kernel
theorem dX10_ends__121 : decode cX10_ends_ 121 = .ok (.aload_n 0, 1) := by decide +kernel
theorem dX10_ends__122 : decode cX10_ends_ 122 = .ok (.getfield 11, 3) := by decide +kernel
theorem dX10_ends__125 : decode cX10_ends_ 125 = .ok (.sipush 355, 3) := by decide +kernel
theorem dX10_ends__128 : decode cX10_ends_ 128 = .ok (.iconst 2, 1) := by decide +kernel
theorem dX10_ends__129 : decode cX10_ends_ 129 = .ok (.iload_n 3, 1) := by decide +kernel
theorem dX10_ends__130 : decode cX10_ends_ 130 = .ok (.imul, 1) := by decide +kernel
theorem dX10_ends__131 : decode cX10_ends_ 131 = .ok (.iadd, 1) := by decide +kernel
theorem dX10_ends__132 : decode cX10_ends_ 132 = .ok (.iconst 1, 1) := by decide +kernel
theorem dX10_ends__133 : decode cX10_ends_ 133 = .ok (.iadd, 1) := by decide +kernel
theorem dX10_ends__134 : decode cX10_ends_ 134 = .ok (.iaload, 1) := by decide +kernel
theorem dX10_ends__135 : decode cX10_ends_ 135 = .ok (.invokevirtual 290, 3) := by decide +kernel
theorem dX10_ends__138 : decode cX10_ends_ 138 = .ok (.iinc 3 1, 3) := by decide +kernel
theorem dX10_ends__141 : decode cX10_ends_ 141 = .ok (.goto (-44), 3) := by decide +kernel
theorem dX10_ends__144 : decode cX10_ends_ 144 = .ok (.aload_n 0, 1) := by decide +kernel
theorem dX10_ends__145 : decode cX10_ends_ 145 = .ok (.getfield 11, 3) := by decide +kernel
theorem dX10_ends__148 : decode cX10_ends_ 148 = .ok (.iload_n 1, 1) := by decide +kernel
theorem dX10_ends__149 : decode cX10_ends_ 149 = .ok (.ifCond .ne 8, 3) := by decide +kernel
theorem dX10_ends__152 : decode cX10_ends_ 152 = .ok (.bipush 7, 2) := by decide +kernel
theorem dX10_ends__154 : decode cX10_ends_ 154 = .ok (.goto 5, 3) := by decide +kernel
theorem dX10_ends__157 : decode cX10_ends_ 157 = .ok (.bipush 8, 2) := by decide +kernel
theorem dX10_ends__159 : decode cX10_ends_ 159 = .ok (.iaload, 1) := by decide +kernel
theorem dX10_ends__160 : decode cX10_ends_ 160 = .ok (.istore_n 3, 1) := by decide +kernel
theorem dX10_ends__161 : decode cX10_ends_ 161 = .ok (.aload_n 0, 1) := by decide +kernel
theorem dX10_ends__162 : decode cX10_ends_ 162 = .ok (.invokevirtual 262, 3) := by decide +kernel
theorem dX10_ends__165 : decode cX10_ends_ 165 = .ok (.iload_n 3, 1) := by decide +kernel
theorem dX10_ends__166 : decode cX10_ends_ 166 = .ok (.ireturn, 1) := by decide +kernel
theorem dX10_isTape_0 : decode cX10_isTape 0 = .ok (.iload_n 0, 1) := by decide +kernel
theorem dX10_isTape_1 : decode cX10_isTape 1 = .ok (.iconst 0, 1) := by decide +kernel
theorem dX10_isTape_2 : decode cX10_isTape 2 = .ok (.iconst 5, 1) := by decide +kernel
theorem dX10_isTape_3 : decode cX10_isTape 3 = .ok (.invokestatic 49, 3) := by decide +kernel
theorem dX10_isTape_6 : decode cX10_isTape 6 = .ok (.ireturn, 1) := by decide +kernel
theorem dX10_judge_0 : decode cX10_judge 0 = .ok (.iload_n 1, 1) := by decide +kernel
theorem dX10_judge_1 : decode cX10_judge 1 = .ok (.invokestatic 293, 3) := by decide +kernel
theorem dX10_judge_4 : decode cX10_judge 4 = .ok (.ifCond .ne 5, 3) := by decide +kernel
theorem dX10_judge_7 : decode cX10_judge 7 = .ok (.iconst (-1), 1) := by decide +kernel
theorem dX10_judge_8 : decode cX10_judge 8 = .ok (.ireturn, 1) := by decide +kernel
theorem dX10_judge_9 : decode cX10_judge 9 = .ok (.aload_n 0, 1) := by decide +kernel
theorem dX10_judge_10 : decode cX10_judge 10 = .ok (.getfield 33, 3) := by decide +kernel
theorem dX10_judge_13 : decode cX10_judge 13 = .ok (.iload_n 1, 1) := by decide +kernel
theorem dX10_judge_14 : decode cX10_judge 14 = .ok (.iaload, 1) := by decide +kernel
theorem dX10_judge_15 : decode cX10_judge 15 = .ok (.ifCond .le 6, 3) := by decide +kernel
theorem dX10_judge_18 : decode cX10_judge 18 = .ok (.bipush (-12), 2) := by decide +kernel
theorem dX10_judge_20 : decode cX10_judge 20 = .ok (.ireturn, 1) := by decide +kernel
theorem dX10_judge_21 : decode cX10_judge 21 = .ok (.iconst 0, 1) := by decide +kernel
theorem dX10_judge_22 : decode cX10_judge 22 = .ok (.istore_n 3, 1) := by decide +kernel
theorem dX10_judge_23 : decode cX10_judge 23 = .ok (.iload_n 3, 1) := by decide +kernel
theorem dX10_judge_24 : decode cX10_judge 24 = .ok (.aload_n 0, 1) := by decide +kernel
theorem dX10_judge_25 : decode cX10_judge 25 = .ok (.getfield 11, 3) := by decide +kernel
theorem dX10_judge_28 : decode cX10_judge 28 = .ok (.bipush 13, 2) := by decide +kernel
theorem dX10_judge_30 : decode cX10_judge 30 = .ok (.iaload, 1) := by decide +kernel
theorem dX10_judge_31 : decode cX10_judge 31 = .ok (.if_icmp .ge 66, 3) := by decide +kernel
theorem dX10_judge_34 : decode cX10_judge 34 = .ok (.aload_n 0, 1) := by decide +kernel
theorem dX10_judge_35 : decode cX10_judge 35 = .ok (.getfield 33, 3) := by decide +kernel
theorem dX10_judge_38 : decode cX10_judge 38 = .ok (.iload_n 1, 1) := by decide +kernel
theorem dX10_judge_39 : decode cX10_judge 39 = .ok (.iaload, 1) := by decide +kernel
theorem dX10_judge_40 : decode cX10_judge 40 = .ok (.ifCond .lt 21, 3) := by decide +kernel
theorem dX10_judge_43 : decode cX10_judge 43 = .ok (.iload_n 2, 1) := by decide +kernel
theorem dX10_judge_44 : decode cX10_judge 44 = .ok (.iconst 0, 1) := by decide +kernel
theorem dX10_judge_45 : decode cX10_judge 45 = .ok (.aload_n 0, 1) := by decide +kernel
theorem dX10_judge_46 : decode cX10_judge 46 = .ok (.getfield 36, 3) := by decide +kernel
theorem dX10_judge_49 : decode cX10_judge 49 = .ok (.iload_n 1, 1) := by decide +kernel
theorem dX10_judge_50 : decode cX10_judge 50 = .ok (.iaload, 1) := by decide +kernel
theorem dX10_judge_51 : decode cX10_judge 51 = .ok (.iconst 1, 1) := by decide +kernel
theorem dX10_judge_52 : decode cX10_judge 52 = .ok (.isub, 1) := by decide +kernel
theorem dX10_judge_53 : decode cX10_judge 53 = .ok (.iload_n 3, 1) := by decide +kernel
theorem dX10_judge_54 : decode cX10_judge 54 = .ok (.isub, 1) := by decide +kernel
theorem dX10_judge_55 : decode cX10_judge 55 = .ok (.invokestatic 49, 3) := by decide +kernel
theorem dX10_judge_58 : decode cX10_judge 58 = .ok (.ifCond .ne 8, 3) := by decide +kernel
theorem dX10_judge_61 : decode cX10_judge 61 = .ok (.bipush 100, 2) := by decide +kernel
theorem dX10_judge_63 : decode cX10_judge 63 = .ok (.iload_n 3, 1) := by decide +kernel
theorem dX10_judge_64 : decode cX10_judge 64 = .ok (.iadd, 1) := by decide +kernel
theorem dX10_judge_65 : decode cX10_judge 65 = .ok (.ireturn, 1) := by decide +kernel
theorem dX10_judge_66 : decode cX10_judge 66 = .ok (.aload_n 0, 1) := by decide +kernel
theorem dX10_judge_67 : decode cX10_judge 67 = .ok (.getfield 39, 3) := by decide +kernel
theorem dX10_judge_70 : decode cX10_judge 70 = .ok (.bipush 60, 2) := by decide +kernel
theorem dX10_judge_72 : decode cX10_judge 72 = .ok (.iload_n 1, 1) := by decide +kernel
theorem dX10_judge_73 : decode cX10_judge 73 = .ok (.imul, 1) := by decide +kernel
theorem dX10_judge_74 : decode cX10_judge 74 = .ok (.iload_n 2, 1) := by decide +kernel
theorem dX10_judge_75 : decode cX10_judge 75 = .ok (.iadd, 1) := by decide +kernel
theorem dX10_judge_76 : decode cX10_judge 76 = .ok (.iload_n 3, 1) := by decide +kernel
theorem dX10_judge_77 : decode cX10_judge 77 = .ok (.iadd, 1) := by decide +kernel
theorem dX10_judge_78 : decode cX10_judge 78 = .ok (.laload, 1) := by decide +kernel
theorem dX10_judge_79 : decode cX10_judge 79 = .ok (.aload_n 0, 1) := by decide +kernel
theorem dX10_judge_80 : decode cX10_judge 80 = .ok (.iload_n 3, 1) := by decide +kernel
theorem dX10_judge_81 : decode cX10_judge 81 = .ok (.invokevirtual 209, 3) := by decide +kernel
theorem dX10_judge_84 : decode cX10_judge 84 = .ok (.i2l, 1) := by decide +kernel
theorem dX10_judge_85 : decode cX10_judge 85 = .ok (.lcmp, 1) := by decide +kernel
theorem dX10_judge_86 : decode cX10_judge 86 = .ok (.ifCond .eq 5, 3) := by decide +kernel
theorem dX10_judge_89 : decode cX10_judge 89 = .ok (.iload_n 3, 1) := by decide +kernel
theorem dX10_judge_90 : decode cX10_judge 90 = .ok (.ireturn, 1) := by decide +kernel
theorem dX10_judge_91 : decode cX10_judge 91 = .ok (.iinc 3 1, 3) := by decide +kernel
theorem dX10_judge_94 : decode cX10_judge 94 = .ok (.goto (-71), 3) := by decide +kernel
theorem dX10_judge_97 : decode cX10_judge 97 = .ok (.bipush (-5), 2) := by decide +kernel
theorem dX10_judge_99 : decode cX10_judge 99 = .ok (.ireturn, 1) := by decide +kernel
theorem dX10_image_0 : decode cX10_image 0 = .ok (.aload_n 0, 1) := by decide +kernel
theorem dX10_image_1 : decode cX10_image 1 = .ok (.getfield 11, 3) := by decide +kernel
theorem dX10_image_4 : decode cX10_image 4 = .ok (.aload_n 0, 1) := by decide +kernel
theorem dX10_image_5 : decode cX10_image 5 = .ok (.getfield 15, 3) := by decide +kernel
theorem dX10_image_8 : decode cX10_image 8 = .ok (.invokestatic 252, 3) := by decide +kernel
theorem dX10_image_11 : decode cX10_image 11 = .ok (.aload_n 0, 1) := by decide +kernel
theorem dX10_image_12 : decode cX10_image 12 = .ok (.iconst 1, 1) := by decide +kernel
theorem dX10_image_13 : decode cX10_image 13 = .ok (.putfield 296, 3) := by decide +kernel
theorem dX10_image_16 : decode cX10_image 16 = .ok (.aload_n 0, 1) := by decide +kernel
theorem dX10_image_17 : decode cX10_image 17 = .ok (.getfield 11, 3) := by decide +kernel
theorem dX10_image_20 : decode cX10_image 20 = .ok (.iconst 3, 1) := by decide +kernel
theorem dX10_image_21 : decode cX10_image 21 = .ok (.iaload, 1) := by decide +kernel
theorem dX10_image_22 : decode cX10_image 22 = .ok (.ireturn, 1) := by decide +kernel
theorem dX10_undo_0 : decode cX10_undo 0 = .ok (.aload_n 0, 1) := by decide +kernel
theorem dX10_undo_1 : decode cX10_undo 1 = .ok (.getfield 296, 3) := by decide +kernel
theorem dX10_undo_4 : decode cX10_undo 4 = .ok (.ifCond .ne 6, 3) := by decide +kernel
theorem dX10_undo_7 : decode cX10_undo 7 = .ok (.bipush (-3), 2) := by decide +kernel
theorem dX10_undo_9 : decode cX10_undo 9 = .ok (.ireturn, 1) := by decide +kernel
theorem dX10_undo_10 : decode cX10_undo 10 = .ok (.aload_n 0, 1) := by decide +kernel
theorem dX10_undo_11 : decode cX10_undo 11 = .ok (.getfield 15, 3) := by decide +kernel
theorem dX10_undo_14 : decode cX10_undo 14 = .ok (.aload_n 0, 1) := by decide +kernel
theorem dX10_undo_15 : decode cX10_undo 15 = .ok (.getfield 11, 3) := by decide +kernel
theorem dX10_undo_18 : decode cX10_undo 18 = .ok (.invokestatic 252, 3) := by decide +kernel
theorem dX10_undo_21 : decode cX10_undo 21 = .ok (.aload_n 0, 1) := by decide +kernel
theorem dX10_undo_22 : decode cX10_undo 22 = .ok (.invokevirtual 46, 3) := by decide +kernel
theorem dX10_undo_25 : decode cX10_undo 25 = .ok (.aload_n 0, 1) := by decide +kernel
theorem dX10_undo_26 : decode cX10_undo 26 = .ok (.getfield 11, 3) := by decide +kernel
theorem dX10_undo_29 : decode cX10_undo 29 = .ok (.iconst 3, 1) := by decide +kernel
theorem dX10_undo_30 : decode cX10_undo 30 = .ok (.iaload, 1) := by decide +kernel
theorem dX10_undo_31 : decode cX10_undo 31 = .ok (.ireturn, 1) := by decide +kernel
theorem dX10_count_0 : decode cX10_count 0 = .ok (.iload_n 1, 1) := by decide +kernel
theorem dX10_count_1 : decode cX10_count 1 = .ok (.tableswitch 105 0 7 #[47, 52, 60, 68, 76, 84, 89, 97], 47) := by decide +kernel
theorem dX10_count_48 : decode cX10_count 48 = .ok (.aload_n 0, 1) := by decide +kernel
theorem dX10_count_49 : decode cX10_count 49 = .ok (.getfield 103, 3) := by decide +kernel
theorem dX10_count_52 : decode cX10_count 52 = .ok (.ireturn, 1) := by decide +kernel
theorem dX10_count_53 : decode cX10_count 53 = .ok (.aload_n 0, 1) := by decide +kernel
theorem dX10_count_54 : decode cX10_count 54 = .ok (.getfield 11, 3) := by decide +kernel
theorem dX10_count_57 : decode cX10_count 57 = .ok (.bipush 19, 2) := by decide +kernel
theorem dX10_count_59 : decode cX10_count 59 = .ok (.iaload, 1) := by decide +kernel
theorem dX10_count_60 : decode cX10_count 60 = .ok (.ireturn, 1) := by decide +kernel
theorem dX10_count_61 : decode cX10_count 61 = .ok (.aload_n 0, 1) := by decide +kernel
theorem dX10_count_62 : decode cX10_count 62 = .ok (.getfield 11, 3) := by decide +kernel
theorem dX10_count_65 : decode cX10_count 65 = .ok (.bipush 20, 2) := by decide +kernel
theorem dX10_count_67 : decode cX10_count 67 = .ok (.iaload, 1) := by decide +kernel
theorem dX10_count_68 : decode cX10_count 68 = .ok (.ireturn, 1) := by decide +kernel
theorem dX10_count_69 : decode cX10_count 69 = .ok (.aload_n 0, 1) := by decide +kernel
theorem dX10_count_70 : decode cX10_count 70 = .ok (.getfield 11, 3) := by decide +kernel
theorem dX10_count_73 : decode cX10_count 73 = .ok (.bipush 18, 2) := by decide +kernel
theorem dX10_count_75 : decode cX10_count 75 = .ok (.iaload, 1) := by decide +kernel
theorem dX10_count_76 : decode cX10_count 76 = .ok (.ireturn, 1) := by decide +kernel
theorem dX10_count_77 : decode cX10_count 77 = .ok (.aload_n 0, 1) := by decide +kernel
theorem dX10_count_78 : decode cX10_count 78 = .ok (.getfield 11, 3) := by decide +kernel
theorem dX10_count_81 : decode cX10_count 81 = .ok (.bipush 17, 2) := by decide +kernel
theorem dX10_count_83 : decode cX10_count 83 = .ok (.iaload, 1) := by decide +kernel
theorem dX10_count_84 : decode cX10_count 84 = .ok (.ireturn, 1) := by decide +kernel
theorem dX10_count_85 : decode cX10_count 85 = .ok (.aload_n 0, 1) := by decide +kernel
theorem dX10_count_86 : decode cX10_count 86 = .ok (.getfield 200, 3) := by decide +kernel
theorem dX10_count_89 : decode cX10_count 89 = .ok (.ireturn, 1) := by decide +kernel
theorem dX10_count_90 : decode cX10_count 90 = .ok (.aload_n 0, 1) := by decide +kernel
theorem dX10_count_91 : decode cX10_count 91 = .ok (.getfield 11, 3) := by decide +kernel
theorem dX10_count_94 : decode cX10_count 94 = .ok (.bipush 15, 2) := by decide +kernel
theorem dX10_count_96 : decode cX10_count 96 = .ok (.iaload, 1) := by decide +kernel
theorem dX10_count_97 : decode cX10_count 97 = .ok (.ireturn, 1) := by decide +kernel
theorem dX10_count_98 : decode cX10_count 98 = .ok (.aload_n 0, 1) := by decide +kernel
theorem dX10_count_99 : decode cX10_count 99 = .ok (.getfield 11, 3) := by decide +kernel
theorem dX10_count_102 : decode cX10_count 102 = .ok (.bipush 16, 2) := by decide +kernel
theorem dX10_count_104 : decode cX10_count 104 = .ok (.iaload, 1) := by decide +kernel
theorem dX10_count_105 : decode cX10_count 105 = .ok (.ireturn, 1) := by decide +kernel
theorem dX10_count_106 : decode cX10_count 106 = .ok (.bipush (-2), 2) := by decide +kernel
theorem dX10_count_108 : decode cX10_count 108 = .ok (.ireturn, 1) := by decide +kernel
theorem dX10_tape_0 : decode cX10_tape 0 = .ok (.iload_n 1, 1) := by decide +kernel
theorem dX10_tape_1 : decode cX10_tape 1 = .ok (.invokestatic 293, 3) := by decide +kernel
theorem dX10_tape_4 : decode cX10_tape 4 = .ok (.ifCond .ne 5, 3) := by decide +kernel
theorem dX10_tape_7 : decode cX10_tape 7 = .ok (.iconst (-1), 1) := by decide +kernel
theorem dX10_tape_8 : decode cX10_tape 8 = .ok (.ireturn, 1) := by decide +kernel
theorem dX10_tape_9 : decode cX10_tape 9 = .ok (.iload_n 2, 1) := by decide +kernel
theorem dX10_tape_10 : decode cX10_tape 10 = .ok (.iconst (-1), 1) := by decide +kernel
theorem dX10_tape_11 : decode cX10_tape 11 = .ok (.iconst 4, 1) := by decide +kernel
theorem dX10_tape_12 : decode cX10_tape 12 = .ok (.invokestatic 49, 3) := by decide +kernel
theorem dX10_tape_15 : decode cX10_tape 15 = .ok (.ifCond .eq 13, 3) := by decide +kernel
theorem dX10_tape_18 : decode cX10_tape 18 = .ok (.iload_n 2, 1) := by decide +kernel
theorem dX10_tape_19 : decode cX10_tape 19 = .ok (.ifCond .lt 12, 3) := by decide +kernel
theorem dX10_tape_22 : decode cX10_tape 22 = .ok (.iload_n 3, 1) := by decide +kernel
theorem dX10_tape_23 : decode cX10_tape 23 = .ok (.bipush 60, 2) := by decide +kernel
theorem dX10_tape_25 : decode cX10_tape 25 = .ok (.if_icmp .le 6, 3) := by decide +kernel
theorem dX10_tape_28 : decode cX10_tape 28 = .ok (.bipush (-2), 2) := by decide +kernel
theorem dX10_tape_30 : decode cX10_tape 30 = .ok (.ireturn, 1) := by decide +kernel
theorem dX10_tape_31 : decode cX10_tape 31 = .ok (.iload_n 2, 1) := by decide +kernel
theorem dX10_tape_32 : decode cX10_tape 32 = .ok (.ifCond .lt 10, 3) := by decide +kernel
theorem dX10_tape_35 : decode cX10_tape 35 = .ok (.iload_n 3, 1) := by decide +kernel
theorem dX10_tape_36 : decode cX10_tape 36 = .ok (.ifCond .ge 6, 3) := by decide +kernel
theorem dX10_tape_39 : decode cX10_tape 39 = .ok (.bipush (-14), 2) := by decide +kernel
theorem dX10_tape_41 : decode cX10_tape 41 = .ok (.ireturn, 1) := by decide +kernel
theorem dX10_tape_42 : decode cX10_tape 42 = .ok (.aload_n 0, 1) := by decide +kernel
theorem dX10_tape_43 : decode cX10_tape 43 = .ok (.getfield 33, 3) := by decide +kernel
theorem dX10_tape_46 : decode cX10_tape 46 = .ok (.iload_n 1, 1) := by decide +kernel
theorem dX10_tape_47 : decode cX10_tape 47 = .ok (.iload_n 2, 1) := by decide +kernel
theorem dX10_tape_48 : decode cX10_tape 48 = .ok (.iastore, 1) := by decide +kernel
theorem dX10_tape_49 : decode cX10_tape 49 = .ok (.aload_n 0, 1) := by decide +kernel
theorem dX10_tape_50 : decode cX10_tape 50 = .ok (.getfield 36, 3) := by decide +kernel
theorem dX10_tape_53 : decode cX10_tape 53 = .ok (.iload_n 1, 1) := by decide +kernel
theorem dX10_tape_54 : decode cX10_tape 54 = .ok (.iload_n 2, 1) := by decide +kernel
theorem dX10_tape_55 : decode cX10_tape 55 = .ok (.ifCond .ge 7, 3) := by decide +kernel
theorem dX10_tape_58 : decode cX10_tape 58 = .ok (.iconst 0, 1) := by decide +kernel
theorem dX10_tape_59 : decode cX10_tape 59 = .ok (.goto 4, 3) := by decide +kernel
theorem dX10_tape_62 : decode cX10_tape 62 = .ok (.iload_n 3, 1) := by decide +kernel
theorem dX10_tape_63 : decode cX10_tape 63 = .ok (.iastore, 1) := by decide +kernel
theorem dX10_tape_64 : decode cX10_tape 64 = .ok (.iconst 0, 1) := by decide +kernel
theorem dX10_tape_65 : decode cX10_tape 65 = .ok (.istore 4, 2) := by decide +kernel
theorem dX10_tape_67 : decode cX10_tape 67 = .ok (.iload 4, 2) := by decide +kernel
theorem dX10_tape_69 : decode cX10_tape 69 = .ok (.aload_n 0, 1) := by decide +kernel
theorem dX10_tape_70 : decode cX10_tape 70 = .ok (.getfield 36, 3) := by decide +kernel
theorem dX10_tape_73 : decode cX10_tape 73 = .ok (.iload_n 1, 1) := by decide +kernel
theorem dX10_tape_74 : decode cX10_tape 74 = .ok (.iaload, 1) := by decide +kernel
theorem dX10_tape_75 : decode cX10_tape 75 = .ok (.if_icmp .ge 22, 3) := by decide +kernel
theorem dX10_tape_78 : decode cX10_tape 78 = .ok (.aload_n 0, 1) := by decide +kernel
theorem dX10_tape_79 : decode cX10_tape 79 = .ok (.getfield 39, 3) := by decide +kernel
theorem dX10_tape_82 : decode cX10_tape 82 = .ok (.bipush 60, 2) := by decide +kernel
theorem dX10_tape_84 : decode cX10_tape 84 = .ok (.iload_n 1, 1) := by decide +kernel
theorem dX10_tape_85 : decode cX10_tape 85 = .ok (.imul, 1) := by decide +kernel
theorem dX10_tape_86 : decode cX10_tape 86 = .ok (.iload 4, 2) := by decide +kernel
theorem dX10_tape_88 : decode cX10_tape 88 = .ok (.iadd, 1) := by decide +kernel
theorem dX10_tape_89 : decode cX10_tape 89 = .ok (.lconst 0, 1) := by decide +kernel
theorem dX10_tape_90 : decode cX10_tape 90 = .ok (.lastore, 1) := by decide +kernel
theorem dX10_tape_91 : decode cX10_tape 91 = .ok (.iinc 4 1, 3) := by decide +kernel
theorem dX10_tape_94 : decode cX10_tape 94 = .ok (.goto (-27), 3) := by decide +kernel
theorem dX10_tape_97 : decode cX10_tape 97 = .ok (.iconst 1, 1) := by decide +kernel
theorem dX10_tape_98 : decode cX10_tape 98 = .ok (.ireturn, 1) := by decide +kernel
theorem dX10_item_0 : decode cX10_item 0 = .ok (.iload_n 1, 1) := by decide +kernel
theorem dX10_item_1 : decode cX10_item 1 = .ok (.invokestatic 293, 3) := by decide +kernel
theorem dX10_item_4 : decode cX10_item 4 = .ok (.ifCond .ne 5, 3) := by decide +kernel
theorem dX10_item_7 : decode cX10_item 7 = .ok (.iconst (-1), 1) := by decide +kernel
theorem dX10_item_8 : decode cX10_item 8 = .ok (.ireturn, 1) := by decide +kernel
theorem dX10_item_9 : decode cX10_item 9 = .ok (.aload_n 0, 1) := by decide +kernel
theorem dX10_item_10 : decode cX10_item 10 = .ok (.getfield 33, 3) := by decide +kernel
theorem dX10_item_13 : decode cX10_item 13 = .ok (.iload_n 1, 1) := by decide +kernel
theorem dX10_item_14 : decode cX10_item 14 = .ok (.iaload, 1) := by decide +kernel
theorem dX10_item_15 : decode cX10_item 15 = .ok (.ifCond .ge 6, 3) := by decide +kernel
theorem dX10_item_18 : decode cX10_item 18 = .ok (.bipush (-11), 2) := by decide +kernel
theorem dX10_item_20 : decode cX10_item 20 = .ok (.ireturn, 1) := by decide +kernel
theorem dX10_item_21 : decode cX10_item 21 = .ok (.iload_n 2, 1) := by decide +kernel
theorem dX10_item_22 : decode cX10_item 22 = .ok (.iconst 0, 1) := by decide +kernel
theorem dX10_item_23 : decode cX10_item 23 = .ok (.aload_n 0, 1) := by decide +kernel
theorem dX10_item_24 : decode cX10_item 24 = .ok (.getfield 36, 3) := by decide +kernel
theorem dX10_item_27 : decode cX10_item 27 = .ok (.iload_n 1, 1) := by decide +kernel
theorem dX10_item_28 : decode cX10_item 28 = .ok (.iaload, 1) := by decide +kernel
theorem dX10_item_29 : decode cX10_item 29 = .ok (.iconst 1, 1) := by decide +kernel
theorem dX10_item_30 : decode cX10_item 30 = .ok (.isub, 1) := by decide +kernel
theorem dX10_item_31 : decode cX10_item 31 = .ok (.invokestatic 49, 3) := by decide +kernel
theorem dX10_item_34 : decode cX10_item 34 = .ok (.ifCond .ne 6, 3) := by decide +kernel
theorem dX10_item_37 : decode cX10_item 37 = .ok (.bipush (-13), 2) := by decide +kernel
theorem dX10_item_39 : decode cX10_item 39 = .ok (.ireturn, 1) := by decide +kernel
theorem dX10_item_40 : decode cX10_item 40 = .ok (.aload_n 0, 1) := by decide +kernel
theorem dX10_item_41 : decode cX10_item 41 = .ok (.getfield 39, 3) := by decide +kernel
theorem dX10_item_44 : decode cX10_item 44 = .ok (.bipush 60, 2) := by decide +kernel
theorem dX10_item_46 : decode cX10_item 46 = .ok (.iload_n 1, 1) := by decide +kernel
theorem dX10_item_47 : decode cX10_item 47 = .ok (.imul, 1) := by decide +kernel
theorem dX10_item_48 : decode cX10_item 48 = .ok (.iload_n 2, 1) := by decide +kernel
theorem dX10_item_49 : decode cX10_item 49 = .ok (.iadd, 1) := by decide +kernel
theorem dX10_item_50 : decode cX10_item 50 = .ok (.aload_n 0, 1) := by decide +kernel
theorem dX10_item_51 : decode cX10_item 51 = .ok (.getfield 33, 3) := by decide +kernel
theorem dX10_item_54 : decode cX10_item 54 = .ok (.iload_n 1, 1) := by decide +kernel
theorem dX10_item_55 : decode cX10_item 55 = .ok (.iaload, 1) := by decide +kernel
theorem dX10_item_56 : decode cX10_item 56 = .ok (.ifCond .ne 10, 3) := by decide +kernel
theorem dX10_item_59 : decode cX10_item 59 = .ok (.lload_n 3, 1) := by decide +kernel
theorem dX10_item_60 : decode cX10_item 60 = .ok (.l2i, 1) := by decide +kernel
theorem dX10_item_61 : decode cX10_item 61 = .ok (.i2b, 1) := by decide +kernel
theorem dX10_item_62 : decode cX10_item 62 = .ok (.i2l, 1) := by decide +kernel
theorem dX10_item_63 : decode cX10_item 63 = .ok (.goto 61, 3) := by decide +kernel
theorem dX10_item_66 : decode cX10_item 66 = .ok (.aload_n 0, 1) := by decide +kernel
theorem dX10_item_67 : decode cX10_item 67 = .ok (.getfield 33, 3) := by decide +kernel
theorem dX10_item_70 : decode cX10_item 70 = .ok (.iload_n 1, 1) := by decide +kernel
theorem dX10_item_71 : decode cX10_item 71 = .ok (.iaload, 1) := by decide +kernel
theorem dX10_item_72 : decode cX10_item 72 = .ok (.iconst 1, 1) := by decide +kernel
theorem dX10_item_73 : decode cX10_item 73 = .ok (.if_icmp .ne 10, 3) := by decide +kernel
theorem dX10_item_76 : decode cX10_item 76 = .ok (.lload_n 3, 1) := by decide +kernel
theorem dX10_item_77 : decode cX10_item 77 = .ok (.l2i, 1) := by decide +kernel
theorem dX10_item_78 : decode cX10_item 78 = .ok (.i2s, 1) := by decide +kernel
theorem dX10_item_79 : decode cX10_item 79 = .ok (.i2l, 1) := by decide +kernel
theorem dX10_item_80 : decode cX10_item 80 = .ok (.goto 44, 3) := by decide +kernel
theorem dX10_item_83 : decode cX10_item 83 = .ok (.aload_n 0, 1) := by decide +kernel
theorem dX10_item_84 : decode cX10_item 84 = .ok (.getfield 33, 3) := by decide +kernel
theorem dX10_item_87 : decode cX10_item 87 = .ok (.iload_n 1, 1) := by decide +kernel
theorem dX10_item_88 : decode cX10_item 88 = .ok (.iaload, 1) := by decide +kernel
theorem dX10_item_89 : decode cX10_item 89 = .ok (.iconst 2, 1) := by decide +kernel
theorem dX10_item_90 : decode cX10_item 90 = .ok (.if_icmp .ne 9, 3) := by decide +kernel
theorem dX10_item_93 : decode cX10_item 93 = .ok (.lload_n 3, 1) := by decide +kernel
theorem dX10_item_94 : decode cX10_item 94 = .ok (.l2i, 1) := by decide +kernel
theorem dX10_item_95 : decode cX10_item 95 = .ok (.i2l, 1) := by decide +kernel
theorem dX10_item_96 : decode cX10_item 96 = .ok (.goto 28, 3) := by decide +kernel
theorem dX10_item_99 : decode cX10_item 99 = .ok (.aload_n 0, 1) := by decide +kernel
theorem dX10_item_100 : decode cX10_item 100 = .ok (.getfield 33, 3) := by decide +kernel
theorem dX10_item_103 : decode cX10_item 103 = .ok (.iload_n 1, 1) := by decide +kernel
theorem dX10_item_104 : decode cX10_item 104 = .ok (.iaload, 1) := by decide +kernel
theorem dX10_item_105 : decode cX10_item 105 = .ok (.iconst 3, 1) := by decide +kernel
theorem dX10_item_106 : decode cX10_item 106 = .ok (.if_icmp .ne 7, 3) := by decide +kernel
theorem dX10_item_109 : decode cX10_item 109 = .ok (.lload_n 3, 1) := by decide +kernel
theorem dX10_item_110 : decode cX10_item 110 = .ok (.goto 14, 3) := by decide +kernel
theorem dX10_item_113 : decode cX10_item 113 = .ok (.lload_n 3, 1) := by decide +kernel
theorem dX10_item_114 : decode cX10_item 114 = .ok (.lconst 0, 1) := by decide +kernel
theorem dX10_item_115 : decode cX10_item 115 = .ok (.lcmp, 1) := by decide +kernel
theorem dX10_item_116 : decode cX10_item 116 = .ok (.ifCond .eq 7, 3) := by decide +kernel
theorem dX10_item_119 : decode cX10_item 119 = .ok (.lconst 1, 1) := by decide +kernel
theorem dX10_item_120 : decode cX10_item 120 = .ok (.goto 4, 3) := by decide +kernel
theorem dX10_item_123 : decode cX10_item 123 = .ok (.lconst 0, 1) := by decide +kernel
theorem dX10_item_124 : decode cX10_item 124 = .ok (.lastore, 1) := by decide +kernel
theorem dX10_item_125 : decode cX10_item 125 = .ok (.iconst 1, 1) := by decide +kernel
theorem dX10_item_126 : decode cX10_item 126 = .ok (.ireturn, 1) := by decide +kernel
theorem dX10_peek_0 : decode cX10_peek 0 = .ok (.iload_n 1, 1) := by decide +kernel
theorem dX10_peek_1 : decode cX10_peek 1 = .ok (.invokestatic 293, 3) := by decide +kernel
theorem dX10_peek_4 : decode cX10_peek 4 = .ok (.ifCond .eq 42, 3) := by decide +kernel
theorem dX10_peek_7 : decode cX10_peek 7 = .ok (.aload_n 0, 1) := by decide +kernel
theorem dX10_peek_8 : decode cX10_peek 8 = .ok (.getfield 33, 3) := by decide +kernel
theorem dX10_peek_11 : decode cX10_peek 11 = .ok (.iload_n 1, 1) := by decide +kernel
theorem dX10_peek_12 : decode cX10_peek 12 = .ok (.iaload, 1) := by decide +kernel
theorem dX10_peek_13 : decode cX10_peek 13 = .ok (.ifCond .lt 33, 3) := by decide +kernel
theorem dX10_peek_16 : decode cX10_peek 16 = .ok (.iload_n 2, 1) := by decide +kernel
theorem dX10_peek_17 : decode cX10_peek 17 = .ok (.iconst 0, 1) := by decide +kernel
theorem dX10_peek_18 : decode cX10_peek 18 = .ok (.aload_n 0, 1) := by decide +kernel
theorem dX10_peek_19 : decode cX10_peek 19 = .ok (.getfield 36, 3) := by decide +kernel
theorem dX10_peek_22 : decode cX10_peek 22 = .ok (.iload_n 1, 1) := by decide +kernel
theorem dX10_peek_23 : decode cX10_peek 23 = .ok (.iaload, 1) := by decide +kernel
theorem dX10_peek_24 : decode cX10_peek 24 = .ok (.iconst 1, 1) := by decide +kernel
theorem dX10_peek_25 : decode cX10_peek 25 = .ok (.isub, 1) := by decide +kernel
theorem dX10_peek_26 : decode cX10_peek 26 = .ok (.invokestatic 49, 3) := by decide +kernel
theorem dX10_peek_29 : decode cX10_peek 29 = .ok (.ifCond .eq 17, 3) := by decide +kernel
theorem dX10_peek_32 : decode cX10_peek 32 = .ok (.aload_n 0, 1) := by decide +kernel
theorem dX10_peek_33 : decode cX10_peek 33 = .ok (.getfield 39, 3) := by decide +kernel
theorem dX10_peek_36 : decode cX10_peek 36 = .ok (.bipush 60, 2) := by decide +kernel
theorem dX10_peek_38 : decode cX10_peek 38 = .ok (.iload_n 1, 1) := by decide +kernel
theorem dX10_peek_39 : decode cX10_peek 39 = .ok (.imul, 1) := by decide +kernel
theorem dX10_peek_40 : decode cX10_peek 40 = .ok (.iload_n 2, 1) := by decide +kernel
theorem dX10_peek_41 : decode cX10_peek 41 = .ok (.iadd, 1) := by decide +kernel
theorem dX10_peek_42 : decode cX10_peek 42 = .ok (.laload, 1) := by decide +kernel
theorem dX10_peek_43 : decode cX10_peek 43 = .ok (.goto 6, 3) := by decide +kernel
theorem dX10_peek_46 : decode cX10_peek 46 = .ok (.ldc2_w 278, 3) := by decide +kernel
theorem dX10_peek_49 : decode cX10_peek 49 = .ok (.lreturn, 1) := by decide +kernel
theorem dX10_shift_0 : decode cX10_shift 0 = .ok (.iload_n 1, 1) := by decide +kernel
theorem dX10_shift_1 : decode cX10_shift 1 = .ok (.invokestatic 293, 3) := by decide +kernel
theorem dX10_shift_4 : decode cX10_shift 4 = .ok (.ifCond .eq 10, 3) := by decide +kernel
theorem dX10_shift_7 : decode cX10_shift 7 = .ok (.iload_n 3, 1) := by decide +kernel
theorem dX10_shift_8 : decode cX10_shift 8 = .ok (.invokestatic 293, 3) := by decide +kernel
theorem dX10_shift_11 : decode cX10_shift 11 = .ok (.ifCond .ne 5, 3) := by decide +kernel
theorem dX10_shift_14 : decode cX10_shift 14 = .ok (.iconst (-1), 1) := by decide +kernel
theorem dX10_shift_15 : decode cX10_shift 15 = .ok (.ireturn, 1) := by decide +kernel
theorem dX10_shift_16 : decode cX10_shift 16 = .ok (.aload_n 0, 1) := by decide +kernel
theorem dX10_shift_17 : decode cX10_shift 17 = .ok (.getfield 33, 3) := by decide +kernel
theorem dX10_shift_20 : decode cX10_shift 20 = .ok (.iload_n 1, 1) := by decide +kernel
theorem dX10_shift_21 : decode cX10_shift 21 = .ok (.iaload, 1) := by decide +kernel
theorem dX10_shift_22 : decode cX10_shift 22 = .ok (.ifCond .lt 12, 3) := by decide +kernel
theorem dX10_shift_25 : decode cX10_shift 25 = .ok (.aload_n 0, 1) := by decide +kernel
theorem dX10_shift_26 : decode cX10_shift 26 = .ok (.getfield 33, 3) := by decide +kernel
theorem dX10_shift_29 : decode cX10_shift 29 = .ok (.iload_n 3, 1) := by decide +kernel
theorem dX10_shift_30 : decode cX10_shift 30 = .ok (.iaload, 1) := by decide +kernel
theorem dX10_shift_31 : decode cX10_shift 31 = .ok (.ifCond .ge 6, 3) := by decide +kernel
theorem dX10_shift_34 : decode cX10_shift 34 = .ok (.bipush (-11), 2) := by decide +kernel
theorem dX10_shift_36 : decode cX10_shift 36 = .ok (.ireturn, 1) := by decide +kernel
theorem dX10_shift_37 : decode cX10_shift 37 = .ok (.aload_n 0, 1) := by decide +kernel
theorem dX10_shift_38 : decode cX10_shift 38 = .ok (.getfield 33, 3) := by decide +kernel
theorem dX10_shift_41 : decode cX10_shift 41 = .ok (.iload_n 1, 1) := by decide +kernel
theorem dX10_shift_42 : decode cX10_shift 42 = .ok (.iaload, 1) := by decide +kernel
theorem dX10_shift_43 : decode cX10_shift 43 = .ok (.aload_n 0, 1) := by decide +kernel
theorem dX10_shift_44 : decode cX10_shift 44 = .ok (.getfield 33, 3) := by decide +kernel
theorem dX10_shift_47 : decode cX10_shift 47 = .ok (.iload_n 3, 1) := by decide +kernel
theorem dX10_shift_48 : decode cX10_shift 48 = .ok (.iaload, 1) := by decide +kernel
theorem dX10_shift_49 : decode cX10_shift 49 = .ok (.if_icmp .eq 6, 3) := by decide +kernel
theorem dX10_shift_52 : decode cX10_shift 52 = .ok (.bipush (-12), 2) := by decide +kernel
theorem dX10_shift_54 : decode cX10_shift 54 = .ok (.ireturn, 1) := by decide +kernel
theorem dX10_shift_55 : decode cX10_shift 55 = .ok (.iload 5, 2) := by decide +kernel
theorem dX10_shift_57 : decode cX10_shift 57 = .ok (.ifCond .lt 39, 3) := by decide +kernel
theorem dX10_shift_60 : decode cX10_shift 60 = .ok (.iload_n 2, 1) := by decide +kernel
theorem dX10_shift_61 : decode cX10_shift 61 = .ok (.ifCond .lt 35, 3) := by decide +kernel
theorem dX10_shift_64 : decode cX10_shift 64 = .ok (.iload 4, 2) := by decide +kernel
theorem dX10_shift_66 : decode cX10_shift 66 = .ok (.ifCond .lt 30, 3) := by decide +kernel
theorem dX10_shift_69 : decode cX10_shift 69 = .ok (.iload 5, 2) := by decide +kernel
theorem dX10_shift_71 : decode cX10_shift 71 = .ok (.aload_n 0, 1) := by decide +kernel
theorem dX10_shift_72 : decode cX10_shift 72 = .ok (.getfield 36, 3) := by decide +kernel
theorem dX10_shift_75 : decode cX10_shift 75 = .ok (.iload_n 1, 1) := by decide +kernel
theorem dX10_shift_76 : decode cX10_shift 76 = .ok (.iaload, 1) := by decide +kernel
theorem dX10_shift_77 : decode cX10_shift 77 = .ok (.iload_n 2, 1) := by decide +kernel
theorem dX10_shift_78 : decode cX10_shift 78 = .ok (.isub, 1) := by decide +kernel
theorem dX10_shift_79 : decode cX10_shift 79 = .ok (.if_icmp .gt 17, 3) := by decide +kernel
theorem dX10_shift_82 : decode cX10_shift 82 = .ok (.iload 5, 2) := by decide +kernel
theorem dX10_shift_84 : decode cX10_shift 84 = .ok (.aload_n 0, 1) := by decide +kernel
theorem dX10_shift_85 : decode cX10_shift 85 = .ok (.getfield 36, 3) := by decide +kernel
theorem dX10_shift_88 : decode cX10_shift 88 = .ok (.iload_n 3, 1) := by decide +kernel
theorem dX10_shift_89 : decode cX10_shift 89 = .ok (.iaload, 1) := by decide +kernel
theorem dX10_shift_90 : decode cX10_shift 90 = .ok (.iload 4, 2) := by decide +kernel
theorem dX10_shift_92 : decode cX10_shift 92 = .ok (.isub, 1) := by decide +kernel
theorem dX10_shift_93 : decode cX10_shift 93 = .ok (.if_icmp .le 6, 3) := by decide +kernel
theorem dX10_shift_96 : decode cX10_shift 96 = .ok (.bipush (-13), 2) := by decide +kernel
theorem dX10_shift_98 : decode cX10_shift 98 = .ok (.ireturn, 1) := by decide +kernel
theorem dX10_shift_99 : decode cX10_shift 99 = .ok (.iconst 0, 1) := by decide +kernel
theorem dX10_shift_100 : decode cX10_shift 100 = .ok (.istore 6, 2) := by decide +kernel
theorem dX10_shift_102 : decode cX10_shift 102 = .ok (.iload 6, 2) := by decide +kernel
theorem dX10_shift_104 : decode cX10_shift 104 = .ok (.iload 5, 2) := by decide +kernel
theorem dX10_shift_106 : decode cX10_shift 106 = .ok (.if_icmp .ge 30, 3) := by decide +kernel
theorem dX10_shift_109 : decode cX10_shift 109 = .ok (.aload_n 0, 1) := by decide +kernel
theorem dX10_shift_110 : decode cX10_shift 110 = .ok (.getfield 43, 3) := by decide +kernel
theorem dX10_shift_113 : decode cX10_shift 113 = .ok (.iload 6, 2) := by decide +kernel
theorem dX10_shift_115 : decode cX10_shift 115 = .ok (.aload_n 0, 1) := by decide +kernel
theorem dX10_shift_116 : decode cX10_shift 116 = .ok (.getfield 39, 3) := by decide +kernel
theorem dX10_shift_119 : decode cX10_shift 119 = .ok (.bipush 60, 2) := by decide +kernel
theorem dX10_shift_121 : decode cX10_shift 121 = .ok (.iload_n 1, 1) := by decide +kernel
theorem dX10_shift_122 : decode cX10_shift 122 = .ok (.imul, 1) := by decide +kernel
theorem dX10_shift_123 : decode cX10_shift 123 = .ok (.iload_n 2, 1) := by decide +kernel
theorem dX10_shift_124 : decode cX10_shift 124 = .ok (.iadd, 1) := by decide +kernel
theorem dX10_shift_125 : decode cX10_shift 125 = .ok (.iload 6, 2) := by decide +kernel
theorem dX10_shift_127 : decode cX10_shift 127 = .ok (.iadd, 1) := by decide +kernel
theorem dX10_shift_128 : decode cX10_shift 128 = .ok (.laload, 1) := by decide +kernel
theorem dX10_shift_129 : decode cX10_shift 129 = .ok (.lastore, 1) := by decide +kernel
theorem dX10_shift_130 : decode cX10_shift 130 = .ok (.iinc 6 1, 3) := by decide +kernel
theorem dX10_shift_133 : decode cX10_shift 133 = .ok (.goto (-31), 3) := by decide +kernel
theorem dX10_shift_136 : decode cX10_shift 136 = .ok (.iconst 0, 1) := by decide +kernel
theorem dX10_shift_137 : decode cX10_shift 137 = .ok (.istore 6, 2) := by decide +kernel
theorem dX10_shift_139 : decode cX10_shift 139 = .ok (.iload 6, 2) := by decide +kernel
theorem dX10_shift_141 : decode cX10_shift 141 = .ok (.iload 5, 2) := by decide +kernel
theorem dX10_shift_143 : decode cX10_shift 143 = .ok (.if_icmp .ge 31, 3) := by decide +kernel
theorem dX10_shift_146 : decode cX10_shift 146 = .ok (.aload_n 0, 1) := by decide +kernel
theorem dX10_shift_147 : decode cX10_shift 147 = .ok (.getfield 39, 3) := by decide +kernel
theorem dX10_shift_150 : decode cX10_shift 150 = .ok (.bipush 60, 2) := by decide +kernel
theorem dX10_shift_152 : decode cX10_shift 152 = .ok (.iload_n 3, 1) := by decide +kernel
theorem dX10_shift_153 : decode cX10_shift 153 = .ok (.imul, 1) := by decide +kernel
theorem dX10_shift_154 : decode cX10_shift 154 = .ok (.iload 4, 2) := by decide +kernel
theorem dX10_shift_156 : decode cX10_shift 156 = .ok (.iadd, 1) := by decide +kernel
theorem dX10_shift_157 : decode cX10_shift 157 = .ok (.iload 6, 2) := by decide +kernel
theorem dX10_shift_159 : decode cX10_shift 159 = .ok (.iadd, 1) := by decide +kernel
theorem dX10_shift_160 : decode cX10_shift 160 = .ok (.aload_n 0, 1) := by decide +kernel
theorem dX10_shift_161 : decode cX10_shift 161 = .ok (.getfield 43, 3) := by decide +kernel
theorem dX10_shift_164 : decode cX10_shift 164 = .ok (.iload 6, 2) := by decide +kernel
theorem dX10_shift_166 : decode cX10_shift 166 = .ok (.laload, 1) := by decide +kernel
theorem dX10_shift_167 : decode cX10_shift 167 = .ok (.lastore, 1) := by decide +kernel
theorem dX10_shift_168 : decode cX10_shift 168 = .ok (.iinc 6 1, 3) := by decide +kernel
theorem dX10_shift_171 : decode cX10_shift 171 = .ok (.goto (-32), 3) := by decide +kernel
theorem dX10_shift_174 : decode cX10_shift 174 = .ok (.iload 5, 2) := by decide +kernel
theorem dX10_shift_176 : decode cX10_shift 176 = .ok (.ireturn, 1) := by decide +kernel
theorem dJ6_bitCount_0f7a4_0 : decode cJ6_bitCount_0f7a4 0 = .ok (.iload_n 0, 1) := by decide +kernel
theorem dJ6_bitCount_0f7a4_1 : decode cJ6_bitCount_0f7a4 1 = .ok (.iload_n 0, 1) := by decide +kernel
theorem dJ6_bitCount_0f7a4_2 : decode cJ6_bitCount_0f7a4 2 = .ok (.iconst 1, 1) := by decide +kernel
theorem dJ6_bitCount_0f7a4_3 : decode cJ6_bitCount_0f7a4 3 = .ok (.iushr, 1) := by decide +kernel
theorem dJ6_bitCount_0f7a4_4 : decode cJ6_bitCount_0f7a4 4 = .ok (.ldc_w 265, 3) := by decide +kernel
theorem dJ6_bitCount_0f7a4_7 : decode cJ6_bitCount_0f7a4 7 = .ok (.iand, 1) := by decide +kernel
theorem dJ6_bitCount_0f7a4_8 : decode cJ6_bitCount_0f7a4 8 = .ok (.isub, 1) := by decide +kernel
theorem dJ6_bitCount_0f7a4_9 : decode cJ6_bitCount_0f7a4 9 = .ok (.istore_n 0, 1) := by decide +kernel
theorem dJ6_bitCount_0f7a4_10 : decode cJ6_bitCount_0f7a4 10 = .ok (.iload_n 0, 1) := by decide +kernel
theorem dJ6_bitCount_0f7a4_11 : decode cJ6_bitCount_0f7a4 11 = .ok (.ldc_w 266, 3) := by decide +kernel
theorem dJ6_bitCount_0f7a4_14 : decode cJ6_bitCount_0f7a4 14 = .ok (.iand, 1) := by decide +kernel
theorem dJ6_bitCount_0f7a4_15 : decode cJ6_bitCount_0f7a4 15 = .ok (.iload_n 0, 1) := by decide +kernel
theorem dJ6_bitCount_0f7a4_16 : decode cJ6_bitCount_0f7a4 16 = .ok (.iconst 2, 1) := by decide +kernel
theorem dJ6_bitCount_0f7a4_17 : decode cJ6_bitCount_0f7a4 17 = .ok (.iushr, 1) := by decide +kernel
theorem dJ6_bitCount_0f7a4_18 : decode cJ6_bitCount_0f7a4 18 = .ok (.ldc_w 266, 3) := by decide +kernel
theorem dJ6_bitCount_0f7a4_21 : decode cJ6_bitCount_0f7a4 21 = .ok (.iand, 1) := by decide +kernel
theorem dJ6_bitCount_0f7a4_22 : decode cJ6_bitCount_0f7a4 22 = .ok (.iadd, 1) := by decide +kernel
theorem dJ6_bitCount_0f7a4_23 : decode cJ6_bitCount_0f7a4 23 = .ok (.istore_n 0, 1) := by decide +kernel
theorem dJ6_bitCount_0f7a4_24 : decode cJ6_bitCount_0f7a4 24 = .ok (.iload_n 0, 1) := by decide +kernel
theorem dJ6_bitCount_0f7a4_25 : decode cJ6_bitCount_0f7a4 25 = .ok (.iload_n 0, 1) := by decide +kernel
theorem dJ6_bitCount_0f7a4_26 : decode cJ6_bitCount_0f7a4 26 = .ok (.iconst 4, 1) := by decide +kernel
theorem dJ6_bitCount_0f7a4_27 : decode cJ6_bitCount_0f7a4 27 = .ok (.iushr, 1) := by decide +kernel
theorem dJ6_bitCount_0f7a4_28 : decode cJ6_bitCount_0f7a4 28 = .ok (.iadd, 1) := by decide +kernel
theorem dJ6_bitCount_0f7a4_29 : decode cJ6_bitCount_0f7a4 29 = .ok (.ldc_w 267, 3) := by decide +kernel
theorem dJ6_bitCount_0f7a4_32 : decode cJ6_bitCount_0f7a4 32 = .ok (.iand, 1) := by decide +kernel
theorem dJ6_bitCount_0f7a4_33 : decode cJ6_bitCount_0f7a4 33 = .ok (.istore_n 0, 1) := by decide +kernel
theorem dJ6_bitCount_0f7a4_34 : decode cJ6_bitCount_0f7a4 34 = .ok (.iload_n 0, 1) := by decide +kernel
theorem dJ6_bitCount_0f7a4_35 : decode cJ6_bitCount_0f7a4 35 = .ok (.iload_n 0, 1) := by decide +kernel
theorem dJ6_bitCount_0f7a4_36 : decode cJ6_bitCount_0f7a4 36 = .ok (.bipush 8, 2) := by decide +kernel
theorem dJ6_bitCount_0f7a4_38 : decode cJ6_bitCount_0f7a4 38 = .ok (.iushr, 1) := by decide +kernel
theorem dJ6_bitCount_0f7a4_39 : decode cJ6_bitCount_0f7a4 39 = .ok (.iadd, 1) := by decide +kernel
theorem dJ6_bitCount_0f7a4_40 : decode cJ6_bitCount_0f7a4 40 = .ok (.istore_n 0, 1) := by decide +kernel
theorem dJ6_bitCount_0f7a4_41 : decode cJ6_bitCount_0f7a4 41 = .ok (.iload_n 0, 1) := by decide +kernel
theorem dJ6_bitCount_0f7a4_42 : decode cJ6_bitCount_0f7a4 42 = .ok (.iload_n 0, 1) := by decide +kernel
theorem dJ6_bitCount_0f7a4_43 : decode cJ6_bitCount_0f7a4 43 = .ok (.bipush 16, 2) := by decide +kernel
theorem dJ6_bitCount_0f7a4_45 : decode cJ6_bitCount_0f7a4 45 = .ok (.iushr, 1) := by decide +kernel
theorem dJ6_bitCount_0f7a4_46 : decode cJ6_bitCount_0f7a4 46 = .ok (.iadd, 1) := by decide +kernel
theorem dJ6_bitCount_0f7a4_47 : decode cJ6_bitCount_0f7a4 47 = .ok (.istore_n 0, 1) := by decide +kernel
theorem dJ6_bitCount_0f7a4_48 : decode cJ6_bitCount_0f7a4 48 = .ok (.iload_n 0, 1) := by decide +kernel
theorem dJ6_bitCount_0f7a4_49 : decode cJ6_bitCount_0f7a4 49 = .ok (.bipush 63, 2) := by decide +kernel
theorem dJ6_bitCount_0f7a4_51 : decode cJ6_bitCount_0f7a4 51 = .ok (.iand, 1) := by decide +kernel
theorem dJ6_bitCount_0f7a4_52 : decode cJ6_bitCount_0f7a4 52 = .ok (.ireturn, 1) := by decide +kernel
theorem dJ13_bitCount_95d88_0 : decode cJ13_bitCount_95d88 0 = .ok (.lload_n 0, 1) := by decide +kernel
theorem dJ13_bitCount_95d88_1 : decode cJ13_bitCount_95d88 1 = .ok (.lload_n 0, 1) := by decide +kernel
theorem dJ13_bitCount_95d88_2 : decode cJ13_bitCount_95d88 2 = .ok (.iconst 1, 1) := by decide +kernel
theorem dJ13_bitCount_95d88_3 : decode cJ13_bitCount_95d88 3 = .ok (.lushr, 1) := by decide +kernel
theorem dJ13_bitCount_95d88_4 : decode cJ13_bitCount_95d88 4 = .ok (.ldc2_w 314, 3) := by decide +kernel
theorem dJ13_bitCount_95d88_7 : decode cJ13_bitCount_95d88 7 = .ok (.land, 1) := by decide +kernel
theorem dJ13_bitCount_95d88_8 : decode cJ13_bitCount_95d88 8 = .ok (.lsub, 1) := by decide +kernel
theorem dJ13_bitCount_95d88_9 : decode cJ13_bitCount_95d88 9 = .ok (.lstore_n 0, 1) := by decide +kernel
theorem dJ13_bitCount_95d88_10 : decode cJ13_bitCount_95d88 10 = .ok (.lload_n 0, 1) := by decide +kernel
theorem dJ13_bitCount_95d88_11 : decode cJ13_bitCount_95d88 11 = .ok (.ldc2_w 316, 3) := by decide +kernel
theorem dJ13_bitCount_95d88_14 : decode cJ13_bitCount_95d88 14 = .ok (.land, 1) := by decide +kernel
theorem dJ13_bitCount_95d88_15 : decode cJ13_bitCount_95d88 15 = .ok (.lload_n 0, 1) := by decide +kernel
theorem dJ13_bitCount_95d88_16 : decode cJ13_bitCount_95d88 16 = .ok (.iconst 2, 1) := by decide +kernel
theorem dJ13_bitCount_95d88_17 : decode cJ13_bitCount_95d88 17 = .ok (.lushr, 1) := by decide +kernel
theorem dJ13_bitCount_95d88_18 : decode cJ13_bitCount_95d88 18 = .ok (.ldc2_w 316, 3) := by decide +kernel
theorem dJ13_bitCount_95d88_21 : decode cJ13_bitCount_95d88 21 = .ok (.land, 1) := by decide +kernel
theorem dJ13_bitCount_95d88_22 : decode cJ13_bitCount_95d88 22 = .ok (.ladd, 1) := by decide +kernel
theorem dJ13_bitCount_95d88_23 : decode cJ13_bitCount_95d88 23 = .ok (.lstore_n 0, 1) := by decide +kernel
theorem dJ13_bitCount_95d88_24 : decode cJ13_bitCount_95d88 24 = .ok (.lload_n 0, 1) := by decide +kernel
theorem dJ13_bitCount_95d88_25 : decode cJ13_bitCount_95d88 25 = .ok (.lload_n 0, 1) := by decide +kernel
theorem dJ13_bitCount_95d88_26 : decode cJ13_bitCount_95d88 26 = .ok (.iconst 4, 1) := by decide +kernel
theorem dJ13_bitCount_95d88_27 : decode cJ13_bitCount_95d88 27 = .ok (.lushr, 1) := by decide +kernel
theorem dJ13_bitCount_95d88_28 : decode cJ13_bitCount_95d88 28 = .ok (.ladd, 1) := by decide +kernel
theorem dJ13_bitCount_95d88_29 : decode cJ13_bitCount_95d88 29 = .ok (.ldc2_w 318, 3) := by decide +kernel
theorem dJ13_bitCount_95d88_32 : decode cJ13_bitCount_95d88 32 = .ok (.land, 1) := by decide +kernel
theorem dJ13_bitCount_95d88_33 : decode cJ13_bitCount_95d88 33 = .ok (.lstore_n 0, 1) := by decide +kernel
theorem dJ13_bitCount_95d88_34 : decode cJ13_bitCount_95d88 34 = .ok (.lload_n 0, 1) := by decide +kernel
theorem dJ13_bitCount_95d88_35 : decode cJ13_bitCount_95d88 35 = .ok (.lload_n 0, 1) := by decide +kernel
theorem dJ13_bitCount_95d88_36 : decode cJ13_bitCount_95d88 36 = .ok (.bipush 8, 2) := by decide +kernel
theorem dJ13_bitCount_95d88_38 : decode cJ13_bitCount_95d88 38 = .ok (.lushr, 1) := by decide +kernel
theorem dJ13_bitCount_95d88_39 : decode cJ13_bitCount_95d88 39 = .ok (.ladd, 1) := by decide +kernel
theorem dJ13_bitCount_95d88_40 : decode cJ13_bitCount_95d88 40 = .ok (.lstore_n 0, 1) := by decide +kernel
theorem dJ13_bitCount_95d88_41 : decode cJ13_bitCount_95d88 41 = .ok (.lload_n 0, 1) := by decide +kernel
theorem dJ13_bitCount_95d88_42 : decode cJ13_bitCount_95d88 42 = .ok (.lload_n 0, 1) := by decide +kernel
theorem dJ13_bitCount_95d88_43 : decode cJ13_bitCount_95d88 43 = .ok (.bipush 16, 2) := by decide +kernel
theorem dJ13_bitCount_95d88_45 : decode cJ13_bitCount_95d88 45 = .ok (.lushr, 1) := by decide +kernel
theorem dJ13_bitCount_95d88_46 : decode cJ13_bitCount_95d88 46 = .ok (.ladd, 1) := by decide +kernel
theorem dJ13_bitCount_95d88_47 : decode cJ13_bitCount_95d88 47 = .ok (.lstore_n 0, 1) := by decide +kernel
theorem dJ13_bitCount_95d88_48 : decode cJ13_bitCount_95d88 48 = .ok (.lload_n 0, 1) := by decide +kernel
theorem dJ13_bitCount_95d88_49 : decode cJ13_bitCount_95d88 49 = .ok (.lload_n 0, 1) := by decide +kernel
theorem dJ13_bitCount_95d88_50 : decode cJ13_bitCount_95d88 50 = .ok (.bipush 32, 2) := by decide +kernel
theorem dJ13_bitCount_95d88_52 : decode cJ13_bitCount_95d88 52 = .ok (.lushr, 1) := by decide +kernel
theorem dJ13_bitCount_95d88_53 : decode cJ13_bitCount_95d88 53 = .ok (.ladd, 1) := by decide +kernel
theorem dJ13_bitCount_95d88_54 : decode cJ13_bitCount_95d88 54 = .ok (.lstore_n 0, 1) := by decide +kernel
theorem dJ13_bitCount_95d88_55 : decode cJ13_bitCount_95d88 55 = .ok (.lload_n 0, 1) := by decide +kernel
theorem dJ13_bitCount_95d88_56 : decode cJ13_bitCount_95d88 56 = .ok (.l2i, 1) := by decide +kernel
theorem dJ13_bitCount_95d88_57 : decode cJ13_bitCount_95d88 57 = .ok (.bipush 127, 2) := by decide +kernel
theorem dJ13_bitCount_95d88_59 : decode cJ13_bitCount_95d88 59 = .ok (.iand, 1) := by decide +kernel
theorem dJ13_bitCount_95d88_60 : decode cJ13_bitCount_95d88 60 = .ok (.ireturn, 1) := by decide +kernel
theorem dJ9_floorMod_7cf53_0 : decode cJ9_floorMod_7cf53 0 = .ok (.iload_n 0, 1) := by decide +kernel
theorem dJ9_floorMod_7cf53_1 : decode cJ9_floorMod_7cf53 1 = .ok (.iload_n 1, 1) := by decide +kernel
theorem dJ9_floorMod_7cf53_2 : decode cJ9_floorMod_7cf53 2 = .ok (.irem, 1) := by decide +kernel
theorem dJ9_floorMod_7cf53_3 : decode cJ9_floorMod_7cf53 3 = .ok (.istore_n 2, 1) := by decide +kernel
theorem dJ9_floorMod_7cf53_4 : decode cJ9_floorMod_7cf53 4 = .ok (.iload_n 0, 1) := by decide +kernel
theorem dJ9_floorMod_7cf53_5 : decode cJ9_floorMod_7cf53 5 = .ok (.iload_n 1, 1) := by decide +kernel
theorem dJ9_floorMod_7cf53_6 : decode cJ9_floorMod_7cf53 6 = .ok (.ixor, 1) := by decide +kernel
theorem dJ9_floorMod_7cf53_7 : decode cJ9_floorMod_7cf53 7 = .ok (.ifCond .ge 11, 3) := by decide +kernel
theorem dJ9_floorMod_7cf53_10 : decode cJ9_floorMod_7cf53 10 = .ok (.iload_n 2, 1) := by decide +kernel
theorem dJ9_floorMod_7cf53_11 : decode cJ9_floorMod_7cf53 11 = .ok (.ifCond .eq 7, 3) := by decide +kernel
theorem dJ9_floorMod_7cf53_14 : decode cJ9_floorMod_7cf53 14 = .ok (.iload_n 2, 1) := by decide +kernel
theorem dJ9_floorMod_7cf53_15 : decode cJ9_floorMod_7cf53 15 = .ok (.iload_n 1, 1) := by decide +kernel
theorem dJ9_floorMod_7cf53_16 : decode cJ9_floorMod_7cf53 16 = .ok (.iadd, 1) := by decide +kernel
theorem dJ9_floorMod_7cf53_17 : decode cJ9_floorMod_7cf53 17 = .ok (.ireturn, 1) := by decide +kernel
theorem dJ9_floorMod_7cf53_18 : decode cJ9_floorMod_7cf53 18 = .ok (.iload_n 2, 1) := by decide +kernel
theorem dJ9_floorMod_7cf53_19 : decode cJ9_floorMod_7cf53 19 = .ok (.ireturn, 1) := by decide +kernel
theorem dJ9_max_7cf53_0 : decode cJ9_max_7cf53 0 = .ok (.iload_n 0, 1) := by decide +kernel
theorem dJ9_max_7cf53_1 : decode cJ9_max_7cf53 1 = .ok (.iload_n 1, 1) := by decide +kernel
theorem dJ9_max_7cf53_2 : decode cJ9_max_7cf53 2 = .ok (.if_icmp .lt 7, 3) := by decide +kernel
theorem dJ9_max_7cf53_5 : decode cJ9_max_7cf53 5 = .ok (.iload_n 0, 1) := by decide +kernel
theorem dJ9_max_7cf53_6 : decode cJ9_max_7cf53 6 = .ok (.goto 4, 3) := by decide +kernel
theorem dJ9_max_7cf53_9 : decode cJ9_max_7cf53 9 = .ok (.iload_n 1, 1) := by decide +kernel
theorem dJ9_max_7cf53_10 : decode cJ9_max_7cf53 10 = .ok (.ireturn, 1) := by decide +kernel
theorem dJ9_min_7cf53_0 : decode cJ9_min_7cf53 0 = .ok (.iload_n 0, 1) := by decide +kernel
theorem dJ9_min_7cf53_1 : decode cJ9_min_7cf53 1 = .ok (.iload_n 1, 1) := by decide +kernel
theorem dJ9_min_7cf53_2 : decode cJ9_min_7cf53 2 = .ok (.if_icmp .gt 7, 3) := by decide +kernel
theorem dJ9_min_7cf53_5 : decode cJ9_min_7cf53 5 = .ok (.iload_n 0, 1) := by decide +kernel
theorem dJ9_min_7cf53_6 : decode cJ9_min_7cf53 6 = .ok (.goto 4, 3) := by decide +kernel
theorem dJ9_min_7cf53_9 : decode cJ9_min_7cf53 9 = .ok (.iload_n 1, 1) := by decide +kernel
theorem dJ9_min_7cf53_10 : decode cJ9_min_7cf53 10 = .ok (.ireturn, 1) := by decide +kernel
theorem dJ7_fill_d0a16_0 : decode cJ7_fill_d0a16 0 = .ok (.iconst 0, 1) := by decide +kernel
theorem dJ7_fill_d0a16_1 : decode cJ7_fill_d0a16 1 = .ok (.istore_n 3, 1) := by decide +kernel
theorem dJ7_fill_d0a16_2 : decode cJ7_fill_d0a16 2 = .ok (.aload_n 0, 1) := by decide +kernel
theorem dJ7_fill_d0a16_3 : decode cJ7_fill_d0a16 3 = .ok (.arraylength, 1) := by decide +kernel
theorem dJ7_fill_d0a16_4 : decode cJ7_fill_d0a16 4 = .ok (.istore 4, 2) := by decide +kernel
theorem dJ7_fill_d0a16_6 : decode cJ7_fill_d0a16 6 = .ok (.iload_n 3, 1) := by decide +kernel
theorem dJ7_fill_d0a16_7 : decode cJ7_fill_d0a16 7 = .ok (.iload 4, 2) := by decide +kernel
theorem dJ7_fill_d0a16_9 : decode cJ7_fill_d0a16 9 = .ok (.if_icmp .ge 13, 3) := by decide +kernel
theorem dJ7_fill_d0a16_12 : decode cJ7_fill_d0a16 12 = .ok (.aload_n 0, 1) := by decide +kernel
theorem dJ7_fill_d0a16_13 : decode cJ7_fill_d0a16 13 = .ok (.iload_n 3, 1) := by decide +kernel
theorem dJ7_fill_d0a16_14 : decode cJ7_fill_d0a16 14 = .ok (.lload_n 1, 1) := by decide +kernel
theorem dJ7_fill_d0a16_15 : decode cJ7_fill_d0a16 15 = .ok (.lastore, 1) := by decide +kernel
theorem dJ7_fill_d0a16_16 : decode cJ7_fill_d0a16 16 = .ok (.iinc 3 1, 3) := by decide +kernel
theorem dJ7_fill_d0a16_19 : decode cJ7_fill_d0a16 19 = .ok (.goto (-13), 3) := by decide +kernel
theorem dJ7_fill_d0a16_22 : decode cJ7_fill_d0a16 22 = .ok (.return_, 1) := by decide +kernel
theorem dJ7_fill_53178_0 : decode cJ7_fill_53178 0 = .ok (.iconst 0, 1) := by decide +kernel
theorem dJ7_fill_53178_1 : decode cJ7_fill_53178 1 = .ok (.istore_n 2, 1) := by decide +kernel
theorem dJ7_fill_53178_2 : decode cJ7_fill_53178 2 = .ok (.aload_n 0, 1) := by decide +kernel
theorem dJ7_fill_53178_3 : decode cJ7_fill_53178 3 = .ok (.arraylength, 1) := by decide +kernel
theorem dJ7_fill_53178_4 : decode cJ7_fill_53178 4 = .ok (.istore_n 3, 1) := by decide +kernel
theorem dJ7_fill_53178_5 : decode cJ7_fill_53178 5 = .ok (.iload_n 2, 1) := by decide +kernel
theorem dJ7_fill_53178_6 : decode cJ7_fill_53178 6 = .ok (.iload_n 3, 1) := by decide +kernel
theorem dJ7_fill_53178_7 : decode cJ7_fill_53178 7 = .ok (.if_icmp .ge 13, 3) := by decide +kernel
theorem dJ7_fill_53178_10 : decode cJ7_fill_53178 10 = .ok (.aload_n 0, 1) := by decide +kernel
theorem dJ7_fill_53178_11 : decode cJ7_fill_53178 11 = .ok (.iload_n 2, 1) := by decide +kernel
theorem dJ7_fill_53178_12 : decode cJ7_fill_53178 12 = .ok (.iload_n 1, 1) := by decide +kernel
theorem dJ7_fill_53178_13 : decode cJ7_fill_53178 13 = .ok (.iastore, 1) := by decide +kernel
theorem dJ7_fill_53178_14 : decode cJ7_fill_53178 14 = .ok (.iinc 2 1, 3) := by decide +kernel
theorem dJ7_fill_53178_17 : decode cJ7_fill_53178 17 = .ok (.goto (-12), 3) := by decide +kernel
theorem dJ7_fill_53178_20 : decode cJ7_fill_53178 20 = .ok (.return_, 1) := by decide +kernel
