theorem dL_cell_0 : decode cL_cell 0 = .ok (.iload_n 1, 1) := by decide +kernel
theorem dL_cell_1 : decode cL_cell 1 = .ok (.aload_n 0, 1) := by decide +kernel
theorem dL_cell_2 : decode cL_cell 2 = .ok (.arraylength, 1) := by decide +kernel
theorem dL_cell_3 : decode cL_cell 3 = .ok (.if_icmp .ge 9, 3) := by decide +kernel
theorem dL_cell_6 : decode cL_cell 6 = .ok (.aload_n 0, 1) := by decide +kernel
theorem dL_cell_7 : decode cL_cell 7 = .ok (.iload_n 1, 1) := by decide +kernel
theorem dL_cell_8 : decode cL_cell 8 = .ok (.iaload, 1) := by decide +kernel
theorem dL_cell_9 : decode cL_cell 9 = .ok (.goto 16, 3) := by decide +kernel
theorem dL_cell_12 : decode cL_cell 12 = .ok (.sipush 7919, 3) := by decide +kernel
theorem dL_cell_15 : decode cL_cell 15 = .ok (.iload_n 1, 1) := by decide +kernel
theorem dL_cell_16 : decode cL_cell 16 = .ok (.bipush 43, 2) := by decide +kernel
theorem dL_cell_18 : decode cL_cell 18 = .ok (.iadd, 1) := by decide +kernel
theorem dL_cell_19 : decode cL_cell 19 = .ok (.imul, 1) := by decide +kernel
theorem dL_cell_20 : decode cL_cell 20 = .ok (.iload_n 1, 1) := by decide +kernel
theorem dL_cell_21 : decode cL_cell 21 = .ok (.bipush 73, 2) := by decide +kernel
theorem dL_cell_23 : decode cL_cell 23 = .ok (.iadd, 1) := by decide +kernel
theorem dL_cell_24 : decode cL_cell 24 = .ok (.imul, 1) := by decide +kernel
theorem dL_cell_25 : decode cL_cell 25 = .ok (.ireturn, 1) := by decide +kernel
theorem dL_low_0 : decode cL_low 0 = .ok (.iload_n 0, 1) := by decide +kernel
theorem dL_low_1 : decode cL_low 1 = .ok (.ldc 7, 2) := by decide +kernel
theorem dL_low_3 : decode cL_low 3 = .ok (.iand, 1) := by decide +kernel
theorem dL_low_4 : decode cL_low 4 = .ok (.iload_n 1, 1) := by decide +kernel
theorem dL_low_5 : decode cL_low 5 = .ok (.irem, 1) := by decide +kernel
theorem dL_low_6 : decode cL_low 6 = .ok (.ireturn, 1) := by decide +kernel
theorem dL_all_0 : decode cL_all 0 = .ok (.ldc2_w 8, 3) := by decide +kernel
theorem dL_all_3 : decode cL_all 3 = .ok (.lstore_n 1, 1) := by decide +kernel
theorem dL_all_4 : decode cL_all 4 = .ok (.iconst 0, 1) := by decide +kernel
theorem dL_all_5 : decode cL_all 5 = .ok (.istore_n 3, 1) := by decide +kernel
theorem dL_all_6 : decode cL_all 6 = .ok (.iload_n 3, 1) := by decide +kernel
theorem dL_all_7 : decode cL_all 7 = .ok (.bipush 8, 2) := by decide +kernel
theorem dL_all_9 : decode cL_all 9 = .ok (.if_icmp .ge 22, 3) := by decide +kernel
theorem dL_all_12 : decode cL_all 12 = .ok (.ldc2_w 10, 3) := by decide +kernel
theorem dL_all_15 : decode cL_all 15 = .ok (.lload_n 1, 1) := by decide +kernel
theorem dL_all_16 : decode cL_all 16 = .ok (.lmul, 1) := by decide +kernel
theorem dL_all_17 : decode cL_all 17 = .ok (.aload_n 0, 1) := by decide +kernel
theorem dL_all_18 : decode cL_all 18 = .ok (.iload_n 3, 1) := by decide +kernel
theorem dL_all_19 : decode cL_all 19 = .ok (.invokevirtual 12, 3) := by decide +kernel
theorem dL_all_22 : decode cL_all 22 = .ok (.i2l, 1) := by decide +kernel
theorem dL_all_23 : decode cL_all 23 = .ok (.ladd, 1) := by decide +kernel
theorem dL_all_24 : decode cL_all 24 = .ok (.lstore_n 1, 1) := by decide +kernel
theorem dL_all_25 : decode cL_all 25 = .ok (.iinc 3 1, 3) := by decide +kernel
theorem dL_all_28 : decode cL_all 28 = .ok (.goto (-22), 3) := by decide +kernel
theorem dL_all_31 : decode cL_all 31 = .ok (.iconst 0, 1) := by decide +kernel
theorem dL_all_32 : decode cL_all 32 = .ok (.istore_n 3, 1) := by decide +kernel
theorem dL_all_33 : decode cL_all 33 = .ok (.iload_n 3, 1) := by decide +kernel
theorem dL_all_34 : decode cL_all 34 = .ok (.aload_n 0, 1) := by decide +kernel
theorem dL_all_35 : decode cL_all 35 = .ok (.iconst 1, 1) := by decide +kernel
theorem dL_all_36 : decode cL_all 36 = .ok (.invokevirtual 12, 3) := by decide +kernel
theorem dL_all_39 : decode cL_all 39 = .ok (.if_icmp .ge 64, 3) := by decide +kernel
theorem dL_all_42 : decode cL_all 42 = .ok (.iconst 0, 1) := by decide +kernel
theorem dL_all_43 : decode cL_all 43 = .ok (.istore 4, 2) := by decide +kernel
theorem dL_all_45 : decode cL_all 45 = .ok (.iload 4, 2) := by decide +kernel
theorem dL_all_47 : decode cL_all 47 = .ok (.bipush 10, 2) := by decide +kernel
theorem dL_all_49 : decode cL_all 49 = .ok (.if_icmp .ge 24, 3) := by decide +kernel
theorem dL_all_52 : decode cL_all 52 = .ok (.ldc2_w 10, 3) := by decide +kernel
theorem dL_all_55 : decode cL_all 55 = .ok (.lload_n 1, 1) := by decide +kernel
theorem dL_all_56 : decode cL_all 56 = .ok (.lmul, 1) := by decide +kernel
theorem dL_all_57 : decode cL_all 57 = .ok (.aload_n 0, 1) := by decide +kernel
theorem dL_all_58 : decode cL_all 58 = .ok (.iload_n 3, 1) := by decide +kernel
theorem dL_all_59 : decode cL_all 59 = .ok (.iload 4, 2) := by decide +kernel
theorem dL_all_61 : decode cL_all 61 = .ok (.invokevirtual 18, 3) := by decide +kernel
theorem dL_all_64 : decode cL_all 64 = .ok (.i2l, 1) := by decide +kernel
theorem dL_all_65 : decode cL_all 65 = .ok (.ladd, 1) := by decide +kernel
theorem dL_all_66 : decode cL_all 66 = .ok (.lstore_n 1, 1) := by decide +kernel
theorem dL_all_67 : decode cL_all 67 = .ok (.iinc 4 1, 3) := by decide +kernel
theorem dL_all_70 : decode cL_all 70 = .ok (.goto (-25), 3) := by decide +kernel
theorem dL_all_73 : decode cL_all 73 = .ok (.ldc2_w 10, 3) := by decide +kernel
theorem dL_all_76 : decode cL_all 76 = .ok (.lload_n 1, 1) := by decide +kernel
theorem dL_all_77 : decode cL_all 77 = .ok (.lmul, 1) := by decide +kernel
theorem dL_all_78 : decode cL_all 78 = .ok (.aload_n 0, 1) := by decide +kernel
theorem dL_all_79 : decode cL_all 79 = .ok (.iload_n 3, 1) := by decide +kernel
theorem dL_all_80 : decode cL_all 80 = .ok (.invokevirtual 22, 3) := by decide +kernel
theorem dL_all_83 : decode cL_all 83 = .ok (.i2l, 1) := by decide +kernel
theorem dL_all_84 : decode cL_all 84 = .ok (.ladd, 1) := by decide +kernel
theorem dL_all_85 : decode cL_all 85 = .ok (.ldc2_w 25, 3) := by decide +kernel
theorem dL_all_88 : decode cL_all 88 = .ok (.aload_n 0, 1) := by decide +kernel
theorem dL_all_89 : decode cL_all 89 = .ok (.iload_n 3, 1) := by decide +kernel
theorem dL_all_90 : decode cL_all 90 = .ok (.invokevirtual 27, 3) := by decide +kernel
theorem dL_all_93 : decode cL_all 93 = .ok (.i2l, 1) := by decide +kernel
theorem dL_all_94 : decode cL_all 94 = .ok (.lmul, 1) := by decide +kernel
theorem dL_all_95 : decode cL_all 95 = .ok (.ladd, 1) := by decide +kernel
theorem dL_all_96 : decode cL_all 96 = .ok (.lstore_n 1, 1) := by decide +kernel
theorem dL_all_97 : decode cL_all 97 = .ok (.iinc 3 1, 3) := by decide +kernel
theorem dL_all_100 : decode cL_all 100 = .ok (.goto (-67), 3) := by decide +kernel
theorem dL_all_103 : decode cL_all 103 = .ok (.lload_n 1, 1) := by decide +kernel
theorem dL_all_104 : decode cL_all 104 = .ok (.lreturn, 1) := by decide +kernel
theorem dL_is_0 : decode cL_is 0 = .ok (.aload_n 0, 1) := by decide +kernel
theorem dL_is_1 : decode cL_is 1 = .ok (.iload_n 1, 1) := by decide +kernel
theorem dL_is_2 : decode cL_is 2 = .ok (.iconst 1, 1) := by decide +kernel
theorem dL_is_3 : decode cL_is 3 = .ok (.invokevirtual 18, 3) := by decide +kernel
theorem dL_is_6 : decode cL_is 6 = .ok (.ifCond .lt 7, 3) := by decide +kernel
theorem dL_is_9 : decode cL_is 9 = .ok (.iconst 1, 1) := by decide +kernel
theorem dL_is_10 : decode cL_is 10 = .ok (.goto 4, 3) := by decide +kernel
theorem dL_is_13 : decode cL_is 13 = .ok (.iconst 0, 1) := by decide +kernel
theorem dL_is_14 : decode cL_is 14 = .ok (.ireturn, 1) := by decide +kernel
theorem dL_isSound_0 : decode cL_isSound 0 = .ok (.iconst 0, 1) := by decide +kernel
theorem dL_isSound_1 : decode cL_isSound 1 = .ok (.istore_n 1, 1) := by decide +kernel
theorem dL_isSound_2 : decode cL_isSound 2 = .ok (.iconst 0, 1) := by decide +kernel
theorem dL_isSound_3 : decode cL_isSound 3 = .ok (.istore_n 2, 1) := by decide +kernel
theorem dL_isSound_4 : decode cL_isSound 4 = .ok (.iconst 0, 1) := by decide +kernel
theorem dL_isSound_5 : decode cL_isSound 5 = .ok (.istore_n 3, 1) := by decide +kernel
theorem dL_isSound_6 : decode cL_isSound 6 = .ok (.iconst 0, 1) := by decide +kernel
theorem dL_isSound_7 : decode cL_isSound 7 = .ok (.istore 4, 2) := by decide +kernel
theorem dL_isSound_9 : decode cL_isSound 9 = .ok (.iconst 0, 1) := by decide +kernel
theorem dL_isSound_10 : decode cL_isSound 10 = .ok (.istore 5, 2) := by decide +kernel
theorem dL_isSound_12 : decode cL_isSound 12 = .ok (.iconst 0, 1) := by decide +kernel
theorem dL_isSound_13 : decode cL_isSound 13 = .ok (.istore 6, 2) := by decide +kernel
theorem dL_isSound_15 : decode cL_isSound 15 = .ok (.iload 6, 2) := by decide +kernel
theorem dL_isSound_17 : decode cL_isSound 17 = .ok (.aload_n 0, 1) := by decide +kernel
theorem dL_isSound_18 : decode cL_isSound 18 = .ok (.iconst 1, 1) := by decide +kernel
theorem dL_isSound_19 : decode cL_isSound 19 = .ok (.invokevirtual 12, 3) := by decide +kernel
theorem dL_isSound_22 : decode cL_isSound 22 = .ok (.if_icmp .ge 528, 3) := by decide +kernel
theorem dL_isSound_25 : decode cL_isSound 25 = .ok (.aload_n 0, 1) := by decide +kernel
theorem dL_isSound_26 : decode cL_isSound 26 = .ok (.iload 6, 2) := by decide +kernel
theorem dL_isSound_28 : decode cL_isSound 28 = .ok (.invokestatic 30, 3) := by decide +kernel
theorem dL_isSound_31 : decode cL_isSound 31 = .ok (.ifCond .eq 479, 3) := by decide +kernel
theorem dL_isSound_34 : decode cL_isSound 34 = .ok (.aload_n 0, 1) := by decide +kernel
theorem dL_isSound_35 : decode cL_isSound 35 = .ok (.iload 6, 2) := by decide +kernel
theorem dL_isSound_37 : decode cL_isSound 37 = .ok (.iconst 0, 1) := by decide +kernel
theorem dL_isSound_38 : decode cL_isSound 38 = .ok (.invokevirtual 18, 3) := by decide +kernel
theorem dL_isSound_41 : decode cL_isSound 41 = .ok (.istore 7, 2) := by decide +kernel
theorem dL_isSound_43 : decode cL_isSound 43 = .ok (.iconst 0, 1) := by decide +kernel
theorem dL_isSound_44 : decode cL_isSound 44 = .ok (.istore 8, 2) := by decide +kernel
theorem dL_isSound_46 : decode cL_isSound 46 = .ok (.iconst 1, 1) := by decide +kernel
theorem dL_isSound_47 : decode cL_isSound 47 = .ok (.istore 9, 2) := by decide +kernel
theorem dL_isSound_49 : decode cL_isSound 49 = .ok (.iconst 0, 1) := by decide +kernel
theorem dL_isSound_50 : decode cL_isSound 50 = .ok (.istore 10, 2) := by decide +kernel
theorem dL_isSound_52 : decode cL_isSound 52 = .ok (.iinc 1 1, 3) := by decide +kernel
theorem dL_isSound_55 : decode cL_isSound 55 = .ok (.aload_n 0, 1) := by decide +kernel
theorem dL_isSound_56 : decode cL_isSound 56 = .ok (.iload 6, 2) := by decide +kernel
theorem dL_isSound_58 : decode cL_isSound 58 = .ok (.iconst 1, 1) := by decide +kernel
theorem dL_isSound_59 : decode cL_isSound 59 = .ok (.invokevirtual 18, 3) := by decide +kernel
theorem dL_isSound_62 : decode cL_isSound 62 = .ok (.iload 5, 2) := by decide +kernel
theorem dL_isSound_64 : decode cL_isSound 64 = .ok (.if_icmp .le 13, 3) := by decide +kernel
theorem dL_isSound_67 : decode cL_isSound 67 = .ok (.aload_n 0, 1) := by decide +kernel
theorem dL_isSound_68 : decode cL_isSound 68 = .ok (.iload 6, 2) := by decide +kernel
theorem dL_isSound_70 : decode cL_isSound 70 = .ok (.iconst 1, 1) := by decide +kernel
theorem dL_isSound_71 : decode cL_isSound 71 = .ok (.invokevirtual 18, 3) := by decide +kernel
theorem dL_isSound_74 : decode cL_isSound 74 = .ok (.goto 5, 3) := by decide +kernel
theorem dL_isSound_77 : decode cL_isSound 77 = .ok (.iload 5, 2) := by decide +kernel
theorem dL_isSound_79 : decode cL_isSound 79 = .ok (.istore 5, 2) := by decide +kernel
theorem dL_isSound_81 : decode cL_isSound 81 = .ok (.iconst 1, 1) := by decide +kernel
theorem dL_isSound_82 : decode cL_isSound 82 = .ok (.istore 11, 2) := by decide +kernel
theorem dL_isSound_84 : decode cL_isSound 84 = .ok (.iload 11, 2) := by decide +kernel
theorem dL_isSound_86 : decode cL_isSound 86 = .ok (.aload_n 0, 1) := by decide +kernel
theorem dL_isSound_87 : decode cL_isSound 87 = .ok (.iconst 1, 1) := by decide +kernel
theorem dL_isSound_88 : decode cL_isSound 88 = .ok (.invokevirtual 12, 3) := by decide +kernel
theorem dL_isSound_91 : decode cL_isSound 91 = .ok (.if_icmp .ge 108, 3) := by decide +kernel
theorem dL_isSound_94 : decode cL_isSound 94 = .ok (.aload_n 0, 1) := by decide +kernel
theorem dL_isSound_95 : decode cL_isSound 95 = .ok (.iload 11, 2) := by decide +kernel
theorem dL_isSound_97 : decode cL_isSound 97 = .ok (.invokestatic 30, 3) := by decide +kernel
theorem dL_isSound_100 : decode cL_isSound 100 = .ok (.ifCond .eq 19, 3) := by decide +kernel
theorem dL_isSound_103 : decode cL_isSound 103 = .ok (.aload_n 0, 1) := by decide +kernel
theorem dL_isSound_104 : decode cL_isSound 104 = .ok (.iload 11, 2) := by decide +kernel
theorem dL_isSound_106 : decode cL_isSound 106 = .ok (.iconst 0, 1) := by decide +kernel
theorem dL_isSound_107 : decode cL_isSound 107 = .ok (.invokevirtual 18, 3) := by decide +kernel
theorem dL_isSound_110 : decode cL_isSound 110 = .ok (.iload 6, 2) := by decide +kernel
theorem dL_isSound_112 : decode cL_isSound 112 = .ok (.if_icmp .ne 7, 3) := by decide +kernel
theorem dL_isSound_115 : decode cL_isSound 115 = .ok (.iconst 1, 1) := by decide +kernel
theorem dL_isSound_116 : decode cL_isSound 116 = .ok (.goto 4, 3) := by decide +kernel
theorem dL_isSound_119 : decode cL_isSound 119 = .ok (.iconst 0, 1) := by decide +kernel
theorem dL_isSound_120 : decode cL_isSound 120 = .ok (.istore 12, 2) := by decide +kernel
theorem dL_isSound_122 : decode cL_isSound 122 = .ok (.iload 8, 2) := by decide +kernel
theorem dL_isSound_124 : decode cL_isSound 124 = .ok (.iload 12, 2) := by decide +kernel
theorem dL_isSound_126 : decode cL_isSound 126 = .ok (.ifCond .eq 7, 3) := by decide +kernel
theorem dL_isSound_129 : decode cL_isSound 129 = .ok (.iconst 1, 1) := by decide +kernel
theorem dL_isSound_130 : decode cL_isSound 130 = .ok (.goto 4, 3) := by decide +kernel
theorem dL_isSound_133 : decode cL_isSound 133 = .ok (.iconst 0, 1) := by decide +kernel
theorem dL_isSound_134 : decode cL_isSound 134 = .ok (.iadd, 1) := by decide +kernel
theorem dL_isSound_135 : decode cL_isSound 135 = .ok (.istore 8, 2) := by decide +kernel
theorem dL_isSound_137 : decode cL_isSound 137 = .ok (.iload 9, 2) := by decide +kernel
theorem dL_isSound_139 : decode cL_isSound 139 = .ok (.iload 12, 2) := by decide +kernel
theorem dL_isSound_141 : decode cL_isSound 141 = .ok (.ifCond .eq 13, 3) := by decide +kernel
theorem dL_isSound_144 : decode cL_isSound 144 = .ok (.aload_n 0, 1) := by decide +kernel
theorem dL_isSound_145 : decode cL_isSound 145 = .ok (.iload 11, 2) := by decide +kernel
theorem dL_isSound_147 : decode cL_isSound 147 = .ok (.iconst 4, 1) := by decide +kernel
theorem dL_isSound_148 : decode cL_isSound 148 = .ok (.invokevirtual 18, 3) := by decide +kernel
theorem dL_isSound_151 : decode cL_isSound 151 = .ok (.goto 4, 3) := by decide +kernel
theorem dL_isSound_154 : decode cL_isSound 154 = .ok (.iconst 0, 1) := by decide +kernel
theorem dL_isSound_155 : decode cL_isSound 155 = .ok (.iadd, 1) := by decide +kernel
theorem dL_isSound_156 : decode cL_isSound 156 = .ok (.istore 9, 2) := by decide +kernel
theorem dL_isSound_158 : decode cL_isSound 158 = .ok (.iload 12, 2) := by decide +kernel
theorem dL_isSound_160 : decode cL_isSound 160 = .ok (.ifCond .eq 29, 3) := by decide +kernel
theorem dL_isSound_163 : decode cL_isSound 163 = .ok (.aload_n 0, 1) := by decide +kernel
theorem dL_isSound_164 : decode cL_isSound 164 = .ok (.iload 11, 2) := by decide +kernel
theorem dL_isSound_166 : decode cL_isSound 166 = .ok (.iconst 2, 1) := by decide +kernel
theorem dL_isSound_167 : decode cL_isSound 167 = .ok (.invokevirtual 18, 3) := by decide +kernel
theorem dL_isSound_170 : decode cL_isSound 170 = .ok (.iconst 1, 1) := by decide +kernel
theorem dL_isSound_171 : decode cL_isSound 171 = .ok (.iadd, 1) := by decide +kernel
theorem dL_isSound_172 : decode cL_isSound 172 = .ok (.iload 10, 2) := by decide +kernel
theorem dL_isSound_174 : decode cL_isSound 174 = .ok (.if_icmp .le 15, 3) := by decide +kernel
theorem dL_isSound_177 : decode cL_isSound 177 = .ok (.aload_n 0, 1) := by decide +kernel
theorem dL_isSound_178 : decode cL_isSound 178 = .ok (.iload 11, 2) := by decide +kernel
theorem dL_isSound_180 : decode cL_isSound 180 = .ok (.iconst 2, 1) := by decide +kernel
theorem dL_isSound_181 : decode cL_isSound 181 = .ok (.invokevirtual 18, 3) := by decide +kernel
theorem dL_isSound_184 : decode cL_isSound 184 = .ok (.iconst 1, 1) := by decide +kernel
theorem dL_isSound_185 : decode cL_isSound 185 = .ok (.iadd, 1) := by decide +kernel
theorem dL_isSound_186 : decode cL_isSound 186 = .ok (.goto 5, 3) := by decide +kernel
theorem dL_isSound_189 : decode cL_isSound 189 = .ok (.iload 10, 2) := by decide +kernel
theorem dL_isSound_191 : decode cL_isSound 191 = .ok (.istore 10, 2) := by decide +kernel
theorem dL_isSound_193 : decode cL_isSound 193 = .ok (.iinc 11 1, 3) := by decide +kernel
theorem dL_isSound_196 : decode cL_isSound 196 = .ok (.goto (-112), 3) := by decide +kernel
theorem dL_isSound_199 : decode cL_isSound 199 = .ok (.iload 8, 2) := by decide +kernel
theorem dL_isSound_201 : decode cL_isSound 201 = .ok (.aload_n 0, 1) := by decide +kernel
theorem dL_isSound_202 : decode cL_isSound 202 = .ok (.iload 6, 2) := by decide +kernel
theorem dL_isSound_204 : decode cL_isSound 204 = .ok (.iconst 3, 1) := by decide +kernel
theorem dL_isSound_205 : decode cL_isSound 205 = .ok (.invokevirtual 18, 3) := by decide +kernel
theorem dL_isSound_208 : decode cL_isSound 208 = .ok (.if_icmp .ne 80, 3) := by decide +kernel
theorem dL_isSound_211 : decode cL_isSound 211 = .ok (.iload 9, 2) := by decide +kernel
theorem dL_isSound_213 : decode cL_isSound 213 = .ok (.aload_n 0, 1) := by decide +kernel
theorem dL_isSound_214 : decode cL_isSound 214 = .ok (.iload 6, 2) := by decide +kernel
theorem dL_isSound_216 : decode cL_isSound 216 = .ok (.iconst 4, 1) := by decide +kernel
theorem dL_isSound_217 : decode cL_isSound 217 = .ok (.invokevirtual 18, 3) := by decide +kernel
theorem dL_isSound_220 : decode cL_isSound 220 = .ok (.if_icmp .ne 68, 3) := by decide +kernel
theorem dL_isSound_223 : decode cL_isSound 223 = .ok (.iload 10, 2) := by decide +kernel
theorem dL_isSound_225 : decode cL_isSound 225 = .ok (.aload_n 0, 1) := by decide +kernel
theorem dL_isSound_226 : decode cL_isSound 226 = .ok (.iload 6, 2) := by decide +kernel
theorem dL_isSound_228 : decode cL_isSound 228 = .ok (.iconst 2, 1) := by decide +kernel
theorem dL_isSound_229 : decode cL_isSound 229 = .ok (.invokevirtual 18, 3) := by decide +kernel
theorem dL_isSound_232 : decode cL_isSound 232 = .ok (.if_icmp .ne 56, 3) := by decide +kernel
theorem dL_isSound_235 : decode cL_isSound 235 = .ok (.aload_n 0, 1) := by decide +kernel
theorem dL_isSound_236 : decode cL_isSound 236 = .ok (.iload 6, 2) := by decide +kernel
theorem dL_isSound_238 : decode cL_isSound 238 = .ok (.iconst 1, 1) := by decide +kernel
theorem dL_isSound_239 : decode cL_isSound 239 = .ok (.invokevirtual 18, 3) := by decide +kernel
theorem dL_isSound_242 : decode cL_isSound 242 = .ok (.iload 7, 2) := by decide +kernel
theorem dL_isSound_244 : decode cL_isSound 244 = .ok (.ifCond .ge 7, 3) := by decide +kernel
theorem dL_isSound_247 : decode cL_isSound 247 = .ok (.iconst 0, 1) := by decide +kernel
theorem dL_isSound_248 : decode cL_isSound 248 = .ok (.goto 12, 3) := by decide +kernel
theorem dL_isSound_251 : decode cL_isSound 251 = .ok (.aload_n 0, 1) := by decide +kernel
theorem dL_isSound_252 : decode cL_isSound 252 = .ok (.iload 7, 2) := by decide +kernel
theorem dL_isSound_254 : decode cL_isSound 254 = .ok (.iconst 1, 1) := by decide +kernel
theorem dL_isSound_255 : decode cL_isSound 255 = .ok (.invokevirtual 18, 3) := by decide +kernel
theorem dL_isSound_258 : decode cL_isSound 258 = .ok (.iconst 1, 1) := by decide +kernel
theorem dL_isSound_259 : decode cL_isSound 259 = .ok (.iadd, 1) := by decide +kernel
theorem dL_isSound_260 : decode cL_isSound 260 = .ok (.if_icmp .ne 28, 3) := by decide +kernel
theorem dL_isSound_263 : decode cL_isSound 263 = .ok (.iload 6, 2) := by decide +kernel
theorem dL_isSound_265 : decode cL_isSound 265 = .ok (.ifCond .ne 7, 3) := by decide +kernel
theorem dL_isSound_268 : decode cL_isSound 268 = .ok (.iconst 1, 1) := by decide +kernel
theorem dL_isSound_269 : decode cL_isSound 269 = .ok (.goto 4, 3) := by decide +kernel
theorem dL_isSound_272 : decode cL_isSound 272 = .ok (.iconst 0, 1) := by decide +kernel
theorem dL_isSound_273 : decode cL_isSound 273 = .ok (.iload 7, 2) := by decide +kernel
theorem dL_isSound_275 : decode cL_isSound 275 = .ok (.bipush (-5), 2) := by decide +kernel
theorem dL_isSound_277 : decode cL_isSound 277 = .ok (.if_icmp .ne 7, 3) := by decide +kernel
theorem dL_isSound_280 : decode cL_isSound 280 = .ok (.iconst 1, 1) := by decide +kernel
theorem dL_isSound_281 : decode cL_isSound 281 = .ok (.goto 4, 3) := by decide +kernel
theorem dL_isSound_284 : decode cL_isSound 284 = .ok (.iconst 0, 1) := by decide +kernel
theorem dL_isSound_285 : decode cL_isSound 285 = .ok (.if_icmp .eq 5, 3) := by decide +kernel
theorem dL_isSound_288 : decode cL_isSound 288 = .ok (.iconst 0, 1) := by decide +kernel
theorem dL_isSound_289 : decode cL_isSound 289 = .ok (.ireturn, 1) := by decide +kernel
theorem dL_isSound_290 : decode cL_isSound 290 = .ok (.aload_n 0, 1) := by decide +kernel
theorem dL_isSound_291 : decode cL_isSound 291 = .ok (.iload 6, 2) := by decide +kernel
theorem dL_isSound_293 : decode cL_isSound 293 = .ok (.iconst 5, 1) := by decide +kernel
theorem dL_isSound_294 : decode cL_isSound 294 = .ok (.invokevirtual 18, 3) := by decide +kernel
theorem dL_isSound_297 : decode cL_isSound 297 = .ok (.istore 11, 2) := by decide +kernel
theorem dL_isSound_299 : decode cL_isSound 299 = .ok (.iload 8, 2) := by decide +kernel
theorem dL_isSound_301 : decode cL_isSound 301 = .ok (.ifCond .ne 13, 3) := by decide +kernel
theorem dL_isSound_304 : decode cL_isSound 304 = .ok (.iload 11, 2) := by decide +kernel
theorem dL_isSound_306 : decode cL_isSound 306 = .ok (.bipush (-5), 2) := by decide +kernel
theorem dL_isSound_308 : decode cL_isSound 308 = .ok (.if_icmp .eq 72, 3) := by decide +kernel
theorem dL_isSound_311 : decode cL_isSound 311 = .ok (.goto 67, 3) := by decide +kernel
theorem dL_isSound_314 : decode cL_isSound 314 = .ok (.aload_n 0, 1) := by decide +kernel
theorem dL_isSound_315 : decode cL_isSound 315 = .ok (.iload 11, 2) := by decide +kernel
theorem dL_isSound_317 : decode cL_isSound 317 = .ok (.iconst 0, 1) := by decide +kernel
theorem dL_isSound_318 : decode cL_isSound 318 = .ok (.invokevirtual 18, 3) := by decide +kernel
theorem dL_isSound_321 : decode cL_isSound 321 = .ok (.iload 6, 2) := by decide +kernel
theorem dL_isSound_323 : decode cL_isSound 323 = .ok (.if_icmp .ne 55, 3) := by decide +kernel
theorem dL_isSound_326 : decode cL_isSound 326 = .ok (.aload_n 0, 1) := by decide +kernel
theorem dL_isSound_327 : decode cL_isSound 327 = .ok (.iload 11, 2) := by decide +kernel
theorem dL_isSound_329 : decode cL_isSound 329 = .ok (.iconst 2, 1) := by decide +kernel
theorem dL_isSound_330 : decode cL_isSound 330 = .ok (.invokevirtual 18, 3) := by decide +kernel
theorem dL_isSound_333 : decode cL_isSound 333 = .ok (.iload 10, 2) := by decide +kernel
theorem dL_isSound_335 : decode cL_isSound 335 = .ok (.iconst 1, 1) := by decide +kernel
theorem dL_isSound_336 : decode cL_isSound 336 = .ok (.isub, 1) := by decide +kernel
theorem dL_isSound_337 : decode cL_isSound 337 = .ok (.if_icmp .ne 41, 3) := by decide +kernel
theorem dL_isSound_340 : decode cL_isSound 340 = .ok (.aload_n 0, 1) := by decide +kernel
theorem dL_isSound_341 : decode cL_isSound 341 = .ok (.iload 11, 2) := by decide +kernel
theorem dL_isSound_343 : decode cL_isSound 343 = .ok (.bipush 6, 2) := by decide +kernel
theorem dL_isSound_345 : decode cL_isSound 345 = .ok (.invokevirtual 18, 3) := by decide +kernel
theorem dL_isSound_348 : decode cL_isSound 348 = .ok (.aload_n 0, 1) := by decide +kernel
theorem dL_isSound_349 : decode cL_isSound 349 = .ok (.iload 6, 2) := by decide +kernel
theorem dL_isSound_351 : decode cL_isSound 351 = .ok (.bipush 6, 2) := by decide +kernel
theorem dL_isSound_353 : decode cL_isSound 353 = .ok (.invokevirtual 18, 3) := by decide +kernel
theorem dL_isSound_356 : decode cL_isSound 356 = .ok (.if_icmp .ne 22, 3) := by decide +kernel
theorem dL_isSound_359 : decode cL_isSound 359 = .ok (.aload_n 0, 1) := by decide +kernel
theorem dL_isSound_360 : decode cL_isSound 360 = .ok (.iload 11, 2) := by decide +kernel
theorem dL_isSound_362 : decode cL_isSound 362 = .ok (.bipush 7, 2) := by decide +kernel
theorem dL_isSound_364 : decode cL_isSound 364 = .ok (.invokevirtual 18, 3) := by decide +kernel
theorem dL_isSound_367 : decode cL_isSound 367 = .ok (.aload_n 0, 1) := by decide +kernel
theorem dL_isSound_368 : decode cL_isSound 368 = .ok (.iload 6, 2) := by decide +kernel
theorem dL_isSound_370 : decode cL_isSound 370 = .ok (.bipush 7, 2) := by decide +kernel
theorem dL_isSound_372 : decode cL_isSound 372 = .ok (.invokevirtual 18, 3) := by decide +kernel
theorem dL_isSound_375 : decode cL_isSound 375 = .ok (.if_icmp .eq 5, 3) := by decide +kernel
theorem dL_isSound_378 : decode cL_isSound 378 = .ok (.iconst 0, 1) := by decide +kernel
theorem dL_isSound_379 : decode cL_isSound 379 = .ok (.ireturn, 1) := by decide +kernel
theorem dL_isSound_380 : decode cL_isSound 380 = .ok (.iload_n 2, 1) := by decide +kernel
theorem dL_isSound_381 : decode cL_isSound 381 = .ok (.iload 8, 2) := by decide +kernel
theorem dL_isSound_383 : decode cL_isSound 383 = .ok (.ifCond .ne 7, 3) := by decide +kernel
theorem dL_isSound_386 : decode cL_isSound 386 = .ok (.iconst 1, 1) := by decide +kernel
theorem dL_isSound_387 : decode cL_isSound 387 = .ok (.goto 4, 3) := by decide +kernel
theorem dL_isSound_390 : decode cL_isSound 390 = .ok (.iconst 0, 1) := by decide +kernel
theorem dL_isSound_391 : decode cL_isSound 391 = .ok (.iadd, 1) := by decide +kernel
theorem dL_isSound_392 : decode cL_isSound 392 = .ok (.istore_n 2, 1) := by decide +kernel
theorem dL_isSound_393 : decode cL_isSound 393 = .ok (.iload_n 3, 1) := by decide +kernel
theorem dL_isSound_394 : decode cL_isSound 394 = .ok (.iload 8, 2) := by decide +kernel
theorem dL_isSound_396 : decode cL_isSound 396 = .ok (.ifCond .ne 14, 3) := by decide +kernel
theorem dL_isSound_399 : decode cL_isSound 399 = .ok (.aload_n 0, 1) := by decide +kernel
theorem dL_isSound_400 : decode cL_isSound 400 = .ok (.iload 6, 2) := by decide +kernel
theorem dL_isSound_402 : decode cL_isSound 402 = .ok (.bipush 9, 2) := by decide +kernel
theorem dL_isSound_404 : decode cL_isSound 404 = .ok (.invokevirtual 18, 3) := by decide +kernel
theorem dL_isSound_407 : decode cL_isSound 407 = .ok (.goto 4, 3) := by decide +kernel
theorem dL_isSound_410 : decode cL_isSound 410 = .ok (.iconst 0, 1) := by decide +kernel
theorem dL_isSound_411 : decode cL_isSound 411 = .ok (.iadd, 1) := by decide +kernel
theorem dL_isSound_412 : decode cL_isSound 412 = .ok (.istore_n 3, 1) := by decide +kernel
theorem dL_isSound_413 : decode cL_isSound 413 = .ok (.iload 4, 2) := by decide +kernel
theorem dL_isSound_415 : decode cL_isSound 415 = .ok (.iload 8, 2) := by decide +kernel
theorem dL_isSound_417 : decode cL_isSound 417 = .ok (.ifCond .ne 14, 3) := by decide +kernel
theorem dL_isSound_420 : decode cL_isSound 420 = .ok (.aload_n 0, 1) := by decide +kernel
theorem dL_isSound_421 : decode cL_isSound 421 = .ok (.iload 6, 2) := by decide +kernel
theorem dL_isSound_423 : decode cL_isSound 423 = .ok (.bipush 8, 2) := by decide +kernel
theorem dL_isSound_425 : decode cL_isSound 425 = .ok (.invokevirtual 18, 3) := by decide +kernel
theorem dL_isSound_428 : decode cL_isSound 428 = .ok (.goto 4, 3) := by decide +kernel
theorem dL_isSound_431 : decode cL_isSound 431 = .ok (.iconst 0, 1) := by decide +kernel
theorem dL_isSound_432 : decode cL_isSound 432 = .ok (.iadd, 1) := by decide +kernel
theorem dL_isSound_433 : decode cL_isSound 433 = .ok (.istore 4, 2) := by decide +kernel
theorem dL_isSound_435 : decode cL_isSound 435 = .ok (.aload_n 0, 1) := by decide +kernel
theorem dL_isSound_436 : decode cL_isSound 436 = .ok (.iload 6, 2) := by decide +kernel
theorem dL_isSound_438 : decode cL_isSound 438 = .ok (.invokevirtual 22, 3) := by decide +kernel
theorem dL_isSound_441 : decode cL_isSound 441 = .ok (.istore 12, 2) := by decide +kernel
theorem dL_isSound_443 : decode cL_isSound 443 = .ok (.iload 12, 2) := by decide +kernel
theorem dL_isSound_445 : decode cL_isSound 445 = .ok (.bipush (-5), 2) := by decide +kernel
theorem dL_isSound_447 : decode cL_isSound 447 = .ok (.if_icmp .ne 7, 3) := by decide +kernel
theorem dL_isSound_450 : decode cL_isSound 450 = .ok (.iconst 1, 1) := by decide +kernel
theorem dL_isSound_451 : decode cL_isSound 451 = .ok (.goto 4, 3) := by decide +kernel
theorem dL_isSound_454 : decode cL_isSound 454 = .ok (.iconst 0, 1) := by decide +kernel
theorem dL_isSound_455 : decode cL_isSound 455 = .ok (.iload 9, 2) := by decide +kernel
theorem dL_isSound_457 : decode cL_isSound 457 = .ok (.bipush 15, 2) := by decide +kernel
theorem dL_isSound_459 : decode cL_isSound 459 = .ok (.if_icmp .le 7, 3) := by decide +kernel
theorem dL_isSound_462 : decode cL_isSound 462 = .ok (.iconst 1, 1) := by decide +kernel
theorem dL_isSound_463 : decode cL_isSound 463 = .ok (.goto 4, 3) := by decide +kernel
theorem dL_isSound_466 : decode cL_isSound 466 = .ok (.iconst 0, 1) := by decide +kernel
theorem dL_isSound_467 : decode cL_isSound 467 = .ok (.if_icmp .ne 38, 3) := by decide +kernel
theorem dL_isSound_470 : decode cL_isSound 470 = .ok (.iload 12, 2) := by decide +kernel
theorem dL_isSound_472 : decode cL_isSound 472 = .ok (.ifCond .le 35, 3) := by decide +kernel
theorem dL_isSound_475 : decode cL_isSound 475 = .ok (.iload 12, 2) := by decide +kernel
theorem dL_isSound_477 : decode cL_isSound 477 = .ok (.iconst 2, 1) := by decide +kernel
theorem dL_isSound_478 : decode cL_isSound 478 = .ok (.iload 9, 2) := by decide +kernel
theorem dL_isSound_480 : decode cL_isSound 480 = .ok (.imul, 1) := by decide +kernel
theorem dL_isSound_481 : decode cL_isSound 481 = .ok (.iconst 1, 1) := by decide +kernel
theorem dL_isSound_482 : decode cL_isSound 482 = .ok (.isub, 1) := by decide +kernel
theorem dL_isSound_483 : decode cL_isSound 483 = .ok (.ishr, 1) := by decide +kernel
theorem dL_isSound_484 : decode cL_isSound 484 = .ok (.iconst 1, 1) := by decide +kernel
theorem dL_isSound_485 : decode cL_isSound 485 = .ok (.if_icmp .ne 20, 3) := by decide +kernel
theorem dL_isSound_488 : decode cL_isSound 488 = .ok (.iload 12, 2) := by decide +kernel
theorem dL_isSound_490 : decode cL_isSound 490 = .ok (.iconst 1, 1) := by decide +kernel
theorem dL_isSound_491 : decode cL_isSound 491 = .ok (.iand, 1) := by decide +kernel
theorem dL_isSound_492 : decode cL_isSound 492 = .ok (.ifCond .ne 13, 3) := by decide +kernel
theorem dL_isSound_495 : decode cL_isSound 495 = .ok (.aload_n 0, 1) := by decide +kernel
theorem dL_isSound_496 : decode cL_isSound 496 = .ok (.iload 6, 2) := by decide +kernel
theorem dL_isSound_498 : decode cL_isSound 498 = .ok (.invokevirtual 36, 3) := by decide +kernel
theorem dL_isSound_501 : decode cL_isSound 501 = .ok (.iconst 1, 1) := by decide +kernel
theorem dL_isSound_502 : decode cL_isSound 502 = .ok (.if_icmp .ge 5, 3) := by decide +kernel
theorem dL_isSound_505 : decode cL_isSound 505 = .ok (.iconst 0, 1) := by decide +kernel
theorem dL_isSound_506 : decode cL_isSound 506 = .ok (.ireturn, 1) := by decide +kernel
theorem dL_isSound_507 : decode cL_isSound 507 = .ok (.goto 37, 3) := by decide +kernel
theorem dL_isSound_510 : decode cL_isSound 510 = .ok (.aload_n 0, 1) := by decide +kernel
theorem dL_isSound_511 : decode cL_isSound 511 = .ok (.iload 6, 2) := by decide +kernel
theorem dL_isSound_513 : decode cL_isSound 513 = .ok (.iconst 0, 1) := by decide +kernel
theorem dL_isSound_514 : decode cL_isSound 514 = .ok (.invokevirtual 39, 3) := by decide +kernel
theorem dL_isSound_517 : decode cL_isSound 517 = .ok (.iconst (-1), 1) := by decide +kernel
theorem dL_isSound_518 : decode cL_isSound 518 = .ok (.if_icmp .ne 24, 3) := by decide +kernel
theorem dL_isSound_521 : decode cL_isSound 521 = .ok (.aload_n 0, 1) := by decide +kernel
theorem dL_isSound_522 : decode cL_isSound 522 = .ok (.iconst 0, 1) := by decide +kernel
theorem dL_isSound_523 : decode cL_isSound 523 = .ok (.iload 6, 2) := by decide +kernel
theorem dL_isSound_525 : decode cL_isSound 525 = .ok (.invokevirtual 42, 3) := by decide +kernel
theorem dL_isSound_528 : decode cL_isSound 528 = .ok (.iconst (-1), 1) := by decide +kernel
theorem dL_isSound_529 : decode cL_isSound 529 = .ok (.if_icmp .ne 13, 3) := by decide +kernel
theorem dL_isSound_532 : decode cL_isSound 532 = .ok (.aload_n 0, 1) := by decide +kernel
theorem dL_isSound_533 : decode cL_isSound 533 = .ok (.iload 6, 2) := by decide +kernel
theorem dL_isSound_535 : decode cL_isSound 535 = .ok (.invokevirtual 36, 3) := by decide +kernel
theorem dL_isSound_538 : decode cL_isSound 538 = .ok (.iconst (-1), 1) := by decide +kernel
theorem dL_isSound_539 : decode cL_isSound 539 = .ok (.if_icmp .eq 5, 3) := by decide +kernel
theorem dL_isSound_542 : decode cL_isSound 542 = .ok (.iconst 0, 1) := by decide +kernel
theorem dL_isSound_543 : decode cL_isSound 543 = .ok (.ireturn, 1) := by decide +kernel
theorem dL_isSound_544 : decode cL_isSound 544 = .ok (.iinc 6 1, 3) := by decide +kernel
theorem dL_isSound_547 : decode cL_isSound 547 = .ok (.goto (-532), 3) := by decide +kernel
theorem dL_isSound_550 : decode cL_isSound 550 = .ok (.iload_n 1, 1) := by decide +kernel
theorem dL_isSound_551 : decode cL_isSound 551 = .ok (.aload_n 0, 1) := by decide +kernel
theorem dL_isSound_552 : decode cL_isSound 552 = .ok (.iconst 0, 1) := by decide +kernel
theorem dL_isSound_553 : decode cL_isSound 553 = .ok (.invokevirtual 12, 3) := by decide +kernel
theorem dL_isSound_556 : decode cL_isSound 556 = .ok (.if_icmp .ne 51, 3) := by decide +kernel
theorem dL_isSound_559 : decode cL_isSound 559 = .ok (.iload_n 2, 1) := by decide +kernel
theorem dL_isSound_560 : decode cL_isSound 560 = .ok (.aload_n 0, 1) := by decide +kernel
theorem dL_isSound_561 : decode cL_isSound 561 = .ok (.iconst 2, 1) := by decide +kernel
theorem dL_isSound_562 : decode cL_isSound 562 = .ok (.invokevirtual 12, 3) := by decide +kernel
theorem dL_isSound_565 : decode cL_isSound 565 = .ok (.if_icmp .ne 42, 3) := by decide +kernel
theorem dL_isSound_568 : decode cL_isSound 568 = .ok (.iload_n 2, 1) := by decide +kernel
theorem dL_isSound_569 : decode cL_isSound 569 = .ok (.aload_n 0, 1) := by decide +kernel
theorem dL_isSound_570 : decode cL_isSound 570 = .ok (.iconst 3, 1) := by decide +kernel
theorem dL_isSound_571 : decode cL_isSound 571 = .ok (.invokevirtual 12, 3) := by decide +kernel
theorem dL_isSound_574 : decode cL_isSound 574 = .ok (.if_icmp .ne 33, 3) := by decide +kernel
theorem dL_isSound_577 : decode cL_isSound 577 = .ok (.iload_n 3, 1) := by decide +kernel
theorem dL_isSound_578 : decode cL_isSound 578 = .ok (.aload_n 0, 1) := by decide +kernel
theorem dL_isSound_579 : decode cL_isSound 579 = .ok (.iconst 4, 1) := by decide +kernel
theorem dL_isSound_580 : decode cL_isSound 580 = .ok (.invokevirtual 12, 3) := by decide +kernel
theorem dL_isSound_583 : decode cL_isSound 583 = .ok (.if_icmp .ne 24, 3) := by decide +kernel
theorem dL_isSound_586 : decode cL_isSound 586 = .ok (.iload 4, 2) := by decide +kernel
theorem dL_isSound_588 : decode cL_isSound 588 = .ok (.iload_n 1, 1) := by decide +kernel
theorem dL_isSound_589 : decode cL_isSound 589 = .ok (.if_icmp .ne 18, 3) := by decide +kernel
theorem dL_isSound_592 : decode cL_isSound 592 = .ok (.iload 5, 2) := by decide +kernel
theorem dL_isSound_594 : decode cL_isSound 594 = .ok (.aload_n 0, 1) := by decide +kernel
theorem dL_isSound_595 : decode cL_isSound 595 = .ok (.bipush 6, 2) := by decide +kernel
theorem dL_isSound_597 : decode cL_isSound 597 = .ok (.invokevirtual 12, 3) := by decide +kernel
theorem dL_isSound_600 : decode cL_isSound 600 = .ok (.if_icmp .ne 7, 3) := by decide +kernel
theorem dL_isSound_603 : decode cL_isSound 603 = .ok (.iconst 1, 1) := by decide +kernel
theorem dL_isSound_604 : decode cL_isSound 604 = .ok (.goto 4, 3) := by decide +kernel
theorem dL_isSound_607 : decode cL_isSound 607 = .ok (.iconst 0, 1) := by decide +kernel
theorem dL_isSound_608 : decode cL_isSound 608 = .ok (.ireturn, 1) := by decide +kernel
theorem dL_isLooked_0 : decode cL_isLooked 0 = .ok (.aload_n 0, 1) := by decide +kernel
theorem dL_isLooked_1 : decode cL_isLooked 1 = .ok (.iload_n 1, 1) := by decide +kernel
theorem dL_isLooked_2 : decode cL_isLooked 2 = .ok (.invokestatic 30, 3) := by decide +kernel
theorem dL_isLooked_5 : decode cL_isLooked 5 = .ok (.ifCond .eq 11, 3) := by decide +kernel
theorem dL_isLooked_8 : decode cL_isLooked 8 = .ok (.aload_n 0, 1) := by decide +kernel
theorem dL_isLooked_9 : decode cL_isLooked 9 = .ok (.iload_n 2, 1) := by decide +kernel
theorem dL_isLooked_10 : decode cL_isLooked 10 = .ok (.invokestatic 30, 3) := by decide +kernel
theorem dL_isLooked_13 : decode cL_isLooked 13 = .ok (.ifCond .ne 5, 3) := by decide +kernel
theorem dL_isLooked_16 : decode cL_isLooked 16 = .ok (.iconst 1, 1) := by decide +kernel
theorem dL_isLooked_17 : decode cL_isLooked 17 = .ok (.ireturn, 1) := by decide +kernel
theorem dL_isLooked_18 : decode cL_isLooked 18 = .ok (.aload_n 0, 1) := by decide +kernel
theorem dL_isLooked_19 : decode cL_isLooked 19 = .ok (.iload_n 1, 1) := by decide +kernel
theorem dL_isLooked_20 : decode cL_isLooked 20 = .ok (.iconst 1, 1) := by decide +kernel
theorem dL_isLooked_21 : decode cL_isLooked 21 = .ok (.invokevirtual 18, 3) := by decide +kernel
theorem dL_isLooked_24 : decode cL_isLooked 24 = .ok (.istore_n 3, 1) := by decide +kernel
theorem dL_isLooked_25 : decode cL_isLooked 25 = .ok (.iconst 1, 1) := by decide +kernel
theorem dL_isLooked_26 : decode cL_isLooked 26 = .ok (.istore 4, 2) := by decide +kernel
theorem dL_isLooked_28 : decode cL_isLooked 28 = .ok (.iload 4, 2) := by decide +kernel
theorem dL_isLooked_30 : decode cL_isLooked 30 = .ok (.iload_n 3, 1) := by decide +kernel
theorem dL_isLooked_31 : decode cL_isLooked 31 = .ok (.if_icmp .gt 56, 3) := by decide +kernel
theorem dL_isLooked_34 : decode cL_isLooked 34 = .ok (.aload_n 0, 1) := by decide +kernel
theorem dL_isLooked_35 : decode cL_isLooked 35 = .ok (.iload_n 1, 1) := by decide +kernel
theorem dL_isLooked_36 : decode cL_isLooked 36 = .ok (.iload 4, 2) := by decide +kernel
theorem dL_isLooked_38 : decode cL_isLooked 38 = .ok (.invokevirtual 45, 3) := by decide +kernel
theorem dL_isLooked_41 : decode cL_isLooked 41 = .ok (.istore 5, 2) := by decide +kernel
theorem dL_isLooked_43 : decode cL_isLooked 43 = .ok (.aload_n 0, 1) := by decide +kernel
theorem dL_isLooked_44 : decode cL_isLooked 44 = .ok (.iload_n 1, 1) := by decide +kernel
theorem dL_isLooked_45 : decode cL_isLooked 45 = .ok (.iload 4, 2) := by decide +kernel
theorem dL_isLooked_47 : decode cL_isLooked 47 = .ok (.invokevirtual 39, 3) := by decide +kernel
theorem dL_isLooked_50 : decode cL_isLooked 50 = .ok (.aload_n 0, 1) := by decide +kernel
theorem dL_isLooked_51 : decode cL_isLooked 51 = .ok (.aload_n 0, 1) := by decide +kernel
theorem dL_isLooked_52 : decode cL_isLooked 52 = .ok (.iload_n 1, 1) := by decide +kernel
theorem dL_isLooked_53 : decode cL_isLooked 53 = .ok (.iload 4, 2) := by decide +kernel
theorem dL_isLooked_55 : decode cL_isLooked 55 = .ok (.iconst 1, 1) := by decide +kernel
theorem dL_isLooked_56 : decode cL_isLooked 56 = .ok (.isub, 1) := by decide +kernel
theorem dL_isLooked_57 : decode cL_isLooked 57 = .ok (.invokevirtual 39, 3) := by decide +kernel
theorem dL_isLooked_60 : decode cL_isLooked 60 = .ok (.iconst 0, 1) := by decide +kernel
theorem dL_isLooked_61 : decode cL_isLooked 61 = .ok (.invokevirtual 18, 3) := by decide +kernel
theorem dL_isLooked_64 : decode cL_isLooked 64 = .ok (.if_icmp .ne 15, 3) := by decide +kernel
theorem dL_isLooked_67 : decode cL_isLooked 67 = .ok (.iload 5, 2) := by decide +kernel
theorem dL_isLooked_69 : decode cL_isLooked 69 = .ok (.iconst 1, 1) := by decide +kernel
theorem dL_isLooked_70 : decode cL_isLooked 70 = .ok (.if_icmp .lt 9, 3) := by decide +kernel
theorem dL_isLooked_73 : decode cL_isLooked 73 = .ok (.iload 5, 2) := by decide +kernel
theorem dL_isLooked_75 : decode cL_isLooked 75 = .ok (.iconst 3, 1) := by decide +kernel
theorem dL_isLooked_76 : decode cL_isLooked 76 = .ok (.if_icmp .le 5, 3) := by decide +kernel
theorem dL_isLooked_79 : decode cL_isLooked 79 = .ok (.iconst 0, 1) := by decide +kernel
theorem dL_isLooked_80 : decode cL_isLooked 80 = .ok (.ireturn, 1) := by decide +kernel
theorem dL_isLooked_81 : decode cL_isLooked 81 = .ok (.iinc 4 1, 3) := by decide +kernel
theorem dL_isLooked_84 : decode cL_isLooked 84 = .ok (.goto (-56), 3) := by decide +kernel
theorem dL_isLooked_87 : decode cL_isLooked 87 = .ok (.aload_n 0, 1) := by decide +kernel
theorem dL_isLooked_88 : decode cL_isLooked 88 = .ok (.iload_n 1, 1) := by decide +kernel
theorem dL_isLooked_89 : decode cL_isLooked 89 = .ok (.iload_n 3, 1) := by decide +kernel
theorem dL_isLooked_90 : decode cL_isLooked 90 = .ok (.invokevirtual 39, 3) := by decide +kernel
theorem dL_isLooked_93 : decode cL_isLooked 93 = .ok (.ifCond .ne 38, 3) := by decide +kernel
theorem dL_isLooked_96 : decode cL_isLooked 96 = .ok (.aload_n 0, 1) := by decide +kernel
theorem dL_isLooked_97 : decode cL_isLooked 97 = .ok (.iload_n 1, 1) := by decide +kernel
theorem dL_isLooked_98 : decode cL_isLooked 98 = .ok (.iload_n 3, 1) := by decide +kernel
theorem dL_isLooked_99 : decode cL_isLooked 99 = .ok (.iconst 1, 1) := by decide +kernel
theorem dL_isLooked_100 : decode cL_isLooked 100 = .ok (.iadd, 1) := by decide +kernel
theorem dL_isLooked_101 : decode cL_isLooked 101 = .ok (.invokevirtual 39, 3) := by decide +kernel
theorem dL_isLooked_104 : decode cL_isLooked 104 = .ok (.bipush (-5), 2) := by decide +kernel
theorem dL_isLooked_106 : decode cL_isLooked 106 = .ok (.if_icmp .ne 25, 3) := by decide +kernel
theorem dL_isLooked_109 : decode cL_isLooked 109 = .ok (.aload_n 0, 1) := by decide +kernel
theorem dL_isLooked_110 : decode cL_isLooked 110 = .ok (.iload_n 1, 1) := by decide +kernel
theorem dL_isLooked_111 : decode cL_isLooked 111 = .ok (.iconst 0, 1) := by decide +kernel
theorem dL_isLooked_112 : decode cL_isLooked 112 = .ok (.invokevirtual 45, 3) := by decide +kernel
theorem dL_isLooked_115 : decode cL_isLooked 115 = .ok (.ifCond .ne 16, 3) := by decide +kernel
theorem dL_isLooked_118 : decode cL_isLooked 118 = .ok (.aload_n 0, 1) := by decide +kernel
theorem dL_isLooked_119 : decode cL_isLooked 119 = .ok (.iload_n 1, 1) := by decide +kernel
theorem dL_isLooked_120 : decode cL_isLooked 120 = .ok (.iload_n 3, 1) := by decide +kernel
theorem dL_isLooked_121 : decode cL_isLooked 121 = .ok (.iconst 1, 1) := by decide +kernel
theorem dL_isLooked_122 : decode cL_isLooked 122 = .ok (.iadd, 1) := by decide +kernel
theorem dL_isLooked_123 : decode cL_isLooked 123 = .ok (.invokevirtual 45, 3) := by decide +kernel
theorem dL_isLooked_126 : decode cL_isLooked 126 = .ok (.bipush (-5), 2) := by decide +kernel
theorem dL_isLooked_128 : decode cL_isLooked 128 = .ok (.if_icmp .eq 5, 3) := by decide +kernel
theorem dL_isLooked_131 : decode cL_isLooked 131 = .ok (.iconst 0, 1) := by decide +kernel
theorem dL_isLooked_132 : decode cL_isLooked 132 = .ok (.ireturn, 1) := by decide +kernel
theorem dL_isLooked_133 : decode cL_isLooked 133 = .ok (.aload_n 0, 1) := by decide +kernel
theorem dL_isLooked_134 : decode cL_isLooked 134 = .ok (.iload_n 1, 1) := by decide +kernel
theorem dL_isLooked_135 : decode cL_isLooked 135 = .ok (.bipush 9, 2) := by decide +kernel
theorem dL_isLooked_137 : decode cL_isLooked 137 = .ok (.invokevirtual 18, 3) := by decide +kernel
theorem dL_isLooked_140 : decode cL_isLooked 140 = .ok (.istore 4, 2) := by decide +kernel
theorem dL_isLooked_142 : decode cL_isLooked 142 = .ok (.iconst 0, 1) := by decide +kernel
theorem dL_isLooked_143 : decode cL_isLooked 143 = .ok (.istore 5, 2) := by decide +kernel
theorem dL_isLooked_145 : decode cL_isLooked 145 = .ok (.iload 5, 2) := by decide +kernel
theorem dL_isLooked_147 : decode cL_isLooked 147 = .ok (.iload 4, 2) := by decide +kernel
theorem dL_isLooked_149 : decode cL_isLooked 149 = .ok (.if_icmp .ge 76, 3) := by decide +kernel
theorem dL_isLooked_152 : decode cL_isLooked 152 = .ok (.aload_n 0, 1) := by decide +kernel
theorem dL_isLooked_153 : decode cL_isLooked 153 = .ok (.iload_n 1, 1) := by decide +kernel
theorem dL_isLooked_154 : decode cL_isLooked 154 = .ok (.iload 5, 2) := by decide +kernel
theorem dL_isLooked_156 : decode cL_isLooked 156 = .ok (.invokevirtual 48, 3) := by decide +kernel
theorem dL_isLooked_159 : decode cL_isLooked 159 = .ok (.istore 6, 2) := by decide +kernel
theorem dL_isLooked_161 : decode cL_isLooked 161 = .ok (.iload 5, 2) := by decide +kernel
theorem dL_isLooked_163 : decode cL_isLooked 163 = .ok (.ifCond .ne 18, 3) := by decide +kernel
theorem dL_isLooked_166 : decode cL_isLooked 166 = .ok (.iload 6, 2) := by decide +kernel
theorem dL_isLooked_168 : decode cL_isLooked 168 = .ok (.aload_n 0, 1) := by decide +kernel
theorem dL_isLooked_169 : decode cL_isLooked 169 = .ok (.iload_n 1, 1) := by decide +kernel
theorem dL_isLooked_170 : decode cL_isLooked 170 = .ok (.bipush 7, 2) := by decide +kernel
theorem dL_isLooked_172 : decode cL_isLooked 172 = .ok (.invokevirtual 18, 3) := by decide +kernel
theorem dL_isLooked_175 : decode cL_isLooked 175 = .ok (.if_icmp .eq 44, 3) := by decide +kernel
theorem dL_isLooked_178 : decode cL_isLooked 178 = .ok (.goto 39, 3) := by decide +kernel
theorem dL_isLooked_181 : decode cL_isLooked 181 = .ok (.iload 6, 2) := by decide +kernel
theorem dL_isLooked_183 : decode cL_isLooked 183 = .ok (.aload_n 0, 1) := by decide +kernel
theorem dL_isLooked_184 : decode cL_isLooked 184 = .ok (.aload_n 0, 1) := by decide +kernel
theorem dL_isLooked_185 : decode cL_isLooked 185 = .ok (.iload_n 1, 1) := by decide +kernel
theorem dL_isLooked_186 : decode cL_isLooked 186 = .ok (.iload 5, 2) := by decide +kernel
theorem dL_isLooked_188 : decode cL_isLooked 188 = .ok (.iconst 1, 1) := by decide +kernel
theorem dL_isLooked_189 : decode cL_isLooked 189 = .ok (.isub, 1) := by decide +kernel
theorem dL_isLooked_190 : decode cL_isLooked 190 = .ok (.invokevirtual 48, 3) := by decide +kernel
theorem dL_isLooked_193 : decode cL_isLooked 193 = .ok (.iconst 0, 1) := by decide +kernel
theorem dL_isLooked_194 : decode cL_isLooked 194 = .ok (.invokevirtual 18, 3) := by decide +kernel
theorem dL_isLooked_197 : decode cL_isLooked 197 = .ok (.if_icmp .ne 20, 3) := by decide +kernel
theorem dL_isLooked_200 : decode cL_isLooked 200 = .ok (.iload 5, 2) := by decide +kernel
theorem dL_isLooked_202 : decode cL_isLooked 202 = .ok (.aload_n 0, 1) := by decide +kernel
theorem dL_isLooked_203 : decode cL_isLooked 203 = .ok (.iload_n 1, 1) := by decide +kernel
theorem dL_isLooked_204 : decode cL_isLooked 204 = .ok (.iconst 2, 1) := by decide +kernel
theorem dL_isLooked_205 : decode cL_isLooked 205 = .ok (.invokevirtual 18, 3) := by decide +kernel
theorem dL_isLooked_208 : decode cL_isLooked 208 = .ok (.if_icmp .ne 11, 3) := by decide +kernel
theorem dL_isLooked_211 : decode cL_isLooked 211 = .ok (.iload 6, 2) := by decide +kernel
theorem dL_isLooked_213 : decode cL_isLooked 213 = .ok (.iload_n 1, 1) := by decide +kernel
theorem dL_isLooked_214 : decode cL_isLooked 214 = .ok (.if_icmp .eq 5, 3) := by decide +kernel
theorem dL_isLooked_217 : decode cL_isLooked 217 = .ok (.iconst 0, 1) := by decide +kernel
theorem dL_isLooked_218 : decode cL_isLooked 218 = .ok (.ireturn, 1) := by decide +kernel
theorem dL_isLooked_219 : decode cL_isLooked 219 = .ok (.iinc 5 1, 3) := by decide +kernel
theorem dL_isLooked_222 : decode cL_isLooked 222 = .ok (.goto (-77), 3) := by decide +kernel
theorem dL_isLooked_225 : decode cL_isLooked 225 = .ok (.aload_n 0, 1) := by decide +kernel
theorem dL_isLooked_226 : decode cL_isLooked 226 = .ok (.iload_n 1, 1) := by decide +kernel
theorem dL_isLooked_227 : decode cL_isLooked 227 = .ok (.iload_n 2, 1) := by decide +kernel
theorem dL_isLooked_228 : decode cL_isLooked 228 = .ok (.invokevirtual 42, 3) := by decide +kernel
theorem dL_isLooked_231 : decode cL_isLooked 231 = .ok (.istore 5, 2) := by decide +kernel
theorem dL_isLooked_233 : decode cL_isLooked 233 = .ok (.aload_n 0, 1) := by decide +kernel
theorem dL_isLooked_234 : decode cL_isLooked 234 = .ok (.iload_n 1, 1) := by decide +kernel
theorem dL_isLooked_235 : decode cL_isLooked 235 = .ok (.iconst 1, 1) := by decide +kernel
theorem dL_isLooked_236 : decode cL_isLooked 236 = .ok (.invokevirtual 18, 3) := by decide +kernel
theorem dL_isLooked_239 : decode cL_isLooked 239 = .ok (.aload_n 0, 1) := by decide +kernel
theorem dL_isLooked_240 : decode cL_isLooked 240 = .ok (.iload_n 2, 1) := by decide +kernel
theorem dL_isLooked_241 : decode cL_isLooked 241 = .ok (.iconst 1, 1) := by decide +kernel
theorem dL_isLooked_242 : decode cL_isLooked 242 = .ok (.invokevirtual 18, 3) := by decide +kernel
theorem dL_isLooked_245 : decode cL_isLooked 245 = .ok (.iadd, 1) := by decide +kernel
theorem dL_isLooked_246 : decode cL_isLooked 246 = .ok (.iconst 2, 1) := by decide +kernel
theorem dL_isLooked_247 : decode cL_isLooked 247 = .ok (.aload_n 0, 1) := by decide +kernel
theorem dL_isLooked_248 : decode cL_isLooked 248 = .ok (.iload 5, 2) := by decide +kernel
theorem dL_isLooked_250 : decode cL_isLooked 250 = .ok (.iconst 1, 1) := by decide +kernel
theorem dL_isLooked_251 : decode cL_isLooked 251 = .ok (.invokevirtual 18, 3) := by decide +kernel
theorem dL_isLooked_254 : decode cL_isLooked 254 = .ok (.imul, 1) := by decide +kernel
theorem dL_isLooked_255 : decode cL_isLooked 255 = .ok (.isub, 1) := by decide +kernel
theorem dL_isLooked_256 : decode cL_isLooked 256 = .ok (.istore 6, 2) := by decide +kernel
theorem dL_isLooked_258 : decode cL_isLooked 258 = .ok (.iconst 0, 1) := by decide +kernel
theorem dL_isLooked_259 : decode cL_isLooked 259 = .ok (.istore 7, 2) := by decide +kernel
theorem dL_isLooked_261 : decode cL_isLooked 261 = .ok (.iconst 0, 1) := by decide +kernel
theorem dL_isLooked_262 : decode cL_isLooked 262 = .ok (.istore 8, 2) := by decide +kernel
theorem dL_isLooked_264 : decode cL_isLooked 264 = .ok (.iload 8, 2) := by decide +kernel
theorem dL_isLooked_266 : decode cL_isLooked 266 = .ok (.iload 6, 2) := by decide +kernel
theorem dL_isLooked_268 : decode cL_isLooked 268 = .ok (.if_icmp .gt 101, 3) := by decide +kernel
theorem dL_isLooked_271 : decode cL_isLooked 271 = .ok (.aload_n 0, 1) := by decide +kernel
theorem dL_isLooked_272 : decode cL_isLooked 272 = .ok (.iload_n 1, 1) := by decide +kernel
theorem dL_isLooked_273 : decode cL_isLooked 273 = .ok (.iload_n 2, 1) := by decide +kernel
theorem dL_isLooked_274 : decode cL_isLooked 274 = .ok (.iload 8, 2) := by decide +kernel
theorem dL_isLooked_276 : decode cL_isLooked 276 = .ok (.invokevirtual 51, 3) := by decide +kernel
theorem dL_isLooked_279 : decode cL_isLooked 279 = .ok (.istore 9, 2) := by decide +kernel
theorem dL_isLooked_281 : decode cL_isLooked 281 = .ok (.iload 7, 2) := by decide +kernel
theorem dL_isLooked_283 : decode cL_isLooked 283 = .ok (.ifCond .ne 10, 3) := by decide +kernel
theorem dL_isLooked_286 : decode cL_isLooked 286 = .ok (.iload 9, 2) := by decide +kernel
theorem dL_isLooked_288 : decode cL_isLooked 288 = .ok (.iload 5, 2) := by decide +kernel
theorem dL_isLooked_290 : decode cL_isLooked 290 = .ok (.if_icmp .ne 7, 3) := by decide +kernel
theorem dL_isLooked_293 : decode cL_isLooked 293 = .ok (.iconst 1, 1) := by decide +kernel
theorem dL_isLooked_294 : decode cL_isLooked 294 = .ok (.goto 4, 3) := by decide +kernel
theorem dL_isLooked_297 : decode cL_isLooked 297 = .ok (.iconst 0, 1) := by decide +kernel
theorem dL_isLooked_298 : decode cL_isLooked 298 = .ok (.istore 7, 2) := by decide +kernel
theorem dL_isLooked_300 : decode cL_isLooked 300 = .ok (.iload 9, 2) := by decide +kernel
theorem dL_isLooked_302 : decode cL_isLooked 302 = .ok (.aload_n 0, 1) := by decide +kernel
theorem dL_isLooked_303 : decode cL_isLooked 303 = .ok (.iload_n 2, 1) := by decide +kernel
theorem dL_isLooked_304 : decode cL_isLooked 304 = .ok (.iload_n 1, 1) := by decide +kernel
theorem dL_isLooked_305 : decode cL_isLooked 305 = .ok (.iload 6, 2) := by decide +kernel
theorem dL_isLooked_307 : decode cL_isLooked 307 = .ok (.iload 8, 2) := by decide +kernel
theorem dL_isLooked_309 : decode cL_isLooked 309 = .ok (.isub, 1) := by decide +kernel
theorem dL_isLooked_310 : decode cL_isLooked 310 = .ok (.invokevirtual 51, 3) := by decide +kernel
theorem dL_isLooked_313 : decode cL_isLooked 313 = .ok (.if_icmp .ne 48, 3) := by decide +kernel
theorem dL_isLooked_316 : decode cL_isLooked 316 = .ok (.iload 8, 2) := by decide +kernel
theorem dL_isLooked_318 : decode cL_isLooked 318 = .ok (.ifCond .le 45, 3) := by decide +kernel
theorem dL_isLooked_321 : decode cL_isLooked 321 = .ok (.aload_n 0, 1) := by decide +kernel
theorem dL_isLooked_322 : decode cL_isLooked 322 = .ok (.iload 9, 2) := by decide +kernel
theorem dL_isLooked_324 : decode cL_isLooked 324 = .ok (.iconst 0, 1) := by decide +kernel
theorem dL_isLooked_325 : decode cL_isLooked 325 = .ok (.invokevirtual 18, 3) := by decide +kernel
theorem dL_isLooked_328 : decode cL_isLooked 328 = .ok (.aload_n 0, 1) := by decide +kernel
theorem dL_isLooked_329 : decode cL_isLooked 329 = .ok (.iload_n 1, 1) := by decide +kernel
theorem dL_isLooked_330 : decode cL_isLooked 330 = .ok (.iload_n 2, 1) := by decide +kernel
theorem dL_isLooked_331 : decode cL_isLooked 331 = .ok (.iload 8, 2) := by decide +kernel
theorem dL_isLooked_333 : decode cL_isLooked 333 = .ok (.iconst 1, 1) := by decide +kernel
theorem dL_isLooked_334 : decode cL_isLooked 334 = .ok (.isub, 1) := by decide +kernel
theorem dL_isLooked_335 : decode cL_isLooked 335 = .ok (.invokevirtual 51, 3) := by decide +kernel
theorem dL_isLooked_338 : decode cL_isLooked 338 = .ok (.if_icmp .eq 25, 3) := by decide +kernel
theorem dL_isLooked_341 : decode cL_isLooked 341 = .ok (.aload_n 0, 1) := by decide +kernel
theorem dL_isLooked_342 : decode cL_isLooked 342 = .ok (.aload_n 0, 1) := by decide +kernel
theorem dL_isLooked_343 : decode cL_isLooked 343 = .ok (.iload_n 1, 1) := by decide +kernel
theorem dL_isLooked_344 : decode cL_isLooked 344 = .ok (.iload_n 2, 1) := by decide +kernel
theorem dL_isLooked_345 : decode cL_isLooked 345 = .ok (.iload 8, 2) := by decide +kernel
theorem dL_isLooked_347 : decode cL_isLooked 347 = .ok (.iconst 1, 1) := by decide +kernel
theorem dL_isLooked_348 : decode cL_isLooked 348 = .ok (.isub, 1) := by decide +kernel
theorem dL_isLooked_349 : decode cL_isLooked 349 = .ok (.invokevirtual 51, 3) := by decide +kernel
theorem dL_isLooked_352 : decode cL_isLooked 352 = .ok (.iconst 0, 1) := by decide +kernel
theorem dL_isLooked_353 : decode cL_isLooked 353 = .ok (.invokevirtual 18, 3) := by decide +kernel
theorem dL_isLooked_356 : decode cL_isLooked 356 = .ok (.iload 9, 2) := by decide +kernel
theorem dL_isLooked_358 : decode cL_isLooked 358 = .ok (.if_icmp .eq 5, 3) := by decide +kernel
theorem dL_isLooked_361 : decode cL_isLooked 361 = .ok (.iconst 0, 1) := by decide +kernel
theorem dL_isLooked_362 : decode cL_isLooked 362 = .ok (.ireturn, 1) := by decide +kernel
theorem dL_isLooked_363 : decode cL_isLooked 363 = .ok (.iinc 8 1, 3) := by decide +kernel
theorem dL_isLooked_366 : decode cL_isLooked 366 = .ok (.goto (-102), 3) := by decide +kernel
theorem dL_isLooked_369 : decode cL_isLooked 369 = .ok (.aload_n 0, 1) := by decide +kernel
theorem dL_isLooked_370 : decode cL_isLooked 370 = .ok (.iload_n 1, 1) := by decide +kernel
theorem dL_isLooked_371 : decode cL_isLooked 371 = .ok (.invokevirtual 27, 3) := by decide +kernel
theorem dL_isLooked_374 : decode cL_isLooked 374 = .ok (.istore 8, 2) := by decide +kernel
theorem dL_isLooked_376 : decode cL_isLooked 376 = .ok (.aload_n 0, 1) := by decide +kernel
theorem dL_isLooked_377 : decode cL_isLooked 377 = .ok (.iconst 0, 1) := by decide +kernel
theorem dL_isLooked_378 : decode cL_isLooked 378 = .ok (.invokevirtual 55, 3) := by decide +kernel
theorem dL_isLooked_381 : decode cL_isLooked 381 = .ok (.istore 9, 2) := by decide +kernel
theorem dL_isLooked_383 : decode cL_isLooked 383 = .ok (.aload_n 0, 1) := by decide +kernel
theorem dL_isLooked_384 : decode cL_isLooked 384 = .ok (.iconst 1, 1) := by decide +kernel
theorem dL_isLooked_385 : decode cL_isLooked 385 = .ok (.invokevirtual 55, 3) := by decide +kernel
theorem dL_isLooked_388 : decode cL_isLooked 388 = .ok (.istore 10, 2) := by decide +kernel
theorem dL_isLooked_390 : decode cL_isLooked 390 = .ok (.iload 7, 2) := by decide +kernel
theorem dL_isLooked_392 : decode cL_isLooked 392 = .ok (.ifCond .eq 141, 3) := by decide +kernel
theorem dL_isLooked_395 : decode cL_isLooked 395 = .ok (.iload 5, 2) := by decide +kernel
theorem dL_isLooked_397 : decode cL_isLooked 397 = .ok (.aload_n 0, 1) := by decide +kernel
theorem dL_isLooked_398 : decode cL_isLooked 398 = .ok (.iload_n 2, 1) := by decide +kernel
theorem dL_isLooked_399 : decode cL_isLooked 399 = .ok (.iload_n 1, 1) := by decide +kernel
theorem dL_isLooked_400 : decode cL_isLooked 400 = .ok (.invokevirtual 42, 3) := by decide +kernel
theorem dL_isLooked_403 : decode cL_isLooked 403 = .ok (.if_icmp .ne 130, 3) := by decide +kernel
theorem dL_isLooked_406 : decode cL_isLooked 406 = .ok (.aload_n 0, 1) := by decide +kernel
theorem dL_isLooked_407 : decode cL_isLooked 407 = .ok (.iload_n 1, 1) := by decide +kernel
theorem dL_isLooked_408 : decode cL_isLooked 408 = .ok (.iload_n 2, 1) := by decide +kernel
theorem dL_isLooked_409 : decode cL_isLooked 409 = .ok (.iload 6, 2) := by decide +kernel
theorem dL_isLooked_411 : decode cL_isLooked 411 = .ok (.iconst 1, 1) := by decide +kernel
theorem dL_isLooked_412 : decode cL_isLooked 412 = .ok (.iadd, 1) := by decide +kernel
theorem dL_isLooked_413 : decode cL_isLooked 413 = .ok (.invokevirtual 51, 3) := by decide +kernel
theorem dL_isLooked_416 : decode cL_isLooked 416 = .ok (.bipush (-5), 2) := by decide +kernel
theorem dL_isLooked_418 : decode cL_isLooked 418 = .ok (.if_icmp .ne 115, 3) := by decide +kernel
theorem dL_isLooked_421 : decode cL_isLooked 421 = .ok (.aload_n 0, 1) := by decide +kernel
theorem dL_isLooked_422 : decode cL_isLooked 422 = .ok (.iload_n 1, 1) := by decide +kernel
theorem dL_isLooked_423 : decode cL_isLooked 423 = .ok (.iload 4, 2) := by decide +kernel
theorem dL_isLooked_425 : decode cL_isLooked 425 = .ok (.invokevirtual 48, 3) := by decide +kernel
theorem dL_isLooked_428 : decode cL_isLooked 428 = .ok (.bipush (-5), 2) := by decide +kernel
theorem dL_isLooked_430 : decode cL_isLooked 430 = .ok (.if_icmp .ne 103, 3) := by decide +kernel
theorem dL_isLooked_433 : decode cL_isLooked 433 = .ok (.aload_n 0, 1) := by decide +kernel
theorem dL_isLooked_434 : decode cL_isLooked 434 = .ok (.iload_n 1, 1) := by decide +kernel
theorem dL_isLooked_435 : decode cL_isLooked 435 = .ok (.iload_n 2, 1) := by decide +kernel
theorem dL_isLooked_436 : decode cL_isLooked 436 = .ok (.invokevirtual 58, 3) := by decide +kernel
theorem dL_isLooked_439 : decode cL_isLooked 439 = .ok (.aload_n 0, 1) := by decide +kernel
theorem dL_isLooked_440 : decode cL_isLooked 440 = .ok (.iload_n 2, 1) := by decide +kernel
theorem dL_isLooked_441 : decode cL_isLooked 441 = .ok (.iload_n 1, 1) := by decide +kernel
theorem dL_isLooked_442 : decode cL_isLooked 442 = .ok (.invokevirtual 58, 3) := by decide +kernel
theorem dL_isLooked_445 : decode cL_isLooked 445 = .ok (.fcmp .l, 1) := by decide +kernel
theorem dL_isLooked_446 : decode cL_isLooked 446 = .ok (.ifCond .ne 87, 3) := by decide +kernel
theorem dL_isLooked_449 : decode cL_isLooked 449 = .ok (.aload_n 0, 1) := by decide +kernel
theorem dL_isLooked_450 : decode cL_isLooked 450 = .ok (.iload_n 1, 1) := by decide +kernel
theorem dL_isLooked_451 : decode cL_isLooked 451 = .ok (.iload 8, 2) := by decide +kernel
theorem dL_isLooked_453 : decode cL_isLooked 453 = .ok (.invokevirtual 58, 3) := by decide +kernel
theorem dL_isLooked_456 : decode cL_isLooked 456 = .ok (.aload_n 0, 1) := by decide +kernel
theorem dL_isLooked_457 : decode cL_isLooked 457 = .ok (.iload_n 1, 1) := by decide +kernel
theorem dL_isLooked_458 : decode cL_isLooked 458 = .ok (.iload_n 2, 1) := by decide +kernel
theorem dL_isLooked_459 : decode cL_isLooked 459 = .ok (.invokevirtual 58, 3) := by decide +kernel
theorem dL_isLooked_462 : decode cL_isLooked 462 = .ok (.fcmp .l, 1) := by decide +kernel
theorem dL_isLooked_463 : decode cL_isLooked 463 = .ok (.ifCond .lt 70, 3) := by decide +kernel
theorem dL_isLooked_466 : decode cL_isLooked 466 = .ok (.aload_n 0, 1) := by decide +kernel
theorem dL_isLooked_467 : decode cL_isLooked 467 = .ok (.iload 9, 2) := by decide +kernel
theorem dL_isLooked_469 : decode cL_isLooked 469 = .ok (.iload 10, 2) := by decide +kernel
theorem dL_isLooked_471 : decode cL_isLooked 471 = .ok (.invokevirtual 58, 3) := by decide +kernel
theorem dL_isLooked_474 : decode cL_isLooked 474 = .ok (.aload_n 0, 1) := by decide +kernel
theorem dL_isLooked_475 : decode cL_isLooked 475 = .ok (.iload_n 1, 1) := by decide +kernel
theorem dL_isLooked_476 : decode cL_isLooked 476 = .ok (.iload 8, 2) := by decide +kernel
theorem dL_isLooked_478 : decode cL_isLooked 478 = .ok (.invokevirtual 58, 3) := by decide +kernel
theorem dL_isLooked_481 : decode cL_isLooked 481 = .ok (.fcmp .l, 1) := by decide +kernel
theorem dL_isLooked_482 : decode cL_isLooked 482 = .ok (.ifCond .lt 51, 3) := by decide +kernel
theorem dL_isLooked_485 : decode cL_isLooked 485 = .ok (.iload 9, 2) := by decide +kernel
theorem dL_isLooked_487 : decode cL_isLooked 487 = .ok (.iload 10, 2) := by decide +kernel
theorem dL_isLooked_489 : decode cL_isLooked 489 = .ok (.if_icmp .gt 44, 3) := by decide +kernel
theorem dL_isLooked_492 : decode cL_isLooked 492 = .ok (.aload_n 0, 1) := by decide +kernel
theorem dL_isLooked_493 : decode cL_isLooked 493 = .ok (.iload_n 1, 1) := by decide +kernel
theorem dL_isLooked_494 : decode cL_isLooked 494 = .ok (.iload_n 1, 1) := by decide +kernel
theorem dL_isLooked_495 : decode cL_isLooked 495 = .ok (.invokevirtual 58, 3) := by decide +kernel
theorem dL_isLooked_498 : decode cL_isLooked 498 = .ok (.fconst 0, 1) := by decide +kernel
theorem dL_isLooked_499 : decode cL_isLooked 499 = .ok (.fcmp .l, 1) := by decide +kernel
theorem dL_isLooked_500 : decode cL_isLooked 500 = .ok (.ifCond .ne 33, 3) := by decide +kernel
theorem dL_isLooked_503 : decode cL_isLooked 503 = .ok (.aload_n 0, 1) := by decide +kernel
theorem dL_isLooked_504 : decode cL_isLooked 504 = .ok (.iload_n 1, 1) := by decide +kernel
theorem dL_isLooked_505 : decode cL_isLooked 505 = .ok (.iconst 0, 1) := by decide +kernel
theorem dL_isLooked_506 : decode cL_isLooked 506 = .ok (.invokevirtual 62, 3) := by decide +kernel
theorem dL_isLooked_509 : decode cL_isLooked 509 = .ok (.ifCond .lt 24, 3) := by decide +kernel
theorem dL_isLooked_512 : decode cL_isLooked 512 = .ok (.aload_n 0, 1) := by decide +kernel
theorem dL_isLooked_513 : decode cL_isLooked 513 = .ok (.iload_n 1, 1) := by decide +kernel
theorem dL_isLooked_514 : decode cL_isLooked 514 = .ok (.iconst 1, 1) := by decide +kernel
theorem dL_isLooked_515 : decode cL_isLooked 515 = .ok (.invokevirtual 65, 3) := by decide +kernel
theorem dL_isLooked_518 : decode cL_isLooked 518 = .ok (.aload_n 0, 1) := by decide +kernel
theorem dL_isLooked_519 : decode cL_isLooked 519 = .ok (.iload 5, 2) := by decide +kernel
theorem dL_isLooked_521 : decode cL_isLooked 521 = .ok (.iconst 1, 1) := by decide +kernel
theorem dL_isLooked_522 : decode cL_isLooked 522 = .ok (.invokevirtual 65, 3) := by decide +kernel
theorem dL_isLooked_525 : decode cL_isLooked 525 = .ok (.fcmp .l, 1) := by decide +kernel
theorem dL_isLooked_526 : decode cL_isLooked 526 = .ok (.ifCond .lt 7, 3) := by decide +kernel
theorem dL_isLooked_529 : decode cL_isLooked 529 = .ok (.iconst 1, 1) := by decide +kernel
theorem dL_isLooked_530 : decode cL_isLooked 530 = .ok (.goto 4, 3) := by decide +kernel
theorem dL_isLooked_533 : decode cL_isLooked 533 = .ok (.iconst 0, 1) := by decide +kernel
theorem dL_isLooked_534 : decode cL_isLooked 534 = .ok (.ireturn, 1) := by decide +kernel
theorem dL_acts_0 : decode cL_acts 0 = .ok (.aload_n 0, 1) := by decide +kernel
theorem dL_acts_1 : decode cL_acts 1 = .ok (.iconst 1, 1) := by decide +kernel
theorem dL_acts_2 : decode cL_acts 2 = .ok (.invokevirtual 12, 3) := by decide +kernel
theorem dL_acts_5 : decode cL_acts 5 = .ok (.istore_n 2, 1) := by decide +kernel
theorem dL_acts_6 : decode cL_acts 6 = .ok (.iload_n 1, 1) := by decide +kernel
theorem dL_acts_7 : decode cL_acts 7 = .ok (.iconst 4, 1) := by decide +kernel
theorem dL_acts_8 : decode cL_acts 8 = .ok (.ishr, 1) := by decide +kernel
theorem dL_acts_9 : decode cL_acts 9 = .ok (.iload_n 2, 1) := by decide +kernel
theorem dL_acts_10 : decode cL_acts 10 = .ok (.invokestatic 68, 3) := by decide +kernel
theorem dL_acts_13 : decode cL_acts 13 = .ok (.istore_n 3, 1) := by decide +kernel
theorem dL_acts_14 : decode cL_acts 14 = .ok (.iload_n 1, 1) := by decide +kernel
theorem dL_acts_15 : decode cL_acts 15 = .ok (.bipush 24, 2) := by decide +kernel
theorem dL_acts_17 : decode cL_acts 17 = .ok (.ishr, 1) := by decide +kernel
theorem dL_acts_18 : decode cL_acts 18 = .ok (.iconst 1, 1) := by decide +kernel
theorem dL_acts_19 : decode cL_acts 19 = .ok (.iand, 1) := by decide +kernel
theorem dL_acts_20 : decode cL_acts 20 = .ok (.ifCond .ne 9, 3) := by decide +kernel
theorem dL_acts_23 : decode cL_acts 23 = .ok (.iload_n 2, 1) := by decide +kernel
theorem dL_acts_24 : decode cL_acts 24 = .ok (.iconst 1, 1) := by decide +kernel
theorem dL_acts_25 : decode cL_acts 25 = .ok (.isub, 1) := by decide +kernel
theorem dL_acts_26 : decode cL_acts 26 = .ok (.goto 13, 3) := by decide +kernel
theorem dL_acts_29 : decode cL_acts 29 = .ok (.iload_n 1, 1) := by decide +kernel
theorem dL_acts_30 : decode cL_acts 30 = .ok (.bipush 11, 2) := by decide +kernel
theorem dL_acts_32 : decode cL_acts 32 = .ok (.ishr, 1) := by decide +kernel
theorem dL_acts_33 : decode cL_acts 33 = .ok (.iload_n 2, 1) := by decide +kernel
theorem dL_acts_34 : decode cL_acts 34 = .ok (.iconst 1, 1) := by decide +kernel
theorem dL_acts_35 : decode cL_acts 35 = .ok (.iadd, 1) := by decide +kernel
theorem dL_acts_36 : decode cL_acts 36 = .ok (.invokestatic 68, 3) := by decide +kernel
theorem dL_acts_39 : decode cL_acts 39 = .ok (.istore 4, 2) := by decide +kernel
theorem dL_acts_41 : decode cL_acts 41 = .ok (.iload_n 1, 1) := by decide +kernel
theorem dL_acts_42 : decode cL_acts 42 = .ok (.bipush 12, 2) := by decide +kernel
theorem dL_acts_44 : decode cL_acts 44 = .ok (.invokestatic 68, 3) := by decide +kernel
theorem dL_acts_47 : decode cL_acts 47 = .ok (.tableswitch 124 0 9 #[53, 53, 53, 53, 82, 82, 88, 88, 88, 96], 53) := by decide +kernel
theorem dL_acts_100 : decode cL_acts 100 = .ok (.aload_n 0, 1) := by decide +kernel
theorem dL_acts_101 : decode cL_acts 101 = .ok (.iload 4, 2) := by decide +kernel
theorem dL_acts_103 : decode cL_acts 103 = .ok (.bipush 100, 2) := by decide +kernel
theorem dL_acts_105 : decode cL_acts 105 = .ok (.iload_n 1, 1) := by decide +kernel
theorem dL_acts_106 : decode cL_acts 106 = .ok (.bipush 18, 2) := by decide +kernel
theorem dL_acts_108 : decode cL_acts 108 = .ok (.ishr, 1) := by decide +kernel
theorem dL_acts_109 : decode cL_acts 109 = .ok (.bipush 38, 2) := by decide +kernel
theorem dL_acts_111 : decode cL_acts 111 = .ok (.invokestatic 68, 3) := by decide +kernel
theorem dL_acts_114 : decode cL_acts 114 = .ok (.iadd, 1) := by decide +kernel
theorem dL_acts_115 : decode cL_acts 115 = .ok (.bipush 23, 2) := by decide +kernel
theorem dL_acts_117 : decode cL_acts 117 = .ok (.ishl, 1) := by decide +kernel
theorem dL_acts_118 : decode cL_acts 118 = .ok (.iload_n 1, 1) := by decide +kernel
theorem dL_acts_119 : decode cL_acts 119 = .ok (.ldc 71, 2) := by decide +kernel
theorem dL_acts_121 : decode cL_acts 121 = .ok (.invokestatic 68, 3) := by decide +kernel
theorem dL_acts_124 : decode cL_acts 124 = .ok (.iadd, 1) := by decide +kernel
theorem dL_acts_125 : decode cL_acts 125 = .ok (.invokevirtual 72, 3) := by decide +kernel
theorem dL_acts_128 : decode cL_acts 128 = .ok (.ireturn, 1) := by decide +kernel
theorem dL_acts_129 : decode cL_acts 129 = .ok (.aload_n 0, 1) := by decide +kernel
theorem dL_acts_130 : decode cL_acts 130 = .ok (.iload_n 3, 1) := by decide +kernel
theorem dL_acts_131 : decode cL_acts 131 = .ok (.invokevirtual 75, 3) := by decide +kernel
theorem dL_acts_134 : decode cL_acts 134 = .ok (.ireturn, 1) := by decide +kernel
theorem dL_acts_135 : decode cL_acts 135 = .ok (.aload_n 0, 1) := by decide +kernel
theorem dL_acts_136 : decode cL_acts 136 = .ok (.iload_n 3, 1) := by decide +kernel
theorem dL_acts_137 : decode cL_acts 137 = .ok (.iload 4, 2) := by decide +kernel
theorem dL_acts_139 : decode cL_acts 139 = .ok (.invokevirtual 78, 3) := by decide +kernel
theorem dL_acts_142 : decode cL_acts 142 = .ok (.ireturn, 1) := by decide +kernel
theorem dL_acts_143 : decode cL_acts 143 = .ok (.aload_n 0, 1) := by decide +kernel
theorem dL_acts_144 : decode cL_acts 144 = .ok (.iload_n 3, 1) := by decide +kernel
theorem dL_acts_145 : decode cL_acts 145 = .ok (.bipush 100, 2) := by decide +kernel
theorem dL_acts_147 : decode cL_acts 147 = .ok (.iload_n 1, 1) := by decide +kernel
theorem dL_acts_148 : decode cL_acts 148 = .ok (.bipush 18, 2) := by decide +kernel
theorem dL_acts_150 : decode cL_acts 150 = .ok (.ishr, 1) := by decide +kernel
theorem dL_acts_151 : decode cL_acts 151 = .ok (.bipush 38, 2) := by decide +kernel
theorem dL_acts_153 : decode cL_acts 153 = .ok (.invokestatic 68, 3) := by decide +kernel
theorem dL_acts_156 : decode cL_acts 156 = .ok (.iadd, 1) := by decide +kernel
theorem dL_acts_157 : decode cL_acts 157 = .ok (.bipush 23, 2) := by decide +kernel
theorem dL_acts_159 : decode cL_acts 159 = .ok (.ishl, 1) := by decide +kernel
theorem dL_acts_160 : decode cL_acts 160 = .ok (.iload_n 1, 1) := by decide +kernel
theorem dL_acts_161 : decode cL_acts 161 = .ok (.ldc 71, 2) := by decide +kernel
theorem dL_acts_163 : decode cL_acts 163 = .ok (.invokestatic 68, 3) := by decide +kernel
theorem dL_acts_166 : decode cL_acts 166 = .ok (.iadd, 1) := by decide +kernel
theorem dL_acts_167 : decode cL_acts 167 = .ok (.invokevirtual 81, 3) := by decide +kernel
theorem dL_acts_170 : decode cL_acts 170 = .ok (.ireturn, 1) := by decide +kernel
theorem dL_acts_171 : decode cL_acts 171 = .ok (.aload_n 0, 1) := by decide +kernel
theorem dL_acts_172 : decode cL_acts 172 = .ok (.iload 4, 2) := by decide +kernel
theorem dL_acts_174 : decode cL_acts 174 = .ok (.invokevirtual 84, 3) := by decide +kernel
theorem dL_acts_177 : decode cL_acts 177 = .ok (.ireturn, 1) := by decide +kernel
theorem dL_law_0 : decode cL_law 0 = .ok (.new 13, 3) := by decide +kernel
theorem dL_law_3 : decode cL_law 3 = .ok (.dup, 1) := by decide +kernel
theorem dL_law_4 : decode cL_law 4 = .ok (.invokespecial 87, 3) := by decide +kernel
theorem dL_law_7 : decode cL_law 7 = .ok (.astore_n 1, 1) := by decide +kernel
theorem dL_law_8 : decode cL_law 8 = .ok (.aload_n 0, 1) := by decide +kernel
theorem dL_law_9 : decode cL_law 9 = .ok (.iconst 0, 1) := by decide +kernel
theorem dL_law_10 : decode cL_law 10 = .ok (.invokestatic 88, 3) := by decide +kernel
theorem dL_law_13 : decode cL_law 13 = .ok (.istore_n 2, 1) := by decide +kernel
theorem dL_law_14 : decode cL_law 14 = .ok (.iconst 0, 1) := by decide +kernel
theorem dL_law_15 : decode cL_law 15 = .ok (.istore_n 3, 1) := by decide +kernel
theorem dL_law_16 : decode cL_law 16 = .ok (.iconst 0, 1) := by decide +kernel
theorem dL_law_17 : decode cL_law 17 = .ok (.istore 4, 2) := by decide +kernel
theorem dL_law_19 : decode cL_law 19 = .ok (.iload 4, 2) := by decide +kernel
theorem dL_law_21 : decode cL_law 21 = .ok (.bipush 12, 2) := by decide +kernel
theorem dL_law_23 : decode cL_law 23 = .ok (.if_icmp .ge 69, 3) := by decide +kernel
theorem dL_law_26 : decode cL_law 26 = .ok (.iload_n 3, 1) := by decide +kernel
theorem dL_law_27 : decode cL_law 27 = .ok (.ifCond .eq 22, 3) := by decide +kernel
theorem dL_law_30 : decode cL_law 30 = .ok (.iload_n 3, 1) := by decide +kernel
theorem dL_law_31 : decode cL_law 31 = .ok (.bipush 12, 2) := by decide +kernel
theorem dL_law_33 : decode cL_law 33 = .ok (.iload 4, 2) := by decide +kernel
theorem dL_law_35 : decode cL_law 35 = .ok (.isub, 1) := by decide +kernel
theorem dL_law_36 : decode cL_law 36 = .ok (.if_icmp .ge 17, 3) := by decide +kernel
theorem dL_law_39 : decode cL_law 39 = .ok (.iload_n 2, 1) := by decide +kernel
theorem dL_law_40 : decode cL_law 40 = .ok (.iload 4, 2) := by decide +kernel
theorem dL_law_42 : decode cL_law 42 = .ok (.ishr, 1) := by decide +kernel
theorem dL_law_43 : decode cL_law 43 = .ok (.iconst 1, 1) := by decide +kernel
theorem dL_law_44 : decode cL_law 44 = .ok (.iand, 1) := by decide +kernel
theorem dL_law_45 : decode cL_law 45 = .ok (.iconst 1, 1) := by decide +kernel
theorem dL_law_46 : decode cL_law 46 = .ok (.if_icmp .ne 7, 3) := by decide +kernel
theorem dL_law_49 : decode cL_law 49 = .ok (.iconst 1, 1) := by decide +kernel
theorem dL_law_50 : decode cL_law 50 = .ok (.goto 4, 3) := by decide +kernel
theorem dL_law_53 : decode cL_law 53 = .ok (.iconst 0, 1) := by decide +kernel
theorem dL_law_54 : decode cL_law 54 = .ok (.istore 5, 2) := by decide +kernel
theorem dL_law_56 : decode cL_law 56 = .ok (.aload_n 1, 1) := by decide +kernel
theorem dL_law_57 : decode cL_law 57 = .ok (.iload 5, 2) := by decide +kernel
theorem dL_law_59 : decode cL_law 59 = .ok (.ifCond .eq 8, 3) := by decide +kernel
theorem dL_law_62 : decode cL_law 62 = .ok (.bipush 40, 2) := by decide +kernel
theorem dL_law_64 : decode cL_law 64 = .ok (.goto 5, 3) := by decide +kernel
theorem dL_law_67 : decode cL_law 67 = .ok (.bipush 41, 2) := by decide +kernel
theorem dL_law_69 : decode cL_law 69 = .ok (.invokevirtual 92, 3) := by decide +kernel
theorem dL_law_72 : decode cL_law 72 = .ok (.pop, 1) := by decide +kernel
theorem dL_law_73 : decode cL_law 73 = .ok (.iload_n 3, 1) := by decide +kernel
theorem dL_law_74 : decode cL_law 74 = .ok (.iload 5, 2) := by decide +kernel
theorem dL_law_76 : decode cL_law 76 = .ok (.ifCond .eq 7, 3) := by decide +kernel
theorem dL_law_79 : decode cL_law 79 = .ok (.iconst 1, 1) := by decide +kernel
theorem dL_law_80 : decode cL_law 80 = .ok (.goto 4, 3) := by decide +kernel
theorem dL_law_83 : decode cL_law 83 = .ok (.iconst (-1), 1) := by decide +kernel
theorem dL_law_84 : decode cL_law 84 = .ok (.iadd, 1) := by decide +kernel
theorem dL_law_85 : decode cL_law 85 = .ok (.istore_n 3, 1) := by decide +kernel
theorem dL_law_86 : decode cL_law 86 = .ok (.iinc 4 1, 3) := by decide +kernel
theorem dL_law_89 : decode cL_law 89 = .ok (.goto (-70), 3) := by decide +kernel
theorem dL_law_92 : decode cL_law 92 = .ok (.iconst 0, 1) := by decide +kernel
theorem dL_law_93 : decode cL_law 93 = .ok (.istore 4, 2) := by decide +kernel
theorem dL_law_95 : decode cL_law 95 = .ok (.iload 4, 2) := by decide +kernel
theorem dL_law_97 : decode cL_law 97 = .ok (.bipush 24, 2) := by decide +kernel
theorem dL_law_99 : decode cL_law 99 = .ok (.if_icmp .ge 142, 3) := by decide +kernel
theorem dL_law_102 : decode cL_law 102 = .ok (.aload_n 0, 1) := by decide +kernel
theorem dL_law_103 : decode cL_law 103 = .ok (.iconst 1, 1) := by decide +kernel
theorem dL_law_104 : decode cL_law 104 = .ok (.iload 4, 2) := by decide +kernel
theorem dL_law_106 : decode cL_law 106 = .ok (.iadd, 1) := by decide +kernel
theorem dL_law_107 : decode cL_law 107 = .ok (.invokestatic 88, 3) := by decide +kernel
theorem dL_law_110 : decode cL_law 110 = .ok (.istore 5, 2) := by decide +kernel
theorem dL_law_112 : decode cL_law 112 = .ok (.aload_n 1, 1) := by decide +kernel
theorem dL_law_113 : decode cL_law 113 = .ok (.invokestatic 96, 3) := by decide +kernel
theorem dL_law_116 : decode cL_law 116 = .ok (.lstore 6, 2) := by decide +kernel
theorem dL_law_118 : decode cL_law 118 = .ok (.aload_n 1, 1) := by decide +kernel
theorem dL_law_119 : decode cL_law 119 = .ok (.iload 5, 2) := by decide +kernel
theorem dL_law_121 : decode cL_law 121 = .ok (.invokestatic 100, 3) := by decide +kernel
theorem dL_law_124 : decode cL_law 124 = .ok (.istore 8, 2) := by decide +kernel
theorem dL_law_126 : decode cL_law 126 = .ok (.iload 8, 2) := by decide +kernel
theorem dL_law_128 : decode cL_law 128 = .ok (.ifCond .ge 15, 3) := by decide +kernel
theorem dL_law_131 : decode cL_law 131 = .ok (.aload_n 1, 1) := by decide +kernel
theorem dL_law_132 : decode cL_law 132 = .ok (.invokestatic 96, 3) := by decide +kernel
theorem dL_law_135 : decode cL_law 135 = .ok (.lload 6, 2) := by decide +kernel
theorem dL_law_137 : decode cL_law 137 = .ok (.lcmp, 1) := by decide +kernel
theorem dL_law_138 : decode cL_law 138 = .ok (.ifCond .eq 5, 3) := by decide +kernel
theorem dL_law_141 : decode cL_law 141 = .ok (.iconst 0, 1) := by decide +kernel
theorem dL_law_142 : decode cL_law 142 = .ok (.ireturn, 1) := by decide +kernel
theorem dL_law_143 : decode cL_law 143 = .ok (.iload 8, 2) := by decide +kernel
theorem dL_law_145 : decode cL_law 145 = .ok (.ifCond .lt 32, 3) := by decide +kernel
theorem dL_law_148 : decode cL_law 148 = .ok (.iload 5, 2) := by decide +kernel
theorem dL_law_150 : decode cL_law 150 = .ok (.bipush 28, 2) := by decide +kernel
theorem dL_law_152 : decode cL_law 152 = .ok (.ishr, 1) := by decide +kernel
theorem dL_law_153 : decode cL_law 153 = .ok (.iconst 3, 1) := by decide +kernel
theorem dL_law_154 : decode cL_law 154 = .ok (.iand, 1) := by decide +kernel
theorem dL_law_155 : decode cL_law 155 = .ok (.ifCond .ne 22, 3) := by decide +kernel
theorem dL_law_158 : decode cL_law 158 = .ok (.aload_n 1, 1) := by decide +kernel
theorem dL_law_159 : decode cL_law 159 = .ok (.invokevirtual 104, 3) := by decide +kernel
theorem dL_law_162 : decode cL_law 162 = .ok (.ifCond .lt 13, 3) := by decide +kernel
theorem dL_law_165 : decode cL_law 165 = .ok (.aload_n 1, 1) := by decide +kernel
theorem dL_law_166 : decode cL_law 166 = .ok (.invokestatic 96, 3) := by decide +kernel
theorem dL_law_169 : decode cL_law 169 = .ok (.lload 6, 2) := by decide +kernel
theorem dL_law_171 : decode cL_law 171 = .ok (.lcmp, 1) := by decide +kernel
theorem dL_law_172 : decode cL_law 172 = .ok (.ifCond .eq 5, 3) := by decide +kernel
theorem dL_law_175 : decode cL_law 175 = .ok (.iconst 0, 1) := by decide +kernel
theorem dL_law_176 : decode cL_law 176 = .ok (.ireturn, 1) := by decide +kernel
theorem dL_law_177 : decode cL_law 177 = .ok (.iload 4, 2) := by decide +kernel
theorem dL_law_179 : decode cL_law 179 = .ok (.iconst 4, 1) := by decide +kernel
theorem dL_law_180 : decode cL_law 180 = .ok (.irem, 1) := by decide +kernel
theorem dL_law_181 : decode cL_law 181 = .ok (.iconst 1, 1) := by decide +kernel
theorem dL_law_182 : decode cL_law 182 = .ok (.if_icmp .ne 10, 3) := by decide +kernel
theorem dL_law_185 : decode cL_law 185 = .ok (.aload_n 1, 1) := by decide +kernel
theorem dL_law_186 : decode cL_law 186 = .ok (.invokestatic 108, 3) := by decide +kernel
theorem dL_law_189 : decode cL_law 189 = .ok (.ifCond .eq 44, 3) := by decide +kernel
theorem dL_law_192 : decode cL_law 192 = .ok (.iload 4, 2) := by decide +kernel
theorem dL_law_194 : decode cL_law 194 = .ok (.iconst 3, 1) := by decide +kernel
theorem dL_law_195 : decode cL_law 195 = .ok (.irem, 1) := by decide +kernel
theorem dL_law_196 : decode cL_law 196 = .ok (.iconst 2, 1) := by decide +kernel
theorem dL_law_197 : decode cL_law 197 = .ok (.if_icmp .ne 38, 3) := by decide +kernel
theorem dL_law_200 : decode cL_law 200 = .ok (.aload_n 1, 1) := by decide +kernel
theorem dL_law_201 : decode cL_law 201 = .ok (.iload 5, 2) := by decide +kernel
theorem dL_law_203 : decode cL_law 203 = .ok (.bipush 7, 2) := by decide +kernel
theorem dL_law_205 : decode cL_law 205 = .ok (.ishr, 1) := by decide +kernel
theorem dL_law_206 : decode cL_law 206 = .ok (.aload_n 1, 1) := by decide +kernel
theorem dL_law_207 : decode cL_law 207 = .ok (.iconst 1, 1) := by decide +kernel
theorem dL_law_208 : decode cL_law 208 = .ok (.invokevirtual 12, 3) := by decide +kernel
theorem dL_law_211 : decode cL_law 211 = .ok (.invokestatic 68, 3) := by decide +kernel
theorem dL_law_214 : decode cL_law 214 = .ok (.iload 5, 2) := by decide +kernel
theorem dL_law_216 : decode cL_law 216 = .ok (.bipush 12, 2) := by decide +kernel
theorem dL_law_218 : decode cL_law 218 = .ok (.ishr, 1) := by decide +kernel
theorem dL_law_219 : decode cL_law 219 = .ok (.aload_n 1, 1) := by decide +kernel
theorem dL_law_220 : decode cL_law 220 = .ok (.iconst 1, 1) := by decide +kernel
theorem dL_law_221 : decode cL_law 221 = .ok (.invokevirtual 12, 3) := by decide +kernel
theorem dL_law_224 : decode cL_law 224 = .ok (.invokestatic 68, 3) := by decide +kernel
theorem dL_law_227 : decode cL_law 227 = .ok (.invokestatic 112, 3) := by decide +kernel
theorem dL_law_230 : decode cL_law 230 = .ok (.ifCond .ne 5, 3) := by decide +kernel
theorem dL_law_233 : decode cL_law 233 = .ok (.iconst 0, 1) := by decide +kernel
theorem dL_law_234 : decode cL_law 234 = .ok (.ireturn, 1) := by decide +kernel
theorem dL_law_235 : decode cL_law 235 = .ok (.iinc 4 1, 3) := by decide +kernel
theorem dL_law_238 : decode cL_law 238 = .ok (.goto (-143), 3) := by decide +kernel
theorem dL_law_241 : decode cL_law 241 = .ok (.aload_n 1, 1) := by decide +kernel
theorem dL_law_242 : decode cL_law 242 = .ok (.invokestatic 96, 3) := by decide +kernel
theorem dL_law_245 : decode cL_law 245 = .ok (.lstore 4, 2) := by decide +kernel
theorem dL_law_247 : decode cL_law 247 = .ok (.aload_n 1, 1) := by decide +kernel
theorem dL_law_248 : decode cL_law 248 = .ok (.invokevirtual 116, 3) := by decide +kernel
theorem dL_law_251 : decode cL_law 251 = .ok (.aload_n 1, 1) := by decide +kernel
theorem dL_law_252 : decode cL_law 252 = .ok (.iconst 0, 1) := by decide +kernel
theorem dL_law_253 : decode cL_law 253 = .ok (.invokevirtual 12, 3) := by decide +kernel
theorem dL_law_256 : decode cL_law 256 = .ok (.if_icmp .eq 5, 3) := by decide +kernel
theorem dL_law_259 : decode cL_law 259 = .ok (.iconst 0, 1) := by decide +kernel
theorem dL_law_260 : decode cL_law 260 = .ok (.ireturn, 1) := by decide +kernel
theorem dL_law_261 : decode cL_law 261 = .ok (.aload_n 1, 1) := by decide +kernel
theorem dL_law_262 : decode cL_law 262 = .ok (.iconst 0, 1) := by decide +kernel
theorem dL_law_263 : decode cL_law 263 = .ok (.invokevirtual 84, 3) := by decide +kernel
theorem dL_law_266 : decode cL_law 266 = .ok (.pop, 1) := by decide +kernel
theorem dL_law_267 : decode cL_law 267 = .ok (.aload_n 1, 1) := by decide +kernel
theorem dL_law_268 : decode cL_law 268 = .ok (.iconst 0, 1) := by decide +kernel
theorem dL_law_269 : decode cL_law 269 = .ok (.iconst 0, 1) := by decide +kernel
theorem dL_law_270 : decode cL_law 270 = .ok (.invokevirtual 72, 3) := by decide +kernel
theorem dL_law_273 : decode cL_law 273 = .ok (.pop, 1) := by decide +kernel
theorem dL_law_274 : decode cL_law 274 = .ok (.aload_n 1, 1) := by decide +kernel
theorem dL_law_275 : decode cL_law 275 = .ok (.iconst 1, 1) := by decide +kernel
theorem dL_law_276 : decode cL_law 276 = .ok (.iconst 2, 1) := by decide +kernel
theorem dL_law_277 : decode cL_law 277 = .ok (.invokevirtual 78, 3) := by decide +kernel
theorem dL_law_280 : decode cL_law 280 = .ok (.pop, 1) := by decide +kernel
theorem dL_law_281 : decode cL_law 281 = .ok (.aload_n 1, 1) := by decide +kernel
theorem dL_law_282 : decode cL_law 282 = .ok (.invokevirtual 119, 3) := by decide +kernel
theorem dL_law_285 : decode cL_law 285 = .ok (.aload_n 1, 1) := by decide +kernel
theorem dL_law_286 : decode cL_law 286 = .ok (.iconst 0, 1) := by decide +kernel
theorem dL_law_287 : decode cL_law 287 = .ok (.invokevirtual 12, 3) := by decide +kernel
theorem dL_law_290 : decode cL_law 290 = .ok (.if_icmp .ne 122, 3) := by decide +kernel
theorem dL_law_293 : decode cL_law 293 = .ok (.aload_n 1, 1) := by decide +kernel
theorem dL_law_294 : decode cL_law 294 = .ok (.invokestatic 96, 3) := by decide +kernel
theorem dL_law_297 : decode cL_law 297 = .ok (.lload 4, 2) := by decide +kernel
theorem dL_law_299 : decode cL_law 299 = .ok (.lcmp, 1) := by decide +kernel
theorem dL_law_300 : decode cL_law 300 = .ok (.ifCond .ne 112, 3) := by decide +kernel
theorem dL_law_303 : decode cL_law 303 = .ok (.aload_n 1, 1) := by decide +kernel
theorem dL_law_304 : decode cL_law 304 = .ok (.invokevirtual 104, 3) := by decide +kernel
theorem dL_law_307 : decode cL_law 307 = .ok (.ifCond .lt 105, 3) := by decide +kernel
theorem dL_law_310 : decode cL_law 310 = .ok (.aload_n 1, 1) := by decide +kernel
theorem dL_law_311 : decode cL_law 311 = .ok (.invokevirtual 119, 3) := by decide +kernel
theorem dL_law_314 : decode cL_law 314 = .ok (.ifCond .lt 98, 3) := by decide +kernel
theorem dL_law_317 : decode cL_law 317 = .ok (.aload_n 1, 1) := by decide +kernel
theorem dL_law_318 : decode cL_law 318 = .ok (.invokestatic 96, 3) := by decide +kernel
theorem dL_law_321 : decode cL_law 321 = .ok (.lload 4, 2) := by decide +kernel
theorem dL_law_323 : decode cL_law 323 = .ok (.lcmp, 1) := by decide +kernel
theorem dL_law_324 : decode cL_law 324 = .ok (.ifCond .ne 88, 3) := by decide +kernel
theorem dL_law_327 : decode cL_law 327 = .ok (.aload_n 1, 1) := by decide +kernel
theorem dL_law_328 : decode cL_law 328 = .ok (.bipush 10, 2) := by decide +kernel
theorem dL_law_330 : decode cL_law 330 = .ok (.invokevirtual 12, 3) := by decide +kernel
theorem dL_law_333 : decode cL_law 333 = .ok (.bipush (-2), 2) := by decide +kernel
theorem dL_law_335 : decode cL_law 335 = .ok (.if_icmp .ne 77, 3) := by decide +kernel
theorem dL_law_338 : decode cL_law 338 = .ok (.aload_n 1, 1) := by decide +kernel
theorem dL_law_339 : decode cL_law 339 = .ok (.iconst 2, 1) := by decide +kernel
theorem dL_law_340 : decode cL_law 340 = .ok (.invokevirtual 55, 3) := by decide +kernel
theorem dL_law_343 : decode cL_law 343 = .ok (.bipush (-2), 2) := by decide +kernel
theorem dL_law_345 : decode cL_law 345 = .ok (.if_icmp .ne 67, 3) := by decide +kernel
theorem dL_law_348 : decode cL_law 348 = .ok (.aload_n 1, 1) := by decide +kernel
theorem dL_law_349 : decode cL_law 349 = .ok (.iconst 0, 1) := by decide +kernel
theorem dL_law_350 : decode cL_law 350 = .ok (.bipush 7, 2) := by decide +kernel
theorem dL_law_352 : decode cL_law 352 = .ok (.invokevirtual 122, 3) := by decide +kernel
theorem dL_law_355 : decode cL_law 355 = .ok (.bipush (-2), 2) := by decide +kernel
theorem dL_law_357 : decode cL_law 357 = .ok (.if_icmp .ne 55, 3) := by decide +kernel
theorem dL_law_360 : decode cL_law 360 = .ok (.aload_n 1, 1) := by decide +kernel
theorem dL_law_361 : decode cL_law 361 = .ok (.bipush 90, 2) := by decide +kernel
theorem dL_law_363 : decode cL_law 363 = .ok (.invokevirtual 27, 3) := by decide +kernel
theorem dL_law_366 : decode cL_law 366 = .ok (.iconst (-1), 1) := by decide +kernel
theorem dL_law_367 : decode cL_law 367 = .ok (.if_icmp .ne 45, 3) := by decide +kernel
theorem dL_law_370 : decode cL_law 370 = .ok (.aload_n 1, 1) := by decide +kernel
theorem dL_law_371 : decode cL_law 371 = .ok (.iconst (-1), 1) := by decide +kernel
theorem dL_law_372 : decode cL_law 372 = .ok (.invokevirtual 22, 3) := by decide +kernel
theorem dL_law_375 : decode cL_law 375 = .ok (.iconst (-1), 1) := by decide +kernel
theorem dL_law_376 : decode cL_law 376 = .ok (.if_icmp .ne 36, 3) := by decide +kernel
theorem dL_law_379 : decode cL_law 379 = .ok (.aload_n 1, 1) := by decide +kernel
theorem dL_law_380 : decode cL_law 380 = .ok (.iconst 0, 1) := by decide +kernel
theorem dL_law_381 : decode cL_law 381 = .ok (.iconst (-1), 1) := by decide +kernel
theorem dL_law_382 : decode cL_law 382 = .ok (.invokevirtual 62, 3) := by decide +kernel
theorem dL_law_385 : decode cL_law 385 = .ok (.bipush (-2), 2) := by decide +kernel
theorem dL_law_387 : decode cL_law 387 = .ok (.if_icmp .ne 25, 3) := by decide +kernel
theorem dL_law_390 : decode cL_law 390 = .ok (.aload_n 1, 1) := by decide +kernel
theorem dL_law_391 : decode cL_law 391 = .ok (.iconst 0, 1) := by decide +kernel
theorem dL_law_392 : decode cL_law 392 = .ok (.bipush 90, 2) := by decide +kernel
theorem dL_law_394 : decode cL_law 394 = .ok (.invokevirtual 58, 3) := by decide +kernel
theorem dL_law_397 : decode cL_law 397 = .ok (.aload_n 1, 1) := by decide +kernel
theorem dL_law_398 : decode cL_law 398 = .ok (.iconst 0, 1) := by decide +kernel
theorem dL_law_399 : decode cL_law 399 = .ok (.bipush 90, 2) := by decide +kernel
theorem dL_law_401 : decode cL_law 401 = .ok (.invokevirtual 58, 3) := by decide +kernel
theorem dL_law_404 : decode cL_law 404 = .ok (.fcmp .l, 1) := by decide +kernel
theorem dL_law_405 : decode cL_law 405 = .ok (.ifCond .eq 7, 3) := by decide +kernel
theorem dL_law_408 : decode cL_law 408 = .ok (.iconst 1, 1) := by decide +kernel
theorem dL_law_409 : decode cL_law 409 = .ok (.goto 4, 3) := by decide +kernel
theorem dL_law_412 : decode cL_law 412 = .ok (.iconst 0, 1) := by decide +kernel
theorem dL_law_413 : decode cL_law 413 = .ok (.ireturn, 1) := by decide +kernel
