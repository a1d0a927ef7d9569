theorem dL_below_0 : decode cL_below 0 = .ok (.iload_n 0, 1) := by decide +kernel
theorem dL_below_1 : decode cL_below 1 = .ok (.ldc 7, 2) := by decide +kernel
theorem dL_below_3 : decode cL_below 3 = .ok (.iand, 1) := by decide +kernel
theorem dL_below_4 : decode cL_below 4 = .ok (.iload_n 1, 1) := by decide +kernel
theorem dL_below_5 : decode cL_below 5 = .ok (.irem, 1) := by decide +kernel
theorem dL_below_6 : decode cL_below 6 = .ok (.ireturn, 1) := by decide +kernel
theorem dL_cell_0 : decode cL_cell 0 = .ok (.iload_n 1, 1) := by decide +kernel
theorem dL_cell_1 : decode cL_cell 1 = .ok (.aload_n 0, 1) := by decide +kernel
theorem dL_cell_2 : decode cL_cell 2 = .ok (.arraylength, 1) := by decide +kernel
theorem dL_cell_3 : decode cL_cell 3 = .ok (.if_icmp .ge 9, 3) := by decide +kernel
theorem dL_cell_6 : decode cL_cell 6 = .ok (.aload_n 0, 1) := by decide +kernel
theorem dL_cell_7 : decode cL_cell 7 = .ok (.iload_n 1, 1) := by decide +kernel
theorem dL_cell_8 : decode cL_cell 8 = .ok (.iaload, 1) := by decide +kernel
theorem dL_cell_9 : decode cL_cell 9 = .ok (.goto 9, 3) := by decide +kernel
theorem dL_cell_12 : decode cL_cell 12 = .ok (.ldc 8, 2) := by decide +kernel
theorem dL_cell_14 : decode cL_cell 14 = .ok (.iload_n 1, 1) := by decide +kernel
theorem dL_cell_15 : decode cL_cell 15 = .ok (.iconst 3, 1) := by decide +kernel
theorem dL_cell_16 : decode cL_cell 16 = .ok (.iadd, 1) := by decide +kernel
theorem dL_cell_17 : decode cL_cell 17 = .ok (.imul, 1) := by decide +kernel
theorem dL_cell_18 : decode cL_cell 18 = .ok (.ireturn, 1) := by decide +kernel
theorem dL_law_0 : decode cL_law 0 = .ok (.new 9, 3) := by decide +kernel
theorem dL_law_3 : decode cL_law 3 = .ok (.dup, 1) := by decide +kernel
theorem dL_law_4 : decode cL_law 4 = .ok (.invokespecial 11, 3) := by decide +kernel
theorem dL_law_7 : decode cL_law 7 = .ok (.astore_n 1, 1) := by decide +kernel
theorem dL_law_8 : decode cL_law 8 = .ok (.iconst 0, 1) := by decide +kernel
theorem dL_law_9 : decode cL_law 9 = .ok (.istore_n 2, 1) := by decide +kernel
theorem dL_law_10 : decode cL_law 10 = .ok (.iconst 0, 1) := by decide +kernel
theorem dL_law_11 : decode cL_law 11 = .ok (.istore_n 3, 1) := by decide +kernel
theorem dL_law_12 : decode cL_law 12 = .ok (.iload_n 3, 1) := by decide +kernel
theorem dL_law_13 : decode cL_law 13 = .ok (.aload_n 0, 1) := by decide +kernel
theorem dL_law_14 : decode cL_law 14 = .ok (.iconst 0, 1) := by decide +kernel
theorem dL_law_15 : decode cL_law 15 = .ok (.invokestatic 12, 3) := by decide +kernel
theorem dL_law_18 : decode cL_law 18 = .ok (.iconst 3, 1) := by decide +kernel
theorem dL_law_19 : decode cL_law 19 = .ok (.invokestatic 18, 3) := by decide +kernel
theorem dL_law_22 : decode cL_law 22 = .ok (.if_icmp .gt 59, 3) := by decide +kernel
theorem dL_law_25 : decode cL_law 25 = .ok (.aload_n 0, 1) := by decide +kernel
theorem dL_law_26 : decode cL_law 26 = .ok (.iconst 0, 1) := by decide +kernel
theorem dL_law_27 : decode cL_law 27 = .ok (.invokestatic 12, 3) := by decide +kernel
theorem dL_law_30 : decode cL_law 30 = .ok (.iconst 3, 1) := by decide +kernel
theorem dL_law_31 : decode cL_law 31 = .ok (.iconst 2, 1) := by decide +kernel
theorem dL_law_32 : decode cL_law 32 = .ok (.iload_n 3, 1) := by decide +kernel
theorem dL_law_33 : decode cL_law 33 = .ok (.imul, 1) := by decide +kernel
theorem dL_law_34 : decode cL_law 34 = .ok (.iadd, 1) := by decide +kernel
theorem dL_law_35 : decode cL_law 35 = .ok (.ishr, 1) := by decide +kernel
theorem dL_law_36 : decode cL_law 36 = .ok (.iconst 3, 1) := by decide +kernel
theorem dL_law_37 : decode cL_law 37 = .ok (.invokestatic 18, 3) := by decide +kernel
theorem dL_law_40 : decode cL_law 40 = .ok (.ifCond .ne 20, 3) := by decide +kernel
theorem dL_law_43 : decode cL_law 43 = .ok (.iconst 1, 1) := by decide +kernel
theorem dL_law_44 : decode cL_law 44 = .ok (.aload_n 0, 1) := by decide +kernel
theorem dL_law_45 : decode cL_law 45 = .ok (.iconst 0, 1) := by decide +kernel
theorem dL_law_46 : decode cL_law 46 = .ok (.invokestatic 12, 3) := by decide +kernel
theorem dL_law_49 : decode cL_law 49 = .ok (.bipush 6, 2) := by decide +kernel
theorem dL_law_51 : decode cL_law 51 = .ok (.ishr, 1) := by decide +kernel
theorem dL_law_52 : decode cL_law 52 = .ok (.iconst 5, 1) := by decide +kernel
theorem dL_law_53 : decode cL_law 53 = .ok (.invokestatic 18, 3) := by decide +kernel
theorem dL_law_56 : decode cL_law 56 = .ok (.iadd, 1) := by decide +kernel
theorem dL_law_57 : decode cL_law 57 = .ok (.goto 4, 3) := by decide +kernel
theorem dL_law_60 : decode cL_law 60 = .ok (.iconst 0, 1) := by decide +kernel
theorem dL_law_61 : decode cL_law 61 = .ok (.istore 4, 2) := by decide +kernel
theorem dL_law_63 : decode cL_law 63 = .ok (.iload_n 2, 1) := by decide +kernel
theorem dL_law_64 : decode cL_law 64 = .ok (.iload 4, 2) := by decide +kernel
theorem dL_law_66 : decode cL_law 66 = .ok (.iadd, 1) := by decide +kernel
theorem dL_law_67 : decode cL_law 67 = .ok (.istore_n 2, 1) := by decide +kernel
theorem dL_law_68 : decode cL_law 68 = .ok (.aload_n 1, 1) := by decide +kernel
theorem dL_law_69 : decode cL_law 69 = .ok (.iload 4, 2) := by decide +kernel
theorem dL_law_71 : decode cL_law 71 = .ok (.invokevirtual 22, 3) := by decide +kernel
theorem dL_law_74 : decode cL_law 74 = .ok (.pop, 1) := by decide +kernel
theorem dL_law_75 : decode cL_law 75 = .ok (.iinc 3 1, 3) := by decide +kernel
theorem dL_law_78 : decode cL_law 78 = .ok (.goto (-66), 3) := by decide +kernel
theorem dL_law_81 : decode cL_law 81 = .ok (.aload_n 1, 1) := by decide +kernel
theorem dL_law_82 : decode cL_law 82 = .ok (.bipush 60, 2) := by decide +kernel
theorem dL_law_84 : decode cL_law 84 = .ok (.invokevirtual 26, 3) := by decide +kernel
theorem dL_law_87 : decode cL_law 87 = .ok (.pop, 1) := by decide +kernel
theorem dL_law_88 : decode cL_law 88 = .ok (.aload_n 1, 1) := by decide +kernel
theorem dL_law_89 : decode cL_law 89 = .ok (.aload_n 0, 1) := by decide +kernel
theorem dL_law_90 : decode cL_law 90 = .ok (.iconst 1, 1) := by decide +kernel
theorem dL_law_91 : decode cL_law 91 = .ok (.invokestatic 12, 3) := by decide +kernel
theorem dL_law_94 : decode cL_law 94 = .ok (.bipush 101, 2) := by decide +kernel
theorem dL_law_96 : decode cL_law 96 = .ok (.invokestatic 18, 3) := by decide +kernel
theorem dL_law_99 : decode cL_law 99 = .ok (.invokevirtual 26, 3) := by decide +kernel
theorem dL_law_102 : decode cL_law 102 = .ok (.pop, 1) := by decide +kernel
theorem dL_law_103 : decode cL_law 103 = .ok (.iconst 0, 1) := by decide +kernel
theorem dL_law_104 : decode cL_law 104 = .ok (.istore_n 3, 1) := by decide +kernel
theorem dL_law_105 : decode cL_law 105 = .ok (.iconst 0, 1) := by decide +kernel
theorem dL_law_106 : decode cL_law 106 = .ok (.istore 4, 2) := by decide +kernel
theorem dL_law_108 : decode cL_law 108 = .ok (.iload 4, 2) := by decide +kernel
theorem dL_law_110 : decode cL_law 110 = .ok (.bipush 54, 2) := by decide +kernel
theorem dL_law_112 : decode cL_law 112 = .ok (.if_icmp .ge 175, 3) := by decide +kernel
theorem dL_law_115 : decode cL_law 115 = .ok (.aload_n 0, 1) := by decide +kernel
theorem dL_law_116 : decode cL_law 116 = .ok (.iconst 2, 1) := by decide +kernel
theorem dL_law_117 : decode cL_law 117 = .ok (.iload 4, 2) := by decide +kernel
theorem dL_law_119 : decode cL_law 119 = .ok (.bipush 27, 2) := by decide +kernel
theorem dL_law_121 : decode cL_law 121 = .ok (.irem, 1) := by decide +kernel
theorem dL_law_122 : decode cL_law 122 = .ok (.iadd, 1) := by decide +kernel
theorem dL_law_123 : decode cL_law 123 = .ok (.invokestatic 12, 3) := by decide +kernel
theorem dL_law_126 : decode cL_law 126 = .ok (.iload 4, 2) := by decide +kernel
theorem dL_law_128 : decode cL_law 128 = .ok (.bipush 27, 2) := by decide +kernel
theorem dL_law_130 : decode cL_law 130 = .ok (.idiv, 1) := by decide +kernel
theorem dL_law_131 : decode cL_law 131 = .ok (.bipush 8, 2) := by decide +kernel
theorem dL_law_133 : decode cL_law 133 = .ok (.imul, 1) := by decide +kernel
theorem dL_law_134 : decode cL_law 134 = .ok (.ishr, 1) := by decide +kernel
theorem dL_law_135 : decode cL_law 135 = .ok (.istore 5, 2) := by decide +kernel
theorem dL_law_137 : decode cL_law 137 = .ok (.aload_n 1, 1) := by decide +kernel
theorem dL_law_138 : decode cL_law 138 = .ok (.iconst 0, 1) := by decide +kernel
theorem dL_law_139 : decode cL_law 139 = .ok (.invokevirtual 29, 3) := by decide +kernel
theorem dL_law_142 : decode cL_law 142 = .ok (.istore 6, 2) := by decide +kernel
theorem dL_law_144 : decode cL_law 144 = .ok (.iload_n 3, 1) := by decide +kernel
theorem dL_law_145 : decode cL_law 145 = .ok (.iload 5, 2) := by decide +kernel
theorem dL_law_147 : decode cL_law 147 = .ok (.bipush 14, 2) := by decide +kernel
theorem dL_law_149 : decode cL_law 149 = .ok (.invokestatic 18, 3) := by decide +kernel
theorem dL_law_152 : decode cL_law 152 = .ok (.iconst 2, 1) := by decide +kernel
theorem dL_law_153 : decode cL_law 153 = .ok (.if_icmp .ge 19, 3) := by decide +kernel
theorem dL_law_156 : decode cL_law 156 = .ok (.iload 5, 2) := by decide +kernel
theorem dL_law_158 : decode cL_law 158 = .ok (.bipush 8, 2) := by decide +kernel
theorem dL_law_160 : decode cL_law 160 = .ok (.ishr, 1) := by decide +kernel
theorem dL_law_161 : decode cL_law 161 = .ok (.iconst 2, 1) := by decide +kernel
theorem dL_law_162 : decode cL_law 162 = .ok (.invokestatic 18, 3) := by decide +kernel
theorem dL_law_165 : decode cL_law 165 = .ok (.ifCond .ne 7, 3) := by decide +kernel
theorem dL_law_168 : decode cL_law 168 = .ok (.iconst 1, 1) := by decide +kernel
theorem dL_law_169 : decode cL_law 169 = .ok (.goto 4, 3) := by decide +kernel
theorem dL_law_172 : decode cL_law 172 = .ok (.iconst 0, 1) := by decide +kernel
theorem dL_law_173 : decode cL_law 173 = .ok (.ior, 1) := by decide +kernel
theorem dL_law_174 : decode cL_law 174 = .ok (.istore_n 3, 1) := by decide +kernel
theorem dL_law_175 : decode cL_law 175 = .ok (.aload_n 1, 1) := by decide +kernel
theorem dL_law_176 : decode cL_law 176 = .ok (.iload 5, 2) := by decide +kernel
theorem dL_law_178 : decode cL_law 178 = .ok (.iload 6, 2) := by decide +kernel
theorem dL_law_180 : decode cL_law 180 = .ok (.iload_n 2, 1) := by decide +kernel
theorem dL_law_181 : decode cL_law 181 = .ok (.ifCond .ne 11, 3) := by decide +kernel
theorem dL_law_184 : decode cL_law 184 = .ok (.iload_n 3, 1) := by decide +kernel
theorem dL_law_185 : decode cL_law 185 = .ok (.ifCond .ne 7, 3) := by decide +kernel
theorem dL_law_188 : decode cL_law 188 = .ok (.iconst 1, 1) := by decide +kernel
theorem dL_law_189 : decode cL_law 189 = .ok (.goto 4, 3) := by decide +kernel
theorem dL_law_192 : decode cL_law 192 = .ok (.iconst 0, 1) := by decide +kernel
theorem dL_law_193 : decode cL_law 193 = .ok (.invokestatic 32, 3) := by decide +kernel
theorem dL_law_196 : decode cL_law 196 = .ok (.ifCond .ne 5, 3) := by decide +kernel
theorem dL_law_199 : decode cL_law 199 = .ok (.iconst 0, 1) := by decide +kernel
theorem dL_law_200 : decode cL_law 200 = .ok (.ireturn, 1) := by decide +kernel
theorem dL_law_201 : decode cL_law 201 = .ok (.iload 4, 2) := by decide +kernel
theorem dL_law_203 : decode cL_law 203 = .ok (.bipush 9, 2) := by decide +kernel
theorem dL_law_205 : decode cL_law 205 = .ok (.irem, 1) := by decide +kernel
theorem dL_law_206 : decode cL_law 206 = .ok (.bipush 8, 2) := by decide +kernel
theorem dL_law_208 : decode cL_law 208 = .ok (.if_icmp .eq 6, 3) := by decide +kernel
theorem dL_law_211 : decode cL_law 211 = .ok (.goto 70, 3) := by decide +kernel
theorem dL_law_214 : decode cL_law 214 = .ok (.aload_n 1, 1) := by decide +kernel
theorem dL_law_215 : decode cL_law 215 = .ok (.invokevirtual 36, 3) := by decide +kernel
theorem dL_law_218 : decode cL_law 218 = .ok (.lstore 7, 2) := by decide +kernel
theorem dL_law_220 : decode cL_law 220 = .ok (.aload_n 1, 1) := by decide +kernel
theorem dL_law_221 : decode cL_law 221 = .ok (.invokestatic 40, 3) := by decide +kernel
theorem dL_law_224 : decode cL_law 224 = .ok (.ifCond .eq 29, 3) := by decide +kernel
theorem dL_law_227 : decode cL_law 227 = .ok (.aload_n 1, 1) := by decide +kernel
theorem dL_law_228 : decode cL_law 228 = .ok (.invokestatic 44, 3) := by decide +kernel
theorem dL_law_231 : decode cL_law 231 = .ok (.ifCond .eq 22, 3) := by decide +kernel
theorem dL_law_234 : decode cL_law 234 = .ok (.aload_n 1, 1) := by decide +kernel
theorem dL_law_235 : decode cL_law 235 = .ok (.iload 5, 2) := by decide +kernel
theorem dL_law_237 : decode cL_law 237 = .ok (.invokestatic 47, 3) := by decide +kernel
theorem dL_law_240 : decode cL_law 240 = .ok (.ifCond .eq 13, 3) := by decide +kernel
theorem dL_law_243 : decode cL_law 243 = .ok (.aload_n 1, 1) := by decide +kernel
theorem dL_law_244 : decode cL_law 244 = .ok (.invokevirtual 36, 3) := by decide +kernel
theorem dL_law_247 : decode cL_law 247 = .ok (.lload 7, 2) := by decide +kernel
theorem dL_law_249 : decode cL_law 249 = .ok (.lcmp, 1) := by decide +kernel
theorem dL_law_250 : decode cL_law 250 = .ok (.ifCond .eq 5, 3) := by decide +kernel
theorem dL_law_253 : decode cL_law 253 = .ok (.iconst 0, 1) := by decide +kernel
theorem dL_law_254 : decode cL_law 254 = .ok (.ireturn, 1) := by decide +kernel
theorem dL_law_255 : decode cL_law 255 = .ok (.iload_n 2, 1) := by decide +kernel
theorem dL_law_256 : decode cL_law 256 = .ok (.ifCond .ne 25, 3) := by decide +kernel
theorem dL_law_259 : decode cL_law 259 = .ok (.iload_n 3, 1) := by decide +kernel
theorem dL_law_260 : decode cL_law 260 = .ok (.ifCond .ne 21, 3) := by decide +kernel
theorem dL_law_263 : decode cL_law 263 = .ok (.aload_n 1, 1) := by decide +kernel
theorem dL_law_264 : decode cL_law 264 = .ok (.bipush 9, 2) := by decide +kernel
theorem dL_law_266 : decode cL_law 266 = .ok (.invokevirtual 29, 3) := by decide +kernel
theorem dL_law_269 : decode cL_law 269 = .ok (.aload_n 1, 1) := by decide +kernel
theorem dL_law_270 : decode cL_law 270 = .ok (.bipush 6, 2) := by decide +kernel
theorem dL_law_272 : decode cL_law 272 = .ok (.invokevirtual 29, 3) := by decide +kernel
theorem dL_law_275 : decode cL_law 275 = .ok (.iadd, 1) := by decide +kernel
theorem dL_law_276 : decode cL_law 276 = .ok (.ifCond .eq 5, 3) := by decide +kernel
theorem dL_law_279 : decode cL_law 279 = .ok (.iconst 0, 1) := by decide +kernel
theorem dL_law_280 : decode cL_law 280 = .ok (.ireturn, 1) := by decide +kernel
theorem dL_law_281 : decode cL_law 281 = .ok (.iinc 4 1, 3) := by decide +kernel
theorem dL_law_284 : decode cL_law 284 = .ok (.goto (-176), 3) := by decide +kernel
theorem dL_law_287 : decode cL_law 287 = .ok (.iconst 1, 1) := by decide +kernel
theorem dL_law_288 : decode cL_law 288 = .ok (.ireturn, 1) := by decide +kernel
theorem dL_act_0 : decode cL_act 0 = .ok (.iload_n 1, 1) := by decide +kernel
theorem dL_act_1 : decode cL_act 1 = .ok (.iconst 3, 1) := by decide +kernel
theorem dL_act_2 : decode cL_act 2 = .ok (.ishr, 1) := by decide +kernel
theorem dL_act_3 : decode cL_act 3 = .ok (.iconst 2, 1) := by decide +kernel
theorem dL_act_4 : decode cL_act 4 = .ok (.invokestatic 18, 3) := by decide +kernel
theorem dL_act_7 : decode cL_act 7 = .ok (.istore 4, 2) := by decide +kernel
theorem dL_act_9 : decode cL_act 9 = .ok (.iload_n 1, 1) := by decide +kernel
theorem dL_act_10 : decode cL_act 10 = .ok (.iconst 4, 1) := by decide +kernel
theorem dL_act_11 : decode cL_act 11 = .ok (.ishr, 1) := by decide +kernel
theorem dL_act_12 : decode cL_act 12 = .ok (.iconst 1, 1) := by decide +kernel
theorem dL_act_13 : decode cL_act 13 = .ok (.iload_n 2, 1) := by decide +kernel
theorem dL_act_14 : decode cL_act 14 = .ok (.invokestatic 51, 3) := by decide +kernel
theorem dL_act_17 : decode cL_act 17 = .ok (.invokestatic 18, 3) := by decide +kernel
theorem dL_act_20 : decode cL_act 20 = .ok (.istore 5, 2) := by decide +kernel
theorem dL_act_22 : decode cL_act 22 = .ok (.iload_n 1, 1) := by decide +kernel
theorem dL_act_23 : decode cL_act 23 = .ok (.bipush 14, 2) := by decide +kernel
theorem dL_act_25 : decode cL_act 25 = .ok (.invokestatic 18, 3) := by decide +kernel
theorem dL_act_28 : decode cL_act 28 = .ok (.tableswitch 375 0 7 #[48, 48, 179, 179, 209, 239, 261, 317], 48) := by decide +kernel
theorem dL_act_76 : decode cL_act 76 = .ok (.iload_n 1, 1) := by decide +kernel
theorem dL_act_77 : decode cL_act 77 = .ok (.bipush 6, 2) := by decide +kernel
theorem dL_act_79 : decode cL_act 79 = .ok (.ishr, 1) := by decide +kernel
theorem dL_act_80 : decode cL_act 80 = .ok (.iconst 3, 1) := by decide +kernel
theorem dL_act_81 : decode cL_act 81 = .ok (.invokestatic 18, 3) := by decide +kernel
theorem dL_act_84 : decode cL_act 84 = .ok (.ifCond .ne 14, 3) := by decide +kernel
theorem dL_act_87 : decode cL_act 87 = .ok (.iload_n 1, 1) := by decide +kernel
theorem dL_act_88 : decode cL_act 88 = .ok (.iconst 3, 1) := by decide +kernel
theorem dL_act_89 : decode cL_act 89 = .ok (.ishr, 1) := by decide +kernel
theorem dL_act_90 : decode cL_act 90 = .ok (.bipush 8, 2) := by decide +kernel
theorem dL_act_92 : decode cL_act 92 = .ok (.invokestatic 18, 3) := by decide +kernel
theorem dL_act_95 : decode cL_act 95 = .ok (.goto 4, 3) := by decide +kernel
theorem dL_act_98 : decode cL_act 98 = .ok (.iconst 0, 1) := by decide +kernel
theorem dL_act_99 : decode cL_act 99 = .ok (.istore 6, 2) := by decide +kernel
theorem dL_act_101 : decode cL_act 101 = .ok (.iload_n 1, 1) := by decide +kernel
theorem dL_act_102 : decode cL_act 102 = .ok (.bipush 8, 2) := by decide +kernel
theorem dL_act_104 : decode cL_act 104 = .ok (.ishr, 1) := by decide +kernel
theorem dL_act_105 : decode cL_act 105 = .ok (.iconst 2, 1) := by decide +kernel
theorem dL_act_106 : decode cL_act 106 = .ok (.invokestatic 18, 3) := by decide +kernel
theorem dL_act_109 : decode cL_act 109 = .ok (.ifCond .ne 17, 3) := by decide +kernel
theorem dL_act_112 : decode cL_act 112 = .ok (.iload 6, 2) := by decide +kernel
theorem dL_act_114 : decode cL_act 114 = .ok (.iload_n 1, 1) := by decide +kernel
theorem dL_act_115 : decode cL_act 115 = .ok (.iconst 5, 1) := by decide +kernel
theorem dL_act_116 : decode cL_act 116 = .ok (.ishr, 1) := by decide +kernel
theorem dL_act_117 : decode cL_act 117 = .ok (.bipush 8, 2) := by decide +kernel
theorem dL_act_119 : decode cL_act 119 = .ok (.invokestatic 18, 3) := by decide +kernel
theorem dL_act_122 : decode cL_act 122 = .ok (.iand, 1) := by decide +kernel
theorem dL_act_123 : decode cL_act 123 = .ok (.goto 4, 3) := by decide +kernel
theorem dL_act_126 : decode cL_act 126 = .ok (.iconst 0, 1) := by decide +kernel
theorem dL_act_127 : decode cL_act 127 = .ok (.istore 7, 2) := by decide +kernel
theorem dL_act_129 : decode cL_act 129 = .ok (.aload_n 0, 1) := by decide +kernel
theorem dL_act_130 : decode cL_act 130 = .ok (.iload_n 1, 1) := by decide +kernel
theorem dL_act_131 : decode cL_act 131 = .ok (.iconst 4, 1) := by decide +kernel
theorem dL_act_132 : decode cL_act 132 = .ok (.ishr, 1) := by decide +kernel
theorem dL_act_133 : decode cL_act 133 = .ok (.bipush 16, 2) := by decide +kernel
theorem dL_act_135 : decode cL_act 135 = .ok (.invokestatic 18, 3) := by decide +kernel
theorem dL_act_138 : decode cL_act 138 = .ok (.iload_n 1, 1) := by decide +kernel
theorem dL_act_139 : decode cL_act 139 = .ok (.iconst 2, 1) := by decide +kernel
theorem dL_act_140 : decode cL_act 140 = .ok (.ishr, 1) := by decide +kernel
theorem dL_act_141 : decode cL_act 141 = .ok (.iconst 1, 1) := by decide +kernel
theorem dL_act_142 : decode cL_act 142 = .ok (.iload_n 2, 1) := by decide +kernel
theorem dL_act_143 : decode cL_act 143 = .ok (.ishl, 1) := by decide +kernel
theorem dL_act_144 : decode cL_act 144 = .ok (.invokestatic 18, 3) := by decide +kernel
theorem dL_act_147 : decode cL_act 147 = .ok (.iload_n 1, 1) := by decide +kernel
theorem dL_act_148 : decode cL_act 148 = .ok (.bipush 6, 2) := by decide +kernel
theorem dL_act_150 : decode cL_act 150 = .ok (.ishr, 1) := by decide +kernel
theorem dL_act_151 : decode cL_act 151 = .ok (.iconst 1, 1) := by decide +kernel
theorem dL_act_152 : decode cL_act 152 = .ok (.iload_n 2, 1) := by decide +kernel
theorem dL_act_153 : decode cL_act 153 = .ok (.ishl, 1) := by decide +kernel
theorem dL_act_154 : decode cL_act 154 = .ok (.invokestatic 18, 3) := by decide +kernel
theorem dL_act_157 : decode cL_act 157 = .ok (.iand, 1) := by decide +kernel
theorem dL_act_158 : decode cL_act 158 = .ok (.iload 6, 2) := by decide +kernel
theorem dL_act_160 : decode cL_act 160 = .ok (.iload 7, 2) := by decide +kernel
theorem dL_act_162 : decode cL_act 162 = .ok (.iconst 1, 1) := by decide +kernel
theorem dL_act_163 : decode cL_act 163 = .ok (.iload_n 1, 1) := by decide +kernel
theorem dL_act_164 : decode cL_act 164 = .ok (.iconst 5, 1) := by decide +kernel
theorem dL_act_165 : decode cL_act 165 = .ok (.ishr, 1) := by decide +kernel
theorem dL_act_166 : decode cL_act 166 = .ok (.bipush 50, 2) := by decide +kernel
theorem dL_act_168 : decode cL_act 168 = .ok (.invokestatic 18, 3) := by decide +kernel
theorem dL_act_171 : decode cL_act 171 = .ok (.iadd, 1) := by decide +kernel
theorem dL_act_172 : decode cL_act 172 = .ok (.iconst 1, 1) := by decide +kernel
theorem dL_act_173 : decode cL_act 173 = .ok (.iload_n 1, 1) := by decide +kernel
theorem dL_act_174 : decode cL_act 174 = .ok (.bipush 7, 2) := by decide +kernel
theorem dL_act_176 : decode cL_act 176 = .ok (.ishr, 1) := by decide +kernel
theorem dL_act_177 : decode cL_act 177 = .ok (.bipush 20, 2) := by decide +kernel
theorem dL_act_179 : decode cL_act 179 = .ok (.invokestatic 18, 3) := by decide +kernel
theorem dL_act_182 : decode cL_act 182 = .ok (.iadd, 1) := by decide +kernel
theorem dL_act_183 : decode cL_act 183 = .ok (.invokevirtual 56, 3) := by decide +kernel
theorem dL_act_186 : decode cL_act 186 = .ok (.iload_n 2, 1) := by decide +kernel
theorem dL_act_187 : decode cL_act 187 = .ok (.if_icmp .ne 18, 3) := by decide +kernel
theorem dL_act_190 : decode cL_act 190 = .ok (.aload_n 0, 1) := by decide +kernel
theorem dL_act_191 : decode cL_act 191 = .ok (.iload_n 2, 1) := by decide +kernel
theorem dL_act_192 : decode cL_act 192 = .ok (.iconst 3, 1) := by decide +kernel
theorem dL_act_193 : decode cL_act 193 = .ok (.invokevirtual 60, 3) := by decide +kernel
theorem dL_act_196 : decode cL_act 196 = .ok (.iload 7, 2) := by decide +kernel
theorem dL_act_198 : decode cL_act 198 = .ok (.if_icmp .ne 7, 3) := by decide +kernel
theorem dL_act_201 : decode cL_act 201 = .ok (.iconst 1, 1) := by decide +kernel
theorem dL_act_202 : decode cL_act 202 = .ok (.goto 4, 3) := by decide +kernel
theorem dL_act_205 : decode cL_act 205 = .ok (.iconst 0, 1) := by decide +kernel
theorem dL_act_206 : decode cL_act 206 = .ok (.ireturn, 1) := by decide +kernel
theorem dL_act_207 : decode cL_act 207 = .ok (.aload_n 0, 1) := by decide +kernel
theorem dL_act_208 : decode cL_act 208 = .ok (.iload_n 1, 1) := by decide +kernel
theorem dL_act_209 : decode cL_act 209 = .ok (.iconst 4, 1) := by decide +kernel
theorem dL_act_210 : decode cL_act 210 = .ok (.ishr, 1) := by decide +kernel
theorem dL_act_211 : decode cL_act 211 = .ok (.iconst 4, 1) := by decide +kernel
theorem dL_act_212 : decode cL_act 212 = .ok (.invokestatic 18, 3) := by decide +kernel
theorem dL_act_215 : decode cL_act 215 = .ok (.iload_n 1, 1) := by decide +kernel
theorem dL_act_216 : decode cL_act 216 = .ok (.bipush 6, 2) := by decide +kernel
theorem dL_act_218 : decode cL_act 218 = .ok (.ishr, 1) := by decide +kernel
theorem dL_act_219 : decode cL_act 219 = .ok (.iconst 5, 1) := by decide +kernel
theorem dL_act_220 : decode cL_act 220 = .ok (.invokestatic 18, 3) := by decide +kernel
theorem dL_act_223 : decode cL_act 223 = .ok (.invokevirtual 63, 3) := by decide +kernel
theorem dL_act_226 : decode cL_act 226 = .ok (.bipush 100, 2) := by decide +kernel
theorem dL_act_228 : decode cL_act 228 = .ok (.if_icmp .ge 7, 3) := by decide +kernel
theorem dL_act_231 : decode cL_act 231 = .ok (.iconst 1, 1) := by decide +kernel
theorem dL_act_232 : decode cL_act 232 = .ok (.goto 4, 3) := by decide +kernel
theorem dL_act_235 : decode cL_act 235 = .ok (.iconst 0, 1) := by decide +kernel
theorem dL_act_236 : decode cL_act 236 = .ok (.ireturn, 1) := by decide +kernel
theorem dL_act_237 : decode cL_act 237 = .ok (.aload_n 0, 1) := by decide +kernel
theorem dL_act_238 : decode cL_act 238 = .ok (.iload_n 1, 1) := by decide +kernel
theorem dL_act_239 : decode cL_act 239 = .ok (.iconst 4, 1) := by decide +kernel
theorem dL_act_240 : decode cL_act 240 = .ok (.ishr, 1) := by decide +kernel
theorem dL_act_241 : decode cL_act 241 = .ok (.iconst 3, 1) := by decide +kernel
theorem dL_act_242 : decode cL_act 242 = .ok (.invokestatic 18, 3) := by decide +kernel
theorem dL_act_245 : decode cL_act 245 = .ok (.iload_n 1, 1) := by decide +kernel
theorem dL_act_246 : decode cL_act 246 = .ok (.bipush 6, 2) := by decide +kernel
theorem dL_act_248 : decode cL_act 248 = .ok (.ishr, 1) := by decide +kernel
theorem dL_act_249 : decode cL_act 249 = .ok (.iconst 3, 1) := by decide +kernel
theorem dL_act_250 : decode cL_act 250 = .ok (.invokestatic 18, 3) := by decide +kernel
theorem dL_act_253 : decode cL_act 253 = .ok (.invokevirtual 66, 3) := by decide +kernel
theorem dL_act_256 : decode cL_act 256 = .ok (.bipush 10, 2) := by decide +kernel
theorem dL_act_258 : decode cL_act 258 = .ok (.if_icmp .ge 7, 3) := by decide +kernel
theorem dL_act_261 : decode cL_act 261 = .ok (.iconst 1, 1) := by decide +kernel
theorem dL_act_262 : decode cL_act 262 = .ok (.goto 4, 3) := by decide +kernel
theorem dL_act_265 : decode cL_act 265 = .ok (.iconst 0, 1) := by decide +kernel
theorem dL_act_266 : decode cL_act 266 = .ok (.ireturn, 1) := by decide +kernel
theorem dL_act_267 : decode cL_act 267 = .ok (.aload_n 0, 1) := by decide +kernel
theorem dL_act_268 : decode cL_act 268 = .ok (.iload_n 1, 1) := by decide +kernel
theorem dL_act_269 : decode cL_act 269 = .ok (.iconst 4, 1) := by decide +kernel
theorem dL_act_270 : decode cL_act 270 = .ok (.ishr, 1) := by decide +kernel
theorem dL_act_271 : decode cL_act 271 = .ok (.iconst 4, 1) := by decide +kernel
theorem dL_act_272 : decode cL_act 272 = .ok (.invokestatic 18, 3) := by decide +kernel
theorem dL_act_275 : decode cL_act 275 = .ok (.invokevirtual 69, 3) := by decide +kernel
theorem dL_act_278 : decode cL_act 278 = .ok (.bipush 10, 2) := by decide +kernel
theorem dL_act_280 : decode cL_act 280 = .ok (.if_icmp .ge 7, 3) := by decide +kernel
theorem dL_act_283 : decode cL_act 283 = .ok (.iconst 1, 1) := by decide +kernel
theorem dL_act_284 : decode cL_act 284 = .ok (.goto 4, 3) := by decide +kernel
theorem dL_act_287 : decode cL_act 287 = .ok (.iconst 0, 1) := by decide +kernel
theorem dL_act_288 : decode cL_act 288 = .ok (.ireturn, 1) := by decide +kernel
theorem dL_act_289 : decode cL_act 289 = .ok (.aload_n 0, 1) := by decide +kernel
theorem dL_act_290 : decode cL_act 290 = .ok (.iconst 5, 1) := by decide +kernel
theorem dL_act_291 : decode cL_act 291 = .ok (.invokevirtual 29, 3) := by decide +kernel
theorem dL_act_294 : decode cL_act 294 = .ok (.istore 8, 2) := by decide +kernel
theorem dL_act_296 : decode cL_act 296 = .ok (.aload_n 0, 1) := by decide +kernel
theorem dL_act_297 : decode cL_act 297 = .ok (.iload 4, 2) := by decide +kernel
theorem dL_act_299 : decode cL_act 299 = .ok (.iload_n 1, 1) := by decide +kernel
theorem dL_act_300 : decode cL_act 300 = .ok (.iconst 4, 1) := by decide +kernel
theorem dL_act_301 : decode cL_act 301 = .ok (.ishr, 1) := by decide +kernel
theorem dL_act_302 : decode cL_act 302 = .ok (.bipush 101, 2) := by decide +kernel
theorem dL_act_304 : decode cL_act 304 = .ok (.invokestatic 18, 3) := by decide +kernel
theorem dL_act_307 : decode cL_act 307 = .ok (.invokevirtual 72, 3) := by decide +kernel
theorem dL_act_310 : decode cL_act 310 = .ok (.aload_n 0, 1) := by decide +kernel
theorem dL_act_311 : decode cL_act 311 = .ok (.iconst 5, 1) := by decide +kernel
theorem dL_act_312 : decode cL_act 312 = .ok (.invokevirtual 29, 3) := by decide +kernel
theorem dL_act_315 : decode cL_act 315 = .ok (.iload 8, 2) := by decide +kernel
theorem dL_act_317 : decode cL_act 317 = .ok (.isub, 1) := by decide +kernel
theorem dL_act_318 : decode cL_act 318 = .ok (.if_icmp .ne 25, 3) := by decide +kernel
theorem dL_act_321 : decode cL_act 321 = .ok (.aload_n 0, 1) := by decide +kernel
theorem dL_act_322 : decode cL_act 322 = .ok (.iload 4, 2) := by decide +kernel
theorem dL_act_324 : decode cL_act 324 = .ok (.iconst 1, 1) := by decide +kernel
theorem dL_act_325 : decode cL_act 325 = .ok (.invokevirtual 75, 3) := by decide +kernel
theorem dL_act_328 : decode cL_act 328 = .ok (.iload_n 1, 1) := by decide +kernel
theorem dL_act_329 : decode cL_act 329 = .ok (.iconst 4, 1) := by decide +kernel
theorem dL_act_330 : decode cL_act 330 = .ok (.ishr, 1) := by decide +kernel
theorem dL_act_331 : decode cL_act 331 = .ok (.bipush 101, 2) := by decide +kernel
theorem dL_act_333 : decode cL_act 333 = .ok (.invokestatic 18, 3) := by decide +kernel
theorem dL_act_336 : decode cL_act 336 = .ok (.if_icmp .gt 7, 3) := by decide +kernel
theorem dL_act_339 : decode cL_act 339 = .ok (.iconst 1, 1) := by decide +kernel
theorem dL_act_340 : decode cL_act 340 = .ok (.goto 4, 3) := by decide +kernel
theorem dL_act_343 : decode cL_act 343 = .ok (.iconst 0, 1) := by decide +kernel
theorem dL_act_344 : decode cL_act 344 = .ok (.ireturn, 1) := by decide +kernel
theorem dL_act_345 : decode cL_act 345 = .ok (.aload_n 0, 1) := by decide +kernel
theorem dL_act_346 : decode cL_act 346 = .ok (.bipush 9, 2) := by decide +kernel
theorem dL_act_348 : decode cL_act 348 = .ok (.invokevirtual 29, 3) := by decide +kernel
theorem dL_act_351 : decode cL_act 351 = .ok (.istore 9, 2) := by decide +kernel
theorem dL_act_353 : decode cL_act 353 = .ok (.aload_n 0, 1) := by decide +kernel
theorem dL_act_354 : decode cL_act 354 = .ok (.iload_n 1, 1) := by decide +kernel
theorem dL_act_355 : decode cL_act 355 = .ok (.iconst 4, 1) := by decide +kernel
theorem dL_act_356 : decode cL_act 356 = .ok (.ishr, 1) := by decide +kernel
theorem dL_act_357 : decode cL_act 357 = .ok (.iconst 1, 1) := by decide +kernel
theorem dL_act_358 : decode cL_act 358 = .ok (.aload_n 0, 1) := by decide +kernel
theorem dL_act_359 : decode cL_act 359 = .ok (.iconst 3, 1) := by decide +kernel
theorem dL_act_360 : decode cL_act 360 = .ok (.invokevirtual 29, 3) := by decide +kernel
theorem dL_act_363 : decode cL_act 363 = .ok (.invokestatic 51, 3) := by decide +kernel
theorem dL_act_366 : decode cL_act 366 = .ok (.invokestatic 18, 3) := by decide +kernel
theorem dL_act_369 : decode cL_act 369 = .ok (.invokevirtual 78, 3) := by decide +kernel
theorem dL_act_372 : decode cL_act 372 = .ok (.istore 10, 2) := by decide +kernel
theorem dL_act_374 : decode cL_act 374 = .ok (.aload_n 0, 1) := by decide +kernel
theorem dL_act_375 : decode cL_act 375 = .ok (.bipush 9, 2) := by decide +kernel
theorem dL_act_377 : decode cL_act 377 = .ok (.invokevirtual 29, 3) := by decide +kernel
theorem dL_act_380 : decode cL_act 380 = .ok (.iload 9, 2) := by decide +kernel
theorem dL_act_382 : decode cL_act 382 = .ok (.iload 10, 2) := by decide +kernel
theorem dL_act_384 : decode cL_act 384 = .ok (.iconst 2, 1) := by decide +kernel
theorem dL_act_385 : decode cL_act 385 = .ok (.if_icmp .ne 7, 3) := by decide +kernel
theorem dL_act_388 : decode cL_act 388 = .ok (.iconst 1, 1) := by decide +kernel
theorem dL_act_389 : decode cL_act 389 = .ok (.goto 4, 3) := by decide +kernel
theorem dL_act_392 : decode cL_act 392 = .ok (.iconst 0, 1) := by decide +kernel
theorem dL_act_393 : decode cL_act 393 = .ok (.iadd, 1) := by decide +kernel
theorem dL_act_394 : decode cL_act 394 = .ok (.if_icmp .ne 7, 3) := by decide +kernel
theorem dL_act_397 : decode cL_act 397 = .ok (.iconst 1, 1) := by decide +kernel
theorem dL_act_398 : decode cL_act 398 = .ok (.goto 4, 3) := by decide +kernel
theorem dL_act_401 : decode cL_act 401 = .ok (.iconst 0, 1) := by decide +kernel
theorem dL_act_402 : decode cL_act 402 = .ok (.ireturn, 1) := by decide +kernel
theorem dL_act_403 : decode cL_act 403 = .ok (.aload_n 0, 1) := by decide +kernel
theorem dL_act_404 : decode cL_act 404 = .ok (.iload 4, 2) := by decide +kernel
theorem dL_act_406 : decode cL_act 406 = .ok (.iload 5, 2) := by decide +kernel
theorem dL_act_408 : decode cL_act 408 = .ok (.invokevirtual 81, 3) := by decide +kernel
theorem dL_act_411 : decode cL_act 411 = .ok (.istore 11, 2) := by decide +kernel
theorem dL_act_413 : decode cL_act 413 = .ok (.aload_n 0, 1) := by decide +kernel
theorem dL_act_414 : decode cL_act 414 = .ok (.bipush 8, 2) := by decide +kernel
theorem dL_act_416 : decode cL_act 416 = .ok (.invokevirtual 29, 3) := by decide +kernel
theorem dL_act_419 : decode cL_act 419 = .ok (.istore 12, 2) := by decide +kernel
theorem dL_act_421 : decode cL_act 421 = .ok (.aload_n 0, 1) := by decide +kernel
theorem dL_act_422 : decode cL_act 422 = .ok (.iload 4, 2) := by decide +kernel
theorem dL_act_424 : decode cL_act 424 = .ok (.iload 5, 2) := by decide +kernel
theorem dL_act_426 : decode cL_act 426 = .ok (.invokevirtual 84, 3) := by decide +kernel
theorem dL_act_429 : decode cL_act 429 = .ok (.istore 13, 2) := by decide +kernel
theorem dL_act_431 : decode cL_act 431 = .ok (.aload_n 0, 1) := by decide +kernel
theorem dL_act_432 : decode cL_act 432 = .ok (.iload 4, 2) := by decide +kernel
theorem dL_act_434 : decode cL_act 434 = .ok (.iload 5, 2) := by decide +kernel
theorem dL_act_436 : decode cL_act 436 = .ok (.invokevirtual 88, 3) := by decide +kernel
theorem dL_act_439 : decode cL_act 439 = .ok (.istore 14, 2) := by decide +kernel
theorem dL_act_441 : decode cL_act 441 = .ok (.iload 11, 2) := by decide +kernel
theorem dL_act_443 : decode cL_act 443 = .ok (.ifCond .lt 53, 3) := by decide +kernel
theorem dL_act_446 : decode cL_act 446 = .ok (.aload_n 0, 1) := by decide +kernel
theorem dL_act_447 : decode cL_act 447 = .ok (.bipush 8, 2) := by decide +kernel
theorem dL_act_449 : decode cL_act 449 = .ok (.invokevirtual 29, 3) := by decide +kernel
theorem dL_act_452 : decode cL_act 452 = .ok (.iload 12, 2) := by decide +kernel
theorem dL_act_454 : decode cL_act 454 = .ok (.iload 11, 2) := by decide +kernel
theorem dL_act_456 : decode cL_act 456 = .ok (.iadd, 1) := by decide +kernel
theorem dL_act_457 : decode cL_act 457 = .ok (.if_icmp .ne 39, 3) := by decide +kernel
theorem dL_act_460 : decode cL_act 460 = .ok (.iload 13, 2) := by decide +kernel
theorem dL_act_462 : decode cL_act 462 = .ok (.iload 14, 2) := by decide +kernel
theorem dL_act_464 : decode cL_act 464 = .ok (.aload_n 0, 1) := by decide +kernel
theorem dL_act_465 : decode cL_act 465 = .ok (.iload 5, 2) := by decide +kernel
theorem dL_act_467 : decode cL_act 467 = .ok (.bipush 6, 2) := by decide +kernel
theorem dL_act_469 : decode cL_act 469 = .ok (.invokevirtual 60, 3) := by decide +kernel
theorem dL_act_472 : decode cL_act 472 = .ok (.if_icmp .eq 7, 3) := by decide +kernel
theorem dL_act_475 : decode cL_act 475 = .ok (.iconst 1, 1) := by decide +kernel
theorem dL_act_476 : decode cL_act 476 = .ok (.goto 4, 3) := by decide +kernel
theorem dL_act_479 : decode cL_act 479 = .ok (.iconst 0, 1) := by decide +kernel
theorem dL_act_480 : decode cL_act 480 = .ok (.if_icmp .ne 16, 3) := by decide +kernel
theorem dL_act_483 : decode cL_act 483 = .ok (.iload_n 3, 1) := by decide +kernel
theorem dL_act_484 : decode cL_act 484 = .ok (.ifCond .eq 8, 3) := by decide +kernel
theorem dL_act_487 : decode cL_act 487 = .ok (.iload 13, 2) := by decide +kernel
theorem dL_act_489 : decode cL_act 489 = .ok (.ifCond .ne 7, 3) := by decide +kernel
theorem dL_act_492 : decode cL_act 492 = .ok (.iconst 1, 1) := by decide +kernel
theorem dL_act_493 : decode cL_act 493 = .ok (.goto 4, 3) := by decide +kernel
theorem dL_act_496 : decode cL_act 496 = .ok (.iconst 0, 1) := by decide +kernel
theorem dL_act_497 : decode cL_act 497 = .ok (.ireturn, 1) := by decide +kernel
theorem dL_act_498 : decode cL_act 498 = .ok (.astore 6, 2) := by decide +kernel
theorem dL_act_500 : decode cL_act 500 = .ok (.aload_n 0, 1) := by decide +kernel
theorem dL_act_501 : decode cL_act 501 = .ok (.iconst 0, 1) := by decide +kernel
theorem dL_act_502 : decode cL_act 502 = .ok (.invokevirtual 29, 3) := by decide +kernel
theorem dL_act_505 : decode cL_act 505 = .ok (.iload_n 2, 1) := by decide +kernel
theorem dL_act_506 : decode cL_act 506 = .ok (.if_icmp .ne 19, 3) := by decide +kernel
theorem dL_act_509 : decode cL_act 509 = .ok (.iload_n 2, 1) := by decide +kernel
theorem dL_act_510 : decode cL_act 510 = .ok (.ifCond .eq 11, 3) := by decide +kernel
theorem dL_act_513 : decode cL_act 513 = .ok (.aload_n 0, 1) := by decide +kernel
theorem dL_act_514 : decode cL_act 514 = .ok (.iconst 3, 1) := by decide +kernel
theorem dL_act_515 : decode cL_act 515 = .ok (.invokevirtual 29, 3) := by decide +kernel
theorem dL_act_518 : decode cL_act 518 = .ok (.ifCond .ne 7, 3) := by decide +kernel
theorem dL_act_521 : decode cL_act 521 = .ok (.iconst 1, 1) := by decide +kernel
theorem dL_act_522 : decode cL_act 522 = .ok (.goto 4, 3) := by decide +kernel
theorem dL_act_525 : decode cL_act 525 = .ok (.iconst 0, 1) := by decide +kernel
theorem dL_act_526 : decode cL_act 526 = .ok (.ireturn, 1) := by decide +kernel
theorem dL_act_527 : decode cL_act 527 = .ok (.astore 6, 2) := by decide +kernel
theorem dL_act_529 : decode cL_act 529 = .ok (.aload_n 0, 1) := by decide +kernel
theorem dL_act_530 : decode cL_act 530 = .ok (.iconst 0, 1) := by decide +kernel
theorem dL_act_531 : decode cL_act 531 = .ok (.invokevirtual 29, 3) := by decide +kernel
theorem dL_act_534 : decode cL_act 534 = .ok (.iload_n 2, 1) := by decide +kernel
theorem dL_act_535 : decode cL_act 535 = .ok (.if_icmp .ne 37, 3) := by decide +kernel
theorem dL_act_538 : decode cL_act 538 = .ok (.iload_n 1, 1) := by decide +kernel
theorem dL_act_539 : decode cL_act 539 = .ok (.bipush 14, 2) := by decide +kernel
theorem dL_act_541 : decode cL_act 541 = .ok (.invokestatic 18, 3) := by decide +kernel
theorem dL_act_544 : decode cL_act 544 = .ok (.iconst 2, 1) := by decide +kernel
theorem dL_act_545 : decode cL_act 545 = .ok (.if_icmp .ge 12, 3) := by decide +kernel
theorem dL_act_548 : decode cL_act 548 = .ok (.iload_n 2, 1) := by decide +kernel
theorem dL_act_549 : decode cL_act 549 = .ok (.bipush 14, 2) := by decide +kernel
theorem dL_act_551 : decode cL_act 551 = .ok (.if_icmp .ne 21, 3) := by decide +kernel
theorem dL_act_554 : decode cL_act 554 = .ok (.goto 14, 3) := by decide +kernel
theorem dL_act_557 : decode cL_act 557 = .ok (.iload_n 1, 1) := by decide +kernel
theorem dL_act_558 : decode cL_act 558 = .ok (.bipush 14, 2) := by decide +kernel
theorem dL_act_560 : decode cL_act 560 = .ok (.invokestatic 18, 3) := by decide +kernel
theorem dL_act_563 : decode cL_act 563 = .ok (.bipush 6, 2) := by decide +kernel
theorem dL_act_565 : decode cL_act 565 = .ok (.if_icmp .le 7, 3) := by decide +kernel
theorem dL_act_568 : decode cL_act 568 = .ok (.iconst 1, 1) := by decide +kernel
theorem dL_act_569 : decode cL_act 569 = .ok (.goto 4, 3) := by decide +kernel
theorem dL_act_572 : decode cL_act 572 = .ok (.iconst 0, 1) := by decide +kernel
theorem dL_act_573 : decode cL_act 573 = .ok (.ireturn, 1) := by decide +kernel
theorem dL_areEntriesRight_0 : decode cL_areEntriesRight 0 = .ok (.iconst 0, 1) := by decide +kernel
theorem dL_areEntriesRight_1 : decode cL_areEntriesRight 1 = .ok (.istore_n 1, 1) := by decide +kernel
theorem dL_areEntriesRight_2 : decode cL_areEntriesRight 2 = .ok (.iload_n 1, 1) := by decide +kernel
theorem dL_areEntriesRight_3 : decode cL_areEntriesRight 3 = .ok (.aload_n 0, 1) := by decide +kernel
theorem dL_areEntriesRight_4 : decode cL_areEntriesRight 4 = .ok (.iconst 3, 1) := by decide +kernel
theorem dL_areEntriesRight_5 : decode cL_areEntriesRight 5 = .ok (.invokevirtual 29, 3) := by decide +kernel
theorem dL_areEntriesRight_8 : decode cL_areEntriesRight 8 = .ok (.if_icmp .ge 214, 3) := by decide +kernel
theorem dL_areEntriesRight_11 : decode cL_areEntriesRight 11 = .ok (.aload_n 0, 1) := by decide +kernel
theorem dL_areEntriesRight_12 : decode cL_areEntriesRight 12 = .ok (.iload_n 1, 1) := by decide +kernel
theorem dL_areEntriesRight_13 : decode cL_areEntriesRight 13 = .ok (.iconst 5, 1) := by decide +kernel
theorem dL_areEntriesRight_14 : decode cL_areEntriesRight 14 = .ok (.invokevirtual 95, 3) := by decide +kernel
theorem dL_areEntriesRight_17 : decode cL_areEntriesRight 17 = .ok (.istore_n 2, 1) := by decide +kernel
theorem dL_areEntriesRight_18 : decode cL_areEntriesRight 18 = .ok (.aload_n 0, 1) := by decide +kernel
theorem dL_areEntriesRight_19 : decode cL_areEntriesRight 19 = .ok (.iload_n 1, 1) := by decide +kernel
theorem dL_areEntriesRight_20 : decode cL_areEntriesRight 20 = .ok (.iconst 0, 1) := by decide +kernel
theorem dL_areEntriesRight_21 : decode cL_areEntriesRight 21 = .ok (.invokevirtual 95, 3) := by decide +kernel
theorem dL_areEntriesRight_24 : decode cL_areEntriesRight 24 = .ok (.istore_n 3, 1) := by decide +kernel
theorem dL_areEntriesRight_25 : decode cL_areEntriesRight 25 = .ok (.iload_n 2, 1) := by decide +kernel
theorem dL_areEntriesRight_26 : decode cL_areEntriesRight 26 = .ok (.ifCond .lt 64, 3) := by decide +kernel
theorem dL_areEntriesRight_29 : decode cL_areEntriesRight 29 = .ok (.iload_n 2, 1) := by decide +kernel
theorem dL_areEntriesRight_30 : decode cL_areEntriesRight 30 = .ok (.iconst 2, 1) := by decide +kernel
theorem dL_areEntriesRight_31 : decode cL_areEntriesRight 31 = .ok (.if_icmp .gt 59, 3) := by decide +kernel
theorem dL_areEntriesRight_34 : decode cL_areEntriesRight 34 = .ok (.aload_n 0, 1) := by decide +kernel
theorem dL_areEntriesRight_35 : decode cL_areEntriesRight 35 = .ok (.iload_n 1, 1) := by decide +kernel
theorem dL_areEntriesRight_36 : decode cL_areEntriesRight 36 = .ok (.bipush 6, 2) := by decide +kernel
theorem dL_areEntriesRight_38 : decode cL_areEntriesRight 38 = .ok (.invokevirtual 95, 3) := by decide +kernel
theorem dL_areEntriesRight_41 : decode cL_areEntriesRight 41 = .ok (.aload_n 0, 1) := by decide +kernel
theorem dL_areEntriesRight_42 : decode cL_areEntriesRight 42 = .ok (.iload_n 3, 1) := by decide +kernel
theorem dL_areEntriesRight_43 : decode cL_areEntriesRight 43 = .ok (.iconst 4, 1) := by decide +kernel
theorem dL_areEntriesRight_44 : decode cL_areEntriesRight 44 = .ok (.invokevirtual 60, 3) := by decide +kernel
theorem dL_areEntriesRight_47 : decode cL_areEntriesRight 47 = .ok (.aload_n 0, 1) := by decide +kernel
theorem dL_areEntriesRight_48 : decode cL_areEntriesRight 48 = .ok (.iload_n 1, 1) := by decide +kernel
theorem dL_areEntriesRight_49 : decode cL_areEntriesRight 49 = .ok (.iconst 4, 1) := by decide +kernel
theorem dL_areEntriesRight_50 : decode cL_areEntriesRight 50 = .ok (.invokevirtual 95, 3) := by decide +kernel
theorem dL_areEntriesRight_53 : decode cL_areEntriesRight 53 = .ok (.iconst 1, 1) := by decide +kernel
theorem dL_areEntriesRight_54 : decode cL_areEntriesRight 54 = .ok (.iadd, 1) := by decide +kernel
theorem dL_areEntriesRight_55 : decode cL_areEntriesRight 55 = .ok (.imul, 1) := by decide +kernel
theorem dL_areEntriesRight_56 : decode cL_areEntriesRight 56 = .ok (.bipush 10, 2) := by decide +kernel
theorem dL_areEntriesRight_58 : decode cL_areEntriesRight 58 = .ok (.imul, 1) := by decide +kernel
theorem dL_areEntriesRight_59 : decode cL_areEntriesRight 59 = .ok (.aload_n 0, 1) := by decide +kernel
theorem dL_areEntriesRight_60 : decode cL_areEntriesRight 60 = .ok (.iload_n 3, 1) := by decide +kernel
theorem dL_areEntriesRight_61 : decode cL_areEntriesRight 61 = .ok (.iconst 5, 1) := by decide +kernel
theorem dL_areEntriesRight_62 : decode cL_areEntriesRight 62 = .ok (.invokevirtual 60, 3) := by decide +kernel
theorem dL_areEntriesRight_65 : decode cL_areEntriesRight 65 = .ok (.idiv, 1) := by decide +kernel
theorem dL_areEntriesRight_66 : decode cL_areEntriesRight 66 = .ok (.if_icmp .ne 24, 3) := by decide +kernel
theorem dL_areEntriesRight_69 : decode cL_areEntriesRight 69 = .ok (.aload_n 0, 1) := by decide +kernel
theorem dL_areEntriesRight_70 : decode cL_areEntriesRight 70 = .ok (.iload_n 1, 1) := by decide +kernel
theorem dL_areEntriesRight_71 : decode cL_areEntriesRight 71 = .ok (.iconst 3, 1) := by decide +kernel
theorem dL_areEntriesRight_72 : decode cL_areEntriesRight 72 = .ok (.invokevirtual 95, 3) := by decide +kernel
theorem dL_areEntriesRight_75 : decode cL_areEntriesRight 75 = .ok (.ifCond .lt 15, 3) := by decide +kernel
theorem dL_areEntriesRight_78 : decode cL_areEntriesRight 78 = .ok (.aload_n 0, 1) := by decide +kernel
theorem dL_areEntriesRight_79 : decode cL_areEntriesRight 79 = .ok (.iload_n 1, 1) := by decide +kernel
theorem dL_areEntriesRight_80 : decode cL_areEntriesRight 80 = .ok (.iconst 3, 1) := by decide +kernel
theorem dL_areEntriesRight_81 : decode cL_areEntriesRight 81 = .ok (.invokevirtual 95, 3) := by decide +kernel
theorem dL_areEntriesRight_84 : decode cL_areEntriesRight 84 = .ok (.sipush 996, 3) := by decide +kernel
theorem dL_areEntriesRight_87 : decode cL_areEntriesRight 87 = .ok (.if_icmp .le 5, 3) := by decide +kernel
theorem dL_areEntriesRight_90 : decode cL_areEntriesRight 90 = .ok (.iconst 0, 1) := by decide +kernel
theorem dL_areEntriesRight_91 : decode cL_areEntriesRight 91 = .ok (.ireturn, 1) := by decide +kernel
theorem dL_areEntriesRight_92 : decode cL_areEntriesRight 92 = .ok (.iconst 0, 1) := by decide +kernel
theorem dL_areEntriesRight_93 : decode cL_areEntriesRight 93 = .ok (.istore 4, 2) := by decide +kernel
theorem dL_areEntriesRight_95 : decode cL_areEntriesRight 95 = .ok (.iconst 0, 1) := by decide +kernel
theorem dL_areEntriesRight_96 : decode cL_areEntriesRight 96 = .ok (.istore 5, 2) := by decide +kernel
theorem dL_areEntriesRight_98 : decode cL_areEntriesRight 98 = .ok (.iload 5, 2) := by decide +kernel
theorem dL_areEntriesRight_100 : decode cL_areEntriesRight 100 = .ok (.iload_n 3, 1) := by decide +kernel
theorem dL_areEntriesRight_101 : decode cL_areEntriesRight 101 = .ok (.if_icmp .ge 103, 3) := by decide +kernel
theorem dL_areEntriesRight_104 : decode cL_areEntriesRight 104 = .ok (.aload_n 0, 1) := by decide +kernel
theorem dL_areEntriesRight_105 : decode cL_areEntriesRight 105 = .ok (.iload_n 3, 1) := by decide +kernel
theorem dL_areEntriesRight_106 : decode cL_areEntriesRight 106 = .ok (.iconst 1, 1) := by decide +kernel
theorem dL_areEntriesRight_107 : decode cL_areEntriesRight 107 = .ok (.invokevirtual 60, 3) := by decide +kernel
theorem dL_areEntriesRight_110 : decode cL_areEntriesRight 110 = .ok (.iload 5, 2) := by decide +kernel
theorem dL_areEntriesRight_112 : decode cL_areEntriesRight 112 = .ok (.ishr, 1) := by decide +kernel
theorem dL_areEntriesRight_113 : decode cL_areEntriesRight 113 = .ok (.iconst 1, 1) := by decide +kernel
theorem dL_areEntriesRight_114 : decode cL_areEntriesRight 114 = .ok (.iand, 1) := by decide +kernel
theorem dL_areEntriesRight_115 : decode cL_areEntriesRight 115 = .ok (.ifCond .ne 6, 3) := by decide +kernel
theorem dL_areEntriesRight_118 : decode cL_areEntriesRight 118 = .ok (.goto 80, 3) := by decide +kernel
theorem dL_areEntriesRight_121 : decode cL_areEntriesRight 121 = .ok (.aload_n 0, 1) := by decide +kernel
theorem dL_areEntriesRight_122 : decode cL_areEntriesRight 122 = .ok (.iload_n 1, 1) := by decide +kernel
theorem dL_areEntriesRight_123 : decode cL_areEntriesRight 123 = .ok (.iload 5, 2) := by decide +kernel
theorem dL_areEntriesRight_125 : decode cL_areEntriesRight 125 = .ok (.invokevirtual 98, 3) := by decide +kernel
theorem dL_areEntriesRight_128 : decode cL_areEntriesRight 128 = .ok (.istore 6, 2) := by decide +kernel
theorem dL_areEntriesRight_130 : decode cL_areEntriesRight 130 = .ok (.iload 6, 2) := by decide +kernel
theorem dL_areEntriesRight_132 : decode cL_areEntriesRight 132 = .ok (.ifCond .lt 37, 3) := by decide +kernel
theorem dL_areEntriesRight_135 : decode cL_areEntriesRight 135 = .ok (.iload 6, 2) := by decide +kernel
theorem dL_areEntriesRight_137 : decode cL_areEntriesRight 137 = .ok (.aload_n 0, 1) := by decide +kernel
theorem dL_areEntriesRight_138 : decode cL_areEntriesRight 138 = .ok (.iconst 3, 1) := by decide +kernel
theorem dL_areEntriesRight_139 : decode cL_areEntriesRight 139 = .ok (.invokevirtual 29, 3) := by decide +kernel
theorem dL_areEntriesRight_142 : decode cL_areEntriesRight 142 = .ok (.if_icmp .ge 27, 3) := by decide +kernel
theorem dL_areEntriesRight_145 : decode cL_areEntriesRight 145 = .ok (.aload_n 0, 1) := by decide +kernel
theorem dL_areEntriesRight_146 : decode cL_areEntriesRight 146 = .ok (.iload 6, 2) := by decide +kernel
theorem dL_areEntriesRight_148 : decode cL_areEntriesRight 148 = .ok (.iconst 0, 1) := by decide +kernel
theorem dL_areEntriesRight_149 : decode cL_areEntriesRight 149 = .ok (.invokevirtual 95, 3) := by decide +kernel
theorem dL_areEntriesRight_152 : decode cL_areEntriesRight 152 = .ok (.iload 5, 2) := by decide +kernel
theorem dL_areEntriesRight_154 : decode cL_areEntriesRight 154 = .ok (.if_icmp .ne 15, 3) := by decide +kernel
theorem dL_areEntriesRight_157 : decode cL_areEntriesRight 157 = .ok (.aload_n 0, 1) := by decide +kernel
theorem dL_areEntriesRight_158 : decode cL_areEntriesRight 158 = .ok (.iload 6, 2) := by decide +kernel
theorem dL_areEntriesRight_160 : decode cL_areEntriesRight 160 = .ok (.bipush 7, 2) := by decide +kernel
theorem dL_areEntriesRight_162 : decode cL_areEntriesRight 162 = .ok (.invokevirtual 95, 3) := by decide +kernel
theorem dL_areEntriesRight_165 : decode cL_areEntriesRight 165 = .ok (.iconst 1, 1) := by decide +kernel
theorem dL_areEntriesRight_166 : decode cL_areEntriesRight 166 = .ok (.if_icmp .ge 5, 3) := by decide +kernel
theorem dL_areEntriesRight_169 : decode cL_areEntriesRight 169 = .ok (.iconst 0, 1) := by decide +kernel
theorem dL_areEntriesRight_170 : decode cL_areEntriesRight 170 = .ok (.ireturn, 1) := by decide +kernel
theorem dL_areEntriesRight_171 : decode cL_areEntriesRight 171 = .ok (.iload 4, 2) := by decide +kernel
theorem dL_areEntriesRight_173 : decode cL_areEntriesRight 173 = .ok (.aload_n 0, 1) := by decide +kernel
theorem dL_areEntriesRight_174 : decode cL_areEntriesRight 174 = .ok (.iload 6, 2) := by decide +kernel
theorem dL_areEntriesRight_176 : decode cL_areEntriesRight 176 = .ok (.iconst 5, 1) := by decide +kernel
theorem dL_areEntriesRight_177 : decode cL_areEntriesRight 177 = .ok (.invokevirtual 95, 3) := by decide +kernel
theorem dL_areEntriesRight_180 : decode cL_areEntriesRight 180 = .ok (.iconst 2, 1) := by decide +kernel
theorem dL_areEntriesRight_181 : decode cL_areEntriesRight 181 = .ok (.if_icmp .ne 13, 3) := by decide +kernel
theorem dL_areEntriesRight_184 : decode cL_areEntriesRight 184 = .ok (.iload 6, 2) := by decide +kernel
theorem dL_areEntriesRight_186 : decode cL_areEntriesRight 186 = .ok (.iload_n 1, 1) := by decide +kernel
theorem dL_areEntriesRight_187 : decode cL_areEntriesRight 187 = .ok (.if_icmp .ge 7, 3) := by decide +kernel
theorem dL_areEntriesRight_190 : decode cL_areEntriesRight 190 = .ok (.iconst 1, 1) := by decide +kernel
theorem dL_areEntriesRight_191 : decode cL_areEntriesRight 191 = .ok (.goto 4, 3) := by decide +kernel
theorem dL_areEntriesRight_194 : decode cL_areEntriesRight 194 = .ok (.iconst 0, 1) := by decide +kernel
theorem dL_areEntriesRight_195 : decode cL_areEntriesRight 195 = .ok (.ior, 1) := by decide +kernel
theorem dL_areEntriesRight_196 : decode cL_areEntriesRight 196 = .ok (.istore 4, 2) := by decide +kernel
theorem dL_areEntriesRight_198 : decode cL_areEntriesRight 198 = .ok (.iinc 5 1, 3) := by decide +kernel
theorem dL_areEntriesRight_201 : decode cL_areEntriesRight 201 = .ok (.goto (-103), 3) := by decide +kernel
theorem dL_areEntriesRight_204 : decode cL_areEntriesRight 204 = .ok (.iload 4, 2) := by decide +kernel
theorem dL_areEntriesRight_206 : decode cL_areEntriesRight 206 = .ok (.ifCond .eq 10, 3) := by decide +kernel
theorem dL_areEntriesRight_209 : decode cL_areEntriesRight 209 = .ok (.iload_n 2, 1) := by decide +kernel
theorem dL_areEntriesRight_210 : decode cL_areEntriesRight 210 = .ok (.iconst 2, 1) := by decide +kernel
theorem dL_areEntriesRight_211 : decode cL_areEntriesRight 211 = .ok (.if_icmp .eq 5, 3) := by decide +kernel
theorem dL_areEntriesRight_214 : decode cL_areEntriesRight 214 = .ok (.iconst 0, 1) := by decide +kernel
theorem dL_areEntriesRight_215 : decode cL_areEntriesRight 215 = .ok (.ireturn, 1) := by decide +kernel
theorem dL_areEntriesRight_216 : decode cL_areEntriesRight 216 = .ok (.iinc 1 1, 3) := by decide +kernel
theorem dL_areEntriesRight_219 : decode cL_areEntriesRight 219 = .ok (.goto (-217), 3) := by decide +kernel
theorem dL_areEntriesRight_222 : decode cL_areEntriesRight 222 = .ok (.iconst 1, 1) := by decide +kernel
theorem dL_areEntriesRight_223 : decode cL_areEntriesRight 223 = .ok (.ireturn, 1) := by decide +kernel
theorem dL_areSumsRight_0 : decode cL_areSumsRight 0 = .ok (.iconst 3, 1) := by decide +kernel
theorem dL_areSumsRight_1 : decode cL_areSumsRight 1 = .ok (.newarray .int, 2) := by decide +kernel
theorem dL_areSumsRight_3 : decode cL_areSumsRight 3 = .ok (.astore_n 1, 1) := by decide +kernel
theorem dL_areSumsRight_4 : decode cL_areSumsRight 4 = .ok (.iconst 2, 1) := by decide +kernel
theorem dL_areSumsRight_5 : decode cL_areSumsRight 5 = .ok (.newarray .int, 2) := by decide +kernel
theorem dL_areSumsRight_7 : decode cL_areSumsRight 7 = .ok (.astore_n 2, 1) := by decide +kernel
theorem dL_areSumsRight_8 : decode cL_areSumsRight 8 = .ok (.iconst 2, 1) := by decide +kernel
theorem dL_areSumsRight_9 : decode cL_areSumsRight 9 = .ok (.newarray .int, 2) := by decide +kernel
theorem dL_areSumsRight_11 : decode cL_areSumsRight 11 = .ok (.astore_n 3, 1) := by decide +kernel
theorem dL_areSumsRight_12 : decode cL_areSumsRight 12 = .ok (.iconst 0, 1) := by decide +kernel
theorem dL_areSumsRight_13 : decode cL_areSumsRight 13 = .ok (.istore 4, 2) := by decide +kernel
theorem dL_areSumsRight_15 : decode cL_areSumsRight 15 = .ok (.iconst 0, 1) := by decide +kernel
theorem dL_areSumsRight_16 : decode cL_areSumsRight 16 = .ok (.istore 5, 2) := by decide +kernel
theorem dL_areSumsRight_18 : decode cL_areSumsRight 18 = .ok (.iload 5, 2) := by decide +kernel
theorem dL_areSumsRight_20 : decode cL_areSumsRight 20 = .ok (.aload_n 0, 1) := by decide +kernel
theorem dL_areSumsRight_21 : decode cL_areSumsRight 21 = .ok (.iconst 3, 1) := by decide +kernel
theorem dL_areSumsRight_22 : decode cL_areSumsRight 22 = .ok (.invokevirtual 29, 3) := by decide +kernel
theorem dL_areSumsRight_25 : decode cL_areSumsRight 25 = .ok (.if_icmp .ge 84, 3) := by decide +kernel
theorem dL_areSumsRight_28 : decode cL_areSumsRight 28 = .ok (.aload_n 1, 1) := by decide +kernel
theorem dL_areSumsRight_29 : decode cL_areSumsRight 29 = .ok (.aload_n 0, 1) := by decide +kernel
theorem dL_areSumsRight_30 : decode cL_areSumsRight 30 = .ok (.iload 5, 2) := by decide +kernel
theorem dL_areSumsRight_32 : decode cL_areSumsRight 32 = .ok (.iconst 5, 1) := by decide +kernel
theorem dL_areSumsRight_33 : decode cL_areSumsRight 33 = .ok (.invokevirtual 95, 3) := by decide +kernel
theorem dL_areSumsRight_36 : decode cL_areSumsRight 36 = .ok (.dup2, 1) := by decide +kernel
theorem dL_areSumsRight_37 : decode cL_areSumsRight 37 = .ok (.iaload, 1) := by decide +kernel
theorem dL_areSumsRight_38 : decode cL_areSumsRight 38 = .ok (.iconst 1, 1) := by decide +kernel
theorem dL_areSumsRight_39 : decode cL_areSumsRight 39 = .ok (.iadd, 1) := by decide +kernel
theorem dL_areSumsRight_40 : decode cL_areSumsRight 40 = .ok (.iastore, 1) := by decide +kernel
theorem dL_areSumsRight_41 : decode cL_areSumsRight 41 = .ok (.iload 4, 2) := by decide +kernel
theorem dL_areSumsRight_43 : decode cL_areSumsRight 43 = .ok (.aload_n 0, 1) := by decide +kernel
theorem dL_areSumsRight_44 : decode cL_areSumsRight 44 = .ok (.iload 5, 2) := by decide +kernel
theorem dL_areSumsRight_46 : decode cL_areSumsRight 46 = .ok (.iconst 4, 1) := by decide +kernel
theorem dL_areSumsRight_47 : decode cL_areSumsRight 47 = .ok (.invokevirtual 95, 3) := by decide +kernel
theorem dL_areSumsRight_50 : decode cL_areSumsRight 50 = .ok (.iadd, 1) := by decide +kernel
theorem dL_areSumsRight_51 : decode cL_areSumsRight 51 = .ok (.istore 4, 2) := by decide +kernel
theorem dL_areSumsRight_53 : decode cL_areSumsRight 53 = .ok (.aload_n 0, 1) := by decide +kernel
theorem dL_areSumsRight_54 : decode cL_areSumsRight 54 = .ok (.iload 5, 2) := by decide +kernel
theorem dL_areSumsRight_56 : decode cL_areSumsRight 56 = .ok (.iconst 5, 1) := by decide +kernel
theorem dL_areSumsRight_57 : decode cL_areSumsRight 57 = .ok (.invokevirtual 95, 3) := by decide +kernel
theorem dL_areSumsRight_60 : decode cL_areSumsRight 60 = .ok (.ifCond .le 6, 3) := by decide +kernel
theorem dL_areSumsRight_63 : decode cL_areSumsRight 63 = .ok (.goto 40, 3) := by decide +kernel
theorem dL_areSumsRight_66 : decode cL_areSumsRight 66 = .ok (.aload_n 2, 1) := by decide +kernel
theorem dL_areSumsRight_67 : decode cL_areSumsRight 67 = .ok (.aload_n 0, 1) := by decide +kernel
theorem dL_areSumsRight_68 : decode cL_areSumsRight 68 = .ok (.iload 5, 2) := by decide +kernel
theorem dL_areSumsRight_70 : decode cL_areSumsRight 70 = .ok (.iconst 2, 1) := by decide +kernel
theorem dL_areSumsRight_71 : decode cL_areSumsRight 71 = .ok (.invokevirtual 95, 3) := by decide +kernel
theorem dL_areSumsRight_74 : decode cL_areSumsRight 74 = .ok (.dup2, 1) := by decide +kernel
theorem dL_areSumsRight_75 : decode cL_areSumsRight 75 = .ok (.iaload, 1) := by decide +kernel
theorem dL_areSumsRight_76 : decode cL_areSumsRight 76 = .ok (.aload_n 0, 1) := by decide +kernel
theorem dL_areSumsRight_77 : decode cL_areSumsRight 77 = .ok (.aload_n 0, 1) := by decide +kernel
theorem dL_areSumsRight_78 : decode cL_areSumsRight 78 = .ok (.iload 5, 2) := by decide +kernel
theorem dL_areSumsRight_80 : decode cL_areSumsRight 80 = .ok (.iconst 0, 1) := by decide +kernel
theorem dL_areSumsRight_81 : decode cL_areSumsRight 81 = .ok (.invokevirtual 95, 3) := by decide +kernel
theorem dL_areSumsRight_84 : decode cL_areSumsRight 84 = .ok (.iconst 5, 1) := by decide +kernel
theorem dL_areSumsRight_85 : decode cL_areSumsRight 85 = .ok (.invokevirtual 60, 3) := by decide +kernel
theorem dL_areSumsRight_88 : decode cL_areSumsRight 88 = .ok (.iadd, 1) := by decide +kernel
theorem dL_areSumsRight_89 : decode cL_areSumsRight 89 = .ok (.iastore, 1) := by decide +kernel
theorem dL_areSumsRight_90 : decode cL_areSumsRight 90 = .ok (.aload_n 3, 1) := by decide +kernel
theorem dL_areSumsRight_91 : decode cL_areSumsRight 91 = .ok (.aload_n 0, 1) := by decide +kernel
theorem dL_areSumsRight_92 : decode cL_areSumsRight 92 = .ok (.iload 5, 2) := by decide +kernel
theorem dL_areSumsRight_94 : decode cL_areSumsRight 94 = .ok (.iconst 2, 1) := by decide +kernel
theorem dL_areSumsRight_95 : decode cL_areSumsRight 95 = .ok (.invokevirtual 95, 3) := by decide +kernel
theorem dL_areSumsRight_98 : decode cL_areSumsRight 98 = .ok (.dup2, 1) := by decide +kernel
theorem dL_areSumsRight_99 : decode cL_areSumsRight 99 = .ok (.iaload, 1) := by decide +kernel
theorem dL_areSumsRight_100 : decode cL_areSumsRight 100 = .ok (.iconst 1, 1) := by decide +kernel
theorem dL_areSumsRight_101 : decode cL_areSumsRight 101 = .ok (.iadd, 1) := by decide +kernel
theorem dL_areSumsRight_102 : decode cL_areSumsRight 102 = .ok (.iastore, 1) := by decide +kernel
theorem dL_areSumsRight_103 : decode cL_areSumsRight 103 = .ok (.iinc 5 1, 3) := by decide +kernel
theorem dL_areSumsRight_106 : decode cL_areSumsRight 106 = .ok (.goto (-88), 3) := by decide +kernel
theorem dL_areSumsRight_109 : decode cL_areSumsRight 109 = .ok (.iconst 0, 1) := by decide +kernel
theorem dL_areSumsRight_110 : decode cL_areSumsRight 110 = .ok (.istore 5, 2) := by decide +kernel
theorem dL_areSumsRight_112 : decode cL_areSumsRight 112 = .ok (.iload 5, 2) := by decide +kernel
theorem dL_areSumsRight_114 : decode cL_areSumsRight 114 = .ok (.iconst 3, 1) := by decide +kernel
theorem dL_areSumsRight_115 : decode cL_areSumsRight 115 = .ok (.if_icmp .ge 26, 3) := by decide +kernel
theorem dL_areSumsRight_118 : decode cL_areSumsRight 118 = .ok (.aload_n 0, 1) := by decide +kernel
theorem dL_areSumsRight_119 : decode cL_areSumsRight 119 = .ok (.iconst 4, 1) := by decide +kernel
theorem dL_areSumsRight_120 : decode cL_areSumsRight 120 = .ok (.iload 5, 2) := by decide +kernel
theorem dL_areSumsRight_122 : decode cL_areSumsRight 122 = .ok (.iadd, 1) := by decide +kernel
theorem dL_areSumsRight_123 : decode cL_areSumsRight 123 = .ok (.invokevirtual 29, 3) := by decide +kernel
theorem dL_areSumsRight_126 : decode cL_areSumsRight 126 = .ok (.aload_n 1, 1) := by decide +kernel
theorem dL_areSumsRight_127 : decode cL_areSumsRight 127 = .ok (.iload 5, 2) := by decide +kernel
theorem dL_areSumsRight_129 : decode cL_areSumsRight 129 = .ok (.iaload, 1) := by decide +kernel
theorem dL_areSumsRight_130 : decode cL_areSumsRight 130 = .ok (.if_icmp .eq 5, 3) := by decide +kernel
theorem dL_areSumsRight_133 : decode cL_areSumsRight 133 = .ok (.iconst 0, 1) := by decide +kernel
theorem dL_areSumsRight_134 : decode cL_areSumsRight 134 = .ok (.ireturn, 1) := by decide +kernel
theorem dL_areSumsRight_135 : decode cL_areSumsRight 135 = .ok (.iinc 5 1, 3) := by decide +kernel
theorem dL_areSumsRight_138 : decode cL_areSumsRight 138 = .ok (.goto (-26), 3) := by decide +kernel
theorem dL_areSumsRight_141 : decode cL_areSumsRight 141 = .ok (.iconst 0, 1) := by decide +kernel
theorem dL_areSumsRight_142 : decode cL_areSumsRight 142 = .ok (.istore 5, 2) := by decide +kernel
theorem dL_areSumsRight_144 : decode cL_areSumsRight 144 = .ok (.iload 5, 2) := by decide +kernel
theorem dL_areSumsRight_146 : decode cL_areSumsRight 146 = .ok (.iconst 2, 1) := by decide +kernel
theorem dL_areSumsRight_147 : decode cL_areSumsRight 147 = .ok (.if_icmp .ge 53, 3) := by decide +kernel
theorem dL_areSumsRight_150 : decode cL_areSumsRight 150 = .ok (.aload_n 0, 1) := by decide +kernel
theorem dL_areSumsRight_151 : decode cL_areSumsRight 151 = .ok (.iload 5, 2) := by decide +kernel
theorem dL_areSumsRight_153 : decode cL_areSumsRight 153 = .ok (.iconst 1, 1) := by decide +kernel
theorem dL_areSumsRight_154 : decode cL_areSumsRight 154 = .ok (.invokevirtual 75, 3) := by decide +kernel
theorem dL_areSumsRight_157 : decode cL_areSumsRight 157 = .ok (.aload_n 2, 1) := by decide +kernel
theorem dL_areSumsRight_158 : decode cL_areSumsRight 158 = .ok (.iload 5, 2) := by decide +kernel
theorem dL_areSumsRight_160 : decode cL_areSumsRight 160 = .ok (.iaload, 1) := by decide +kernel
theorem dL_areSumsRight_161 : decode cL_areSumsRight 161 = .ok (.if_icmp .ne 31, 3) := by decide +kernel
theorem dL_areSumsRight_164 : decode cL_areSumsRight 164 = .ok (.aload_n 2, 1) := by decide +kernel
theorem dL_areSumsRight_165 : decode cL_areSumsRight 165 = .ok (.iload 5, 2) := by decide +kernel
theorem dL_areSumsRight_167 : decode cL_areSumsRight 167 = .ok (.iaload, 1) := by decide +kernel
theorem dL_areSumsRight_168 : decode cL_areSumsRight 168 = .ok (.aload_n 0, 1) := by decide +kernel
theorem dL_areSumsRight_169 : decode cL_areSumsRight 169 = .ok (.iload 5, 2) := by decide +kernel
theorem dL_areSumsRight_171 : decode cL_areSumsRight 171 = .ok (.iconst 0, 1) := by decide +kernel
theorem dL_areSumsRight_172 : decode cL_areSumsRight 172 = .ok (.invokevirtual 75, 3) := by decide +kernel
theorem dL_areSumsRight_175 : decode cL_areSumsRight 175 = .ok (.if_icmp .gt 17, 3) := by decide +kernel
theorem dL_areSumsRight_178 : decode cL_areSumsRight 178 = .ok (.aload_n 0, 1) := by decide +kernel
theorem dL_areSumsRight_179 : decode cL_areSumsRight 179 = .ok (.iload 5, 2) := by decide +kernel
theorem dL_areSumsRight_181 : decode cL_areSumsRight 181 = .ok (.iconst 4, 1) := by decide +kernel
theorem dL_areSumsRight_182 : decode cL_areSumsRight 182 = .ok (.invokevirtual 75, 3) := by decide +kernel
theorem dL_areSumsRight_185 : decode cL_areSumsRight 185 = .ok (.aload_n 3, 1) := by decide +kernel
theorem dL_areSumsRight_186 : decode cL_areSumsRight 186 = .ok (.iload 5, 2) := by decide +kernel
theorem dL_areSumsRight_188 : decode cL_areSumsRight 188 = .ok (.iaload, 1) := by decide +kernel
theorem dL_areSumsRight_189 : decode cL_areSumsRight 189 = .ok (.if_icmp .eq 5, 3) := by decide +kernel
theorem dL_areSumsRight_192 : decode cL_areSumsRight 192 = .ok (.iconst 0, 1) := by decide +kernel
theorem dL_areSumsRight_193 : decode cL_areSumsRight 193 = .ok (.ireturn, 1) := by decide +kernel
theorem dL_areSumsRight_194 : decode cL_areSumsRight 194 = .ok (.iinc 5 1, 3) := by decide +kernel
theorem dL_areSumsRight_197 : decode cL_areSumsRight 197 = .ok (.goto (-53), 3) := by decide +kernel
theorem dL_areSumsRight_200 : decode cL_areSumsRight 200 = .ok (.iconst 0, 1) := by decide +kernel
theorem dL_areSumsRight_201 : decode cL_areSumsRight 201 = .ok (.istore 5, 2) := by decide +kernel
theorem dL_areSumsRight_203 : decode cL_areSumsRight 203 = .ok (.iconst 0, 1) := by decide +kernel
theorem dL_areSumsRight_204 : decode cL_areSumsRight 204 = .ok (.istore 6, 2) := by decide +kernel
theorem dL_areSumsRight_206 : decode cL_areSumsRight 206 = .ok (.iconst 0, 1) := by decide +kernel
theorem dL_areSumsRight_207 : decode cL_areSumsRight 207 = .ok (.istore 7, 2) := by decide +kernel
theorem dL_areSumsRight_209 : decode cL_areSumsRight 209 = .ok (.iload 7, 2) := by decide +kernel
theorem dL_areSumsRight_211 : decode cL_areSumsRight 211 = .ok (.aload_n 0, 1) := by decide +kernel
theorem dL_areSumsRight_212 : decode cL_areSumsRight 212 = .ok (.iconst 1, 1) := by decide +kernel
theorem dL_areSumsRight_213 : decode cL_areSumsRight 213 = .ok (.invokevirtual 29, 3) := by decide +kernel
theorem dL_areSumsRight_216 : decode cL_areSumsRight 216 = .ok (.if_icmp .ge 91, 3) := by decide +kernel
theorem dL_areSumsRight_219 : decode cL_areSumsRight 219 = .ok (.iload 5, 2) := by decide +kernel
theorem dL_areSumsRight_221 : decode cL_areSumsRight 221 = .ok (.aload_n 0, 1) := by decide +kernel
theorem dL_areSumsRight_222 : decode cL_areSumsRight 222 = .ok (.iload 7, 2) := by decide +kernel
theorem dL_areSumsRight_224 : decode cL_areSumsRight 224 = .ok (.iconst 1, 1) := by decide +kernel
theorem dL_areSumsRight_225 : decode cL_areSumsRight 225 = .ok (.invokevirtual 101, 3) := by decide +kernel
theorem dL_areSumsRight_228 : decode cL_areSumsRight 228 = .ok (.iadd, 1) := by decide +kernel
theorem dL_areSumsRight_229 : decode cL_areSumsRight 229 = .ok (.istore 5, 2) := by decide +kernel
theorem dL_areSumsRight_231 : decode cL_areSumsRight 231 = .ok (.iload 6, 2) := by decide +kernel
theorem dL_areSumsRight_233 : decode cL_areSumsRight 233 = .ok (.aload_n 0, 1) := by decide +kernel
theorem dL_areSumsRight_234 : decode cL_areSumsRight 234 = .ok (.iload 7, 2) := by decide +kernel
theorem dL_areSumsRight_236 : decode cL_areSumsRight 236 = .ok (.iconst 4, 1) := by decide +kernel
theorem dL_areSumsRight_237 : decode cL_areSumsRight 237 = .ok (.invokevirtual 101, 3) := by decide +kernel
theorem dL_areSumsRight_240 : decode cL_areSumsRight 240 = .ok (.iadd, 1) := by decide +kernel
theorem dL_areSumsRight_241 : decode cL_areSumsRight 241 = .ok (.istore 6, 2) := by decide +kernel
theorem dL_areSumsRight_243 : decode cL_areSumsRight 243 = .ok (.aload_n 0, 1) := by decide +kernel
theorem dL_areSumsRight_244 : decode cL_areSumsRight 244 = .ok (.iload 7, 2) := by decide +kernel
theorem dL_areSumsRight_246 : decode cL_areSumsRight 246 = .ok (.iconst 0, 1) := by decide +kernel
theorem dL_areSumsRight_247 : decode cL_areSumsRight 247 = .ok (.invokevirtual 101, 3) := by decide +kernel
theorem dL_areSumsRight_250 : decode cL_areSumsRight 250 = .ok (.ifCond .lt 49, 3) := by decide +kernel
theorem dL_areSumsRight_253 : decode cL_areSumsRight 253 = .ok (.aload_n 0, 1) := by decide +kernel
theorem dL_areSumsRight_254 : decode cL_areSumsRight 254 = .ok (.iload 7, 2) := by decide +kernel
theorem dL_areSumsRight_256 : decode cL_areSumsRight 256 = .ok (.iconst 0, 1) := by decide +kernel
theorem dL_areSumsRight_257 : decode cL_areSumsRight 257 = .ok (.invokevirtual 101, 3) := by decide +kernel
theorem dL_areSumsRight_260 : decode cL_areSumsRight 260 = .ok (.bipush 100, 2) := by decide +kernel
theorem dL_areSumsRight_262 : decode cL_areSumsRight 262 = .ok (.if_icmp .gt 37, 3) := by decide +kernel
theorem dL_areSumsRight_265 : decode cL_areSumsRight 265 = .ok (.aload_n 0, 1) := by decide +kernel
theorem dL_areSumsRight_266 : decode cL_areSumsRight 266 = .ok (.iload 7, 2) := by decide +kernel
theorem dL_areSumsRight_268 : decode cL_areSumsRight 268 = .ok (.iconst 4, 1) := by decide +kernel
theorem dL_areSumsRight_269 : decode cL_areSumsRight 269 = .ok (.invokevirtual 101, 3) := by decide +kernel
theorem dL_areSumsRight_272 : decode cL_areSumsRight 272 = .ok (.aload_n 0, 1) := by decide +kernel
theorem dL_areSumsRight_273 : decode cL_areSumsRight 273 = .ok (.iload 7, 2) := by decide +kernel
theorem dL_areSumsRight_275 : decode cL_areSumsRight 275 = .ok (.iconst 1, 1) := by decide +kernel
theorem dL_areSumsRight_276 : decode cL_areSumsRight 276 = .ok (.invokevirtual 101, 3) := by decide +kernel
theorem dL_areSumsRight_279 : decode cL_areSumsRight 279 = .ok (.if_icmp .gt 20, 3) := by decide +kernel
theorem dL_areSumsRight_282 : decode cL_areSumsRight 282 = .ok (.aload_n 0, 1) := by decide +kernel
theorem dL_areSumsRight_283 : decode cL_areSumsRight 283 = .ok (.iload 7, 2) := by decide +kernel
theorem dL_areSumsRight_285 : decode cL_areSumsRight 285 = .ok (.iconst 2, 1) := by decide +kernel
theorem dL_areSumsRight_286 : decode cL_areSumsRight 286 = .ok (.invokevirtual 101, 3) := by decide +kernel
theorem dL_areSumsRight_289 : decode cL_areSumsRight 289 = .ok (.aload_n 0, 1) := by decide +kernel
theorem dL_areSumsRight_290 : decode cL_areSumsRight 290 = .ok (.iload 7, 2) := by decide +kernel
theorem dL_areSumsRight_292 : decode cL_areSumsRight 292 = .ok (.iconst 1, 1) := by decide +kernel
theorem dL_areSumsRight_293 : decode cL_areSumsRight 293 = .ok (.invokevirtual 101, 3) := by decide +kernel
theorem dL_areSumsRight_296 : decode cL_areSumsRight 296 = .ok (.if_icmp .ge 5, 3) := by decide +kernel
theorem dL_areSumsRight_299 : decode cL_areSumsRight 299 = .ok (.iconst 0, 1) := by decide +kernel
theorem dL_areSumsRight_300 : decode cL_areSumsRight 300 = .ok (.ireturn, 1) := by decide +kernel
theorem dL_areSumsRight_301 : decode cL_areSumsRight 301 = .ok (.iinc 7 1, 3) := by decide +kernel
theorem dL_areSumsRight_304 : decode cL_areSumsRight 304 = .ok (.goto (-95), 3) := by decide +kernel
theorem dL_areSumsRight_307 : decode cL_areSumsRight 307 = .ok (.aload_n 0, 1) := by decide +kernel
theorem dL_areSumsRight_308 : decode cL_areSumsRight 308 = .ok (.bipush 7, 2) := by decide +kernel
theorem dL_areSumsRight_310 : decode cL_areSumsRight 310 = .ok (.invokevirtual 29, 3) := by decide +kernel
theorem dL_areSumsRight_313 : decode cL_areSumsRight 313 = .ok (.aload_n 0, 1) := by decide +kernel
theorem dL_areSumsRight_314 : decode cL_areSumsRight 314 = .ok (.iconst 3, 1) := by decide +kernel
theorem dL_areSumsRight_315 : decode cL_areSumsRight 315 = .ok (.invokevirtual 29, 3) := by decide +kernel
theorem dL_areSumsRight_318 : decode cL_areSumsRight 318 = .ok (.iadd, 1) := by decide +kernel
theorem dL_areSumsRight_319 : decode cL_areSumsRight 319 = .ok (.istore 7, 2) := by decide +kernel
theorem dL_areSumsRight_321 : decode cL_areSumsRight 321 = .ok (.aload_n 0, 1) := by decide +kernel
theorem dL_areSumsRight_322 : decode cL_areSumsRight 322 = .ok (.bipush 8, 2) := by decide +kernel
theorem dL_areSumsRight_324 : decode cL_areSumsRight 324 = .ok (.invokevirtual 29, 3) := by decide +kernel
theorem dL_areSumsRight_327 : decode cL_areSumsRight 327 = .ok (.iload 5, 2) := by decide +kernel
theorem dL_areSumsRight_329 : decode cL_areSumsRight 329 = .ok (.if_icmp .ne 73, 3) := by decide +kernel
theorem dL_areSumsRight_332 : decode cL_areSumsRight 332 = .ok (.aload_n 0, 1) := by decide +kernel
theorem dL_areSumsRight_333 : decode cL_areSumsRight 333 = .ok (.bipush 7, 2) := by decide +kernel
theorem dL_areSumsRight_335 : decode cL_areSumsRight 335 = .ok (.invokevirtual 29, 3) := by decide +kernel
theorem dL_areSumsRight_338 : decode cL_areSumsRight 338 = .ok (.iload 4, 2) := by decide +kernel
theorem dL_areSumsRight_340 : decode cL_areSumsRight 340 = .ok (.if_icmp .ne 62, 3) := by decide +kernel
theorem dL_areSumsRight_343 : decode cL_areSumsRight 343 = .ok (.iload 5, 2) := by decide +kernel
theorem dL_areSumsRight_345 : decode cL_areSumsRight 345 = .ok (.aload_n 0, 1) := by decide +kernel
theorem dL_areSumsRight_346 : decode cL_areSumsRight 346 = .ok (.iconst 3, 1) := by decide +kernel
theorem dL_areSumsRight_347 : decode cL_areSumsRight 347 = .ok (.invokevirtual 29, 3) := by decide +kernel
theorem dL_areSumsRight_350 : decode cL_areSumsRight 350 = .ok (.iload 6, 2) := by decide +kernel
theorem dL_areSumsRight_352 : decode cL_areSumsRight 352 = .ok (.iadd, 1) := by decide +kernel
theorem dL_areSumsRight_353 : decode cL_areSumsRight 353 = .ok (.aload_n 0, 1) := by decide +kernel
theorem dL_areSumsRight_354 : decode cL_areSumsRight 354 = .ok (.bipush 9, 2) := by decide +kernel
theorem dL_areSumsRight_356 : decode cL_areSumsRight 356 = .ok (.invokevirtual 29, 3) := by decide +kernel
theorem dL_areSumsRight_359 : decode cL_areSumsRight 359 = .ok (.isub, 1) := by decide +kernel
theorem dL_areSumsRight_360 : decode cL_areSumsRight 360 = .ok (.if_icmp .ne 42, 3) := by decide +kernel
theorem dL_areSumsRight_363 : decode cL_areSumsRight 363 = .ok (.aload_n 0, 1) := by decide +kernel
theorem dL_areSumsRight_364 : decode cL_areSumsRight 364 = .ok (.invokevirtual 104, 3) := by decide +kernel
theorem dL_areSumsRight_367 : decode cL_areSumsRight 367 = .ok (.iload 7, 2) := by decide +kernel
theorem dL_areSumsRight_369 : decode cL_areSumsRight 369 = .ok (.ifCond .ne 7, 3) := by decide +kernel
theorem dL_areSumsRight_372 : decode cL_areSumsRight 372 = .ok (.dconst 0, 1) := by decide +kernel
theorem dL_areSumsRight_373 : decode cL_areSumsRight 373 = .ok (.goto 14, 3) := by decide +kernel
theorem dL_areSumsRight_376 : decode cL_areSumsRight 376 = .ok (.aload_n 0, 1) := by decide +kernel
theorem dL_areSumsRight_377 : decode cL_areSumsRight 377 = .ok (.bipush 7, 2) := by decide +kernel
theorem dL_areSumsRight_379 : decode cL_areSumsRight 379 = .ok (.invokevirtual 29, 3) := by decide +kernel
theorem dL_areSumsRight_382 : decode cL_areSumsRight 382 = .ok (.i2d, 1) := by decide +kernel
theorem dL_areSumsRight_383 : decode cL_areSumsRight 383 = .ok (.iload 7, 2) := by decide +kernel
theorem dL_areSumsRight_385 : decode cL_areSumsRight 385 = .ok (.i2d, 1) := by decide +kernel
theorem dL_areSumsRight_386 : decode cL_areSumsRight 386 = .ok (.ddiv, 1) := by decide +kernel
theorem dL_areSumsRight_387 : decode cL_areSumsRight 387 = .ok (.dsub, 1) := by decide +kernel
theorem dL_areSumsRight_388 : decode cL_areSumsRight 388 = .ok (.invokestatic 108, 3) := by decide +kernel
theorem dL_areSumsRight_391 : decode cL_areSumsRight 391 = .ok (.ldc2_w 112, 3) := by decide +kernel
theorem dL_areSumsRight_394 : decode cL_areSumsRight 394 = .ok (.dcmp .g, 1) := by decide +kernel
theorem dL_areSumsRight_395 : decode cL_areSumsRight 395 = .ok (.ifCond .ge 7, 3) := by decide +kernel
theorem dL_areSumsRight_398 : decode cL_areSumsRight 398 = .ok (.iconst 1, 1) := by decide +kernel
theorem dL_areSumsRight_399 : decode cL_areSumsRight 399 = .ok (.goto 4, 3) := by decide +kernel
theorem dL_areSumsRight_402 : decode cL_areSumsRight 402 = .ok (.iconst 0, 1) := by decide +kernel
theorem dL_areSumsRight_403 : decode cL_areSumsRight 403 = .ok (.ireturn, 1) := by decide +kernel
theorem dL_isAheadRight_0 : decode cL_isAheadRight 0 = .ok (.iconst 1, 1) := by decide +kernel
theorem dL_isAheadRight_1 : decode cL_isAheadRight 1 = .ok (.iload_n 1, 1) := by decide +kernel
theorem dL_isAheadRight_2 : decode cL_isAheadRight 2 = .ok (.iconst 3, 1) := by decide +kernel
theorem dL_isAheadRight_3 : decode cL_isAheadRight 3 = .ok (.ishr, 1) := by decide +kernel
theorem dL_isAheadRight_4 : decode cL_isAheadRight 4 = .ok (.bipush 20, 2) := by decide +kernel
theorem dL_isAheadRight_6 : decode cL_isAheadRight 6 = .ok (.invokestatic 18, 3) := by decide +kernel
theorem dL_isAheadRight_9 : decode cL_isAheadRight 9 = .ok (.iadd, 1) := by decide +kernel
theorem dL_isAheadRight_10 : decode cL_isAheadRight 10 = .ok (.istore_n 2, 1) := by decide +kernel
theorem dL_isAheadRight_11 : decode cL_isAheadRight 11 = .ok (.aload_n 0, 1) := by decide +kernel
theorem dL_isAheadRight_12 : decode cL_isAheadRight 12 = .ok (.iconst 1, 1) := by decide +kernel
theorem dL_isAheadRight_13 : decode cL_isAheadRight 13 = .ok (.iload_n 2, 1) := by decide +kernel
theorem dL_isAheadRight_14 : decode cL_isAheadRight 14 = .ok (.invokevirtual 114, 3) := by decide +kernel
theorem dL_isAheadRight_17 : decode cL_isAheadRight 17 = .ok (.istore_n 3, 1) := by decide +kernel
theorem dL_isAheadRight_18 : decode cL_isAheadRight 18 = .ok (.iconst 0, 1) := by decide +kernel
theorem dL_isAheadRight_19 : decode cL_isAheadRight 19 = .ok (.istore 4, 2) := by decide +kernel
theorem dL_isAheadRight_21 : decode cL_isAheadRight 21 = .ok (.iconst 0, 1) := by decide +kernel
theorem dL_isAheadRight_22 : decode cL_isAheadRight 22 = .ok (.istore 5, 2) := by decide +kernel
theorem dL_isAheadRight_24 : decode cL_isAheadRight 24 = .ok (.iload 5, 2) := by decide +kernel
theorem dL_isAheadRight_26 : decode cL_isAheadRight 26 = .ok (.aload_n 0, 1) := by decide +kernel
theorem dL_isAheadRight_27 : decode cL_isAheadRight 27 = .ok (.iconst 0, 1) := by decide +kernel
theorem dL_isAheadRight_28 : decode cL_isAheadRight 28 = .ok (.invokevirtual 29, 3) := by decide +kernel
theorem dL_isAheadRight_31 : decode cL_isAheadRight 31 = .ok (.if_icmp .ge 22, 3) := by decide +kernel
theorem dL_isAheadRight_34 : decode cL_isAheadRight 34 = .ok (.iload 4, 2) := by decide +kernel
theorem dL_isAheadRight_36 : decode cL_isAheadRight 36 = .ok (.aload_n 0, 1) := by decide +kernel
theorem dL_isAheadRight_37 : decode cL_isAheadRight 37 = .ok (.iload 5, 2) := by decide +kernel
theorem dL_isAheadRight_39 : decode cL_isAheadRight 39 = .ok (.bipush 7, 2) := by decide +kernel
theorem dL_isAheadRight_41 : decode cL_isAheadRight 41 = .ok (.invokevirtual 60, 3) := by decide +kernel
theorem dL_isAheadRight_44 : decode cL_isAheadRight 44 = .ok (.iadd, 1) := by decide +kernel
theorem dL_isAheadRight_45 : decode cL_isAheadRight 45 = .ok (.istore 4, 2) := by decide +kernel
theorem dL_isAheadRight_47 : decode cL_isAheadRight 47 = .ok (.iinc 5 1, 3) := by decide +kernel
theorem dL_isAheadRight_50 : decode cL_isAheadRight 50 = .ok (.goto (-26), 3) := by decide +kernel
theorem dL_isAheadRight_53 : decode cL_isAheadRight 53 = .ok (.iconst 0, 1) := by decide +kernel
theorem dL_isAheadRight_54 : decode cL_isAheadRight 54 = .ok (.istore 5, 2) := by decide +kernel
theorem dL_isAheadRight_56 : decode cL_isAheadRight 56 = .ok (.iload 5, 2) := by decide +kernel
theorem dL_isAheadRight_58 : decode cL_isAheadRight 58 = .ok (.bipush 8, 2) := by decide +kernel
theorem dL_isAheadRight_60 : decode cL_isAheadRight 60 = .ok (.if_icmp .ge 34, 3) := by decide +kernel
theorem dL_isAheadRight_63 : decode cL_isAheadRight 63 = .ok (.aload_n 0, 1) := by decide +kernel
theorem dL_isAheadRight_64 : decode cL_isAheadRight 64 = .ok (.iload 5, 2) := by decide +kernel
theorem dL_isAheadRight_66 : decode cL_isAheadRight 66 = .ok (.invokevirtual 117, 3) := by decide +kernel
theorem dL_isAheadRight_69 : decode cL_isAheadRight 69 = .ok (.ifCond .lt 17, 3) := by decide +kernel
theorem dL_isAheadRight_72 : decode cL_isAheadRight 72 = .ok (.aload_n 0, 1) := by decide +kernel
theorem dL_isAheadRight_73 : decode cL_isAheadRight 73 = .ok (.iload 5, 2) := by decide +kernel
theorem dL_isAheadRight_75 : decode cL_isAheadRight 75 = .ok (.invokevirtual 117, 3) := by decide +kernel
theorem dL_isAheadRight_78 : decode cL_isAheadRight 78 = .ok (.aload_n 0, 1) := by decide +kernel
theorem dL_isAheadRight_79 : decode cL_isAheadRight 79 = .ok (.iconst 4, 1) := by decide +kernel
theorem dL_isAheadRight_80 : decode cL_isAheadRight 80 = .ok (.invokevirtual 29, 3) := by decide +kernel
theorem dL_isAheadRight_83 : decode cL_isAheadRight 83 = .ok (.if_icmp .le 5, 3) := by decide +kernel
theorem dL_isAheadRight_86 : decode cL_isAheadRight 86 = .ok (.iconst 0, 1) := by decide +kernel
theorem dL_isAheadRight_87 : decode cL_isAheadRight 87 = .ok (.ireturn, 1) := by decide +kernel
theorem dL_isAheadRight_88 : decode cL_isAheadRight 88 = .ok (.iinc 5 1, 3) := by decide +kernel
theorem dL_isAheadRight_91 : decode cL_isAheadRight 91 = .ok (.goto (-35), 3) := by decide +kernel
theorem dL_isAheadRight_94 : decode cL_isAheadRight 94 = .ok (.iload 4, 2) := by decide +kernel
theorem dL_isAheadRight_96 : decode cL_isAheadRight 96 = .ok (.aload_n 0, 1) := by decide +kernel
theorem dL_isAheadRight_97 : decode cL_isAheadRight 97 = .ok (.iconst 4, 1) := by decide +kernel
theorem dL_isAheadRight_98 : decode cL_isAheadRight 98 = .ok (.invokevirtual 29, 3) := by decide +kernel
theorem dL_isAheadRight_101 : decode cL_isAheadRight 101 = .ok (.if_icmp .ne 72, 3) := by decide +kernel
theorem dL_isAheadRight_104 : decode cL_isAheadRight 104 = .ok (.iload_n 3, 1) := by decide +kernel
theorem dL_isAheadRight_105 : decode cL_isAheadRight 105 = .ok (.ifCond .lt 68, 3) := by decide +kernel
theorem dL_isAheadRight_108 : decode cL_isAheadRight 108 = .ok (.iload_n 3, 1) := by decide +kernel
theorem dL_isAheadRight_109 : decode cL_isAheadRight 109 = .ok (.aload_n 0, 1) := by decide +kernel
theorem dL_isAheadRight_110 : decode cL_isAheadRight 110 = .ok (.iconst 1, 1) := by decide +kernel
theorem dL_isAheadRight_111 : decode cL_isAheadRight 111 = .ok (.iconst 4, 1) := by decide +kernel
theorem dL_isAheadRight_112 : decode cL_isAheadRight 112 = .ok (.invokevirtual 75, 3) := by decide +kernel
theorem dL_isAheadRight_115 : decode cL_isAheadRight 115 = .ok (.if_icmp .gt 58, 3) := by decide +kernel
theorem dL_isAheadRight_118 : decode cL_isAheadRight 118 = .ok (.iload_n 2, 1) := by decide +kernel
theorem dL_isAheadRight_119 : decode cL_isAheadRight 119 = .ok (.aload_n 0, 1) := by decide +kernel
theorem dL_isAheadRight_120 : decode cL_isAheadRight 120 = .ok (.iconst 1, 1) := by decide +kernel
theorem dL_isAheadRight_121 : decode cL_isAheadRight 121 = .ok (.iconst 0, 1) := by decide +kernel
theorem dL_isAheadRight_122 : decode cL_isAheadRight 122 = .ok (.invokevirtual 75, 3) := by decide +kernel
theorem dL_isAheadRight_125 : decode cL_isAheadRight 125 = .ok (.if_icmp .le 10, 3) := by decide +kernel
theorem dL_isAheadRight_128 : decode cL_isAheadRight 128 = .ok (.iload_n 3, 1) := by decide +kernel
theorem dL_isAheadRight_129 : decode cL_isAheadRight 129 = .ok (.ifCond .ne 44, 3) := by decide +kernel
theorem dL_isAheadRight_132 : decode cL_isAheadRight 132 = .ok (.goto 37, 3) := by decide +kernel
theorem dL_isAheadRight_135 : decode cL_isAheadRight 135 = .ok (.iload_n 3, 1) := by decide +kernel
theorem dL_isAheadRight_136 : decode cL_isAheadRight 136 = .ok (.ifCond .ne 7, 3) := by decide +kernel
theorem dL_isAheadRight_139 : decode cL_isAheadRight 139 = .ok (.iconst 1, 1) := by decide +kernel
theorem dL_isAheadRight_140 : decode cL_isAheadRight 140 = .ok (.goto 4, 3) := by decide +kernel
theorem dL_isAheadRight_143 : decode cL_isAheadRight 143 = .ok (.iconst 0, 1) := by decide +kernel
theorem dL_isAheadRight_144 : decode cL_isAheadRight 144 = .ok (.aload_n 0, 1) := by decide +kernel
theorem dL_isAheadRight_145 : decode cL_isAheadRight 145 = .ok (.iconst 1, 1) := by decide +kernel
theorem dL_isAheadRight_146 : decode cL_isAheadRight 146 = .ok (.iconst 1, 1) := by decide +kernel
theorem dL_isAheadRight_147 : decode cL_isAheadRight 147 = .ok (.invokevirtual 75, 3) := by decide +kernel
theorem dL_isAheadRight_150 : decode cL_isAheadRight 150 = .ok (.iload_n 2, 1) := by decide +kernel
theorem dL_isAheadRight_151 : decode cL_isAheadRight 151 = .ok (.iadd, 1) := by decide +kernel
theorem dL_isAheadRight_152 : decode cL_isAheadRight 152 = .ok (.aload_n 0, 1) := by decide +kernel
theorem dL_isAheadRight_153 : decode cL_isAheadRight 153 = .ok (.iconst 1, 1) := by decide +kernel
theorem dL_isAheadRight_154 : decode cL_isAheadRight 154 = .ok (.iconst 0, 1) := by decide +kernel
theorem dL_isAheadRight_155 : decode cL_isAheadRight 155 = .ok (.invokevirtual 75, 3) := by decide +kernel
theorem dL_isAheadRight_158 : decode cL_isAheadRight 158 = .ok (.if_icmp .gt 7, 3) := by decide +kernel
theorem dL_isAheadRight_161 : decode cL_isAheadRight 161 = .ok (.iconst 1, 1) := by decide +kernel
theorem dL_isAheadRight_162 : decode cL_isAheadRight 162 = .ok (.goto 4, 3) := by decide +kernel
theorem dL_isAheadRight_165 : decode cL_isAheadRight 165 = .ok (.iconst 0, 1) := by decide +kernel
theorem dL_isAheadRight_166 : decode cL_isAheadRight 166 = .ok (.if_icmp .ne 7, 3) := by decide +kernel
theorem dL_isAheadRight_169 : decode cL_isAheadRight 169 = .ok (.iconst 1, 1) := by decide +kernel
theorem dL_isAheadRight_170 : decode cL_isAheadRight 170 = .ok (.goto 4, 3) := by decide +kernel
theorem dL_isAheadRight_173 : decode cL_isAheadRight 173 = .ok (.iconst 0, 1) := by decide +kernel
theorem dL_isAheadRight_174 : decode cL_isAheadRight 174 = .ok (.ireturn, 1) := by decide +kernel
