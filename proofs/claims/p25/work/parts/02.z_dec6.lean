theorem dL_ahead_34 : decode cL_ahead 34 = .ok (.iconst 1, 1) := by decide +kernel
theorem dL_ahead_35 : decode cL_ahead 35 = .ok (.ireturn, 1) := by decide +kernel
theorem dL_ahead_36 : decode cL_ahead 36 = .ok (.iconst 0, 1) := by decide +kernel
theorem dL_ahead_37 : decode cL_ahead 37 = .ok (.istore 11, 2) := by decide +kernel
theorem dL_ahead_39 : decode cL_ahead 39 = .ok (.iload 11, 2) := by decide +kernel
theorem dL_ahead_41 : decode cL_ahead 41 = .ok (.bipush 48, 2) := by decide +kernel
theorem dL_ahead_43 : decode cL_ahead 43 = .ok (.if_icmp .ge 46, 3) := by decide +kernel
theorem dL_ahead_46 : decode cL_ahead 46 = .ok (.aload 7, 2) := by decide +kernel
theorem dL_ahead_48 : decode cL_ahead 48 = .ok (.iload 11, 2) := by decide +kernel
theorem dL_ahead_50 : decode cL_ahead 50 = .ok (.aload 4, 2) := by decide +kernel
theorem dL_ahead_52 : decode cL_ahead 52 = .ok (.iload 11, 2) := by decide +kernel
theorem dL_ahead_54 : decode cL_ahead 54 = .ok (.iaload, 1) := by decide +kernel
theorem dL_ahead_55 : decode cL_ahead 55 = .ok (.iastore, 1) := by decide +kernel
theorem dL_ahead_56 : decode cL_ahead 56 = .ok (.aload 8, 2) := by decide +kernel
theorem dL_ahead_58 : decode cL_ahead 58 = .ok (.iload 11, 2) := by decide +kernel
theorem dL_ahead_60 : decode cL_ahead 60 = .ok (.aload 5, 2) := by decide +kernel
theorem dL_ahead_62 : decode cL_ahead 62 = .ok (.iload 11, 2) := by decide +kernel
theorem dL_ahead_64 : decode cL_ahead 64 = .ok (.iaload, 1) := by decide +kernel
theorem dL_ahead_65 : decode cL_ahead 65 = .ok (.iastore, 1) := by decide +kernel
theorem dL_ahead_66 : decode cL_ahead 66 = .ok (.iload 11, 2) := by decide +kernel
theorem dL_ahead_68 : decode cL_ahead 68 = .ok (.bipush 9, 2) := by decide +kernel
theorem dL_ahead_70 : decode cL_ahead 70 = .ok (.if_icmp .ge 13, 3) := by decide +kernel
theorem dL_ahead_73 : decode cL_ahead 73 = .ok (.aload 9, 2) := by decide +kernel
theorem dL_ahead_75 : decode cL_ahead 75 = .ok (.iload 11, 2) := by decide +kernel
theorem dL_ahead_77 : decode cL_ahead 77 = .ok (.aload 6, 2) := by decide +kernel
theorem dL_ahead_79 : decode cL_ahead 79 = .ok (.iload 11, 2) := by decide +kernel
theorem dL_ahead_81 : decode cL_ahead 81 = .ok (.iaload, 1) := by decide +kernel
theorem dL_ahead_82 : decode cL_ahead 82 = .ok (.iastore, 1) := by decide +kernel
theorem dL_ahead_83 : decode cL_ahead 83 = .ok (.iinc 11 1, 3) := by decide +kernel
theorem dL_ahead_86 : decode cL_ahead 86 = .ok (.goto (-47), 3) := by decide +kernel
theorem dL_ahead_89 : decode cL_ahead 89 = .ok (.iload 10, 2) := by decide +kernel
theorem dL_ahead_91 : decode cL_ahead 91 = .ok (.ifCond .ne 88, 3) := by decide +kernel
theorem dL_ahead_94 : decode cL_ahead 94 = .ok (.iconst 1, 1) := by decide +kernel
theorem dL_ahead_95 : decode cL_ahead 95 = .ok (.iload_n 1, 1) := by decide +kernel
theorem dL_ahead_96 : decode cL_ahead 96 = .ok (.bipush 12, 2) := by decide +kernel
theorem dL_ahead_98 : decode cL_ahead 98 = .ok (.invokestatic 64, 3) := by decide +kernel
theorem dL_ahead_101 : decode cL_ahead 101 = .ok (.iadd, 1) := by decide +kernel
theorem dL_ahead_102 : decode cL_ahead 102 = .ok (.istore 11, 2) := by decide +kernel
theorem dL_ahead_104 : decode cL_ahead 104 = .ok (.iload_n 2, 1) := by decide +kernel
theorem dL_ahead_105 : decode cL_ahead 105 = .ok (.bipush 7, 2) := by decide +kernel
theorem dL_ahead_107 : decode cL_ahead 107 = .ok (.invokestatic 64, 3) := by decide +kernel
theorem dL_ahead_110 : decode cL_ahead 110 = .ok (.istore 12, 2) := by decide +kernel
theorem dL_ahead_112 : decode cL_ahead 112 = .ok (.iload 12, 2) := by decide +kernel
theorem dL_ahead_114 : decode cL_ahead 114 = .ok (.iconst 2, 1) := by decide +kernel
theorem dL_ahead_115 : decode cL_ahead 115 = .ok (.if_icmp .ge 10, 3) := by decide +kernel
theorem dL_ahead_118 : decode cL_ahead 118 = .ok (.iconst 2, 1) := by decide +kernel
theorem dL_ahead_119 : decode cL_ahead 119 = .ok (.iload 12, 2) := by decide +kernel
theorem dL_ahead_121 : decode cL_ahead 121 = .ok (.iadd, 1) := by decide +kernel
theorem dL_ahead_122 : decode cL_ahead 122 = .ok (.goto 7, 3) := by decide +kernel
theorem dL_ahead_125 : decode cL_ahead 125 = .ok (.iconst 4, 1) := by decide +kernel
theorem dL_ahead_126 : decode cL_ahead 126 = .ok (.iload 12, 2) := by decide +kernel
theorem dL_ahead_128 : decode cL_ahead 128 = .ok (.iadd, 1) := by decide +kernel
theorem dL_ahead_129 : decode cL_ahead 129 = .ok (.istore 12, 2) := by decide +kernel
theorem dL_ahead_131 : decode cL_ahead 131 = .ok (.iconst 0, 1) := by decide +kernel
theorem dL_ahead_132 : decode cL_ahead 132 = .ok (.istore 13, 2) := by decide +kernel
theorem dL_ahead_134 : decode cL_ahead 134 = .ok (.iload 13, 2) := by decide +kernel
theorem dL_ahead_136 : decode cL_ahead 136 = .ok (.iload 11, 2) := by decide +kernel
theorem dL_ahead_138 : decode cL_ahead 138 = .ok (.if_icmp .ge 19, 3) := by decide +kernel
theorem dL_ahead_141 : decode cL_ahead 141 = .ok (.aload_n 3, 1) := by decide +kernel
theorem dL_ahead_142 : decode cL_ahead 142 = .ok (.aload 7, 2) := by decide +kernel
theorem dL_ahead_144 : decode cL_ahead 144 = .ok (.aload 8, 2) := by decide +kernel
theorem dL_ahead_146 : decode cL_ahead 146 = .ok (.aload 9, 2) := by decide +kernel
theorem dL_ahead_148 : decode cL_ahead 148 = .ok (.invokestatic 80, 3) := by decide +kernel
theorem dL_ahead_151 : decode cL_ahead 151 = .ok (.iinc 13 1, 3) := by decide +kernel
theorem dL_ahead_154 : decode cL_ahead 154 = .ok (.goto (-20), 3) := by decide +kernel
theorem dL_ahead_157 : decode cL_ahead 157 = .ok (.aload_n 0, 1) := by decide +kernel
theorem dL_ahead_158 : decode cL_ahead 158 = .ok (.iload 11, 2) := by decide +kernel
theorem dL_ahead_160 : decode cL_ahead 160 = .ok (.iload 12, 2) := by decide +kernel
theorem dL_ahead_162 : decode cL_ahead 162 = .ok (.invokevirtual 84, 3) := by decide +kernel
theorem dL_ahead_165 : decode cL_ahead 165 = .ok (.iload 12, 2) := by decide +kernel
theorem dL_ahead_167 : decode cL_ahead 167 = .ok (.aload 7, 2) := by decide +kernel
theorem dL_ahead_169 : decode cL_ahead 169 = .ok (.aload 9, 2) := by decide +kernel
theorem dL_ahead_171 : decode cL_ahead 171 = .ok (.invokestatic 61, 3) := by decide +kernel
theorem dL_ahead_174 : decode cL_ahead 174 = .ok (.if_icmp .eq 104, 3) := by decide +kernel
theorem dL_ahead_177 : decode cL_ahead 177 = .ok (.iconst 0, 1) := by decide +kernel
theorem dL_ahead_178 : decode cL_ahead 178 = .ok (.ireturn, 1) := by decide +kernel
theorem dL_ahead_179 : decode cL_ahead 179 = .ok (.iload_n 1, 1) := by decide +kernel
theorem dL_ahead_180 : decode cL_ahead 180 = .ok (.iconst 4, 1) := by decide +kernel
theorem dL_ahead_181 : decode cL_ahead 181 = .ok (.ishr, 1) := by decide +kernel
theorem dL_ahead_182 : decode cL_ahead 182 = .ok (.aload 6, 2) := by decide +kernel
theorem dL_ahead_184 : decode cL_ahead 184 = .ok (.iconst 1, 1) := by decide +kernel
theorem dL_ahead_185 : decode cL_ahead 185 = .ok (.iaload, 1) := by decide +kernel
theorem dL_ahead_186 : decode cL_ahead 186 = .ok (.invokestatic 64, 3) := by decide +kernel
theorem dL_ahead_189 : decode cL_ahead 189 = .ok (.istore 11, 2) := by decide +kernel
theorem dL_ahead_191 : decode cL_ahead 191 = .ok (.iconst 0, 1) := by decide +kernel
theorem dL_ahead_192 : decode cL_ahead 192 = .ok (.istore 12, 2) := by decide +kernel
theorem dL_ahead_194 : decode cL_ahead 194 = .ok (.iload 12, 2) := by decide +kernel
theorem dL_ahead_196 : decode cL_ahead 196 = .ok (.bipush 61, 2) := by decide +kernel
theorem dL_ahead_198 : decode cL_ahead 198 = .ok (.if_icmp .ge 56, 3) := by decide +kernel
theorem dL_ahead_201 : decode cL_ahead 201 = .ok (.aload 7, 2) := by decide +kernel
theorem dL_ahead_203 : decode cL_ahead 203 = .ok (.bipush 8, 2) := by decide +kernel
theorem dL_ahead_205 : decode cL_ahead 205 = .ok (.iload 11, 2) := by decide +kernel
theorem dL_ahead_207 : decode cL_ahead 207 = .ok (.imul, 1) := by decide +kernel
theorem dL_ahead_208 : decode cL_ahead 208 = .ok (.iconst 4, 1) := by decide +kernel
theorem dL_ahead_209 : decode cL_ahead 209 = .ok (.iadd, 1) := by decide +kernel
theorem dL_ahead_210 : decode cL_ahead 210 = .ok (.iaload, 1) := by decide +kernel
theorem dL_ahead_211 : decode cL_ahead 211 = .ok (.iconst 2, 1) := by decide +kernel
theorem dL_ahead_212 : decode cL_ahead 212 = .ok (.if_icmp .eq 26, 3) := by decide +kernel
theorem dL_ahead_215 : decode cL_ahead 215 = .ok (.aload 7, 2) := by decide +kernel
theorem dL_ahead_217 : decode cL_ahead 217 = .ok (.bipush 8, 2) := by decide +kernel
theorem dL_ahead_219 : decode cL_ahead 219 = .ok (.iload 11, 2) := by decide +kernel
theorem dL_ahead_221 : decode cL_ahead 221 = .ok (.imul, 1) := by decide +kernel
theorem dL_ahead_222 : decode cL_ahead 222 = .ok (.iconst 1, 1) := by decide +kernel
theorem dL_ahead_223 : decode cL_ahead 223 = .ok (.iadd, 1) := by decide +kernel
theorem dL_ahead_224 : decode cL_ahead 224 = .ok (.iaload, 1) := by decide +kernel
theorem dL_ahead_225 : decode cL_ahead 225 = .ok (.aload 7, 2) := by decide +kernel
theorem dL_ahead_227 : decode cL_ahead 227 = .ok (.bipush 8, 2) := by decide +kernel
theorem dL_ahead_229 : decode cL_ahead 229 = .ok (.iload 11, 2) := by decide +kernel
theorem dL_ahead_231 : decode cL_ahead 231 = .ok (.imul, 1) := by decide +kernel
theorem dL_ahead_232 : decode cL_ahead 232 = .ok (.iconst 3, 1) := by decide +kernel
theorem dL_ahead_233 : decode cL_ahead 233 = .ok (.iadd, 1) := by decide +kernel
theorem dL_ahead_234 : decode cL_ahead 234 = .ok (.iaload, 1) := by decide +kernel
theorem dL_ahead_235 : decode cL_ahead 235 = .ok (.if_icmp .eq 19, 3) := by decide +kernel
theorem dL_ahead_238 : decode cL_ahead 238 = .ok (.aload_n 3, 1) := by decide +kernel
theorem dL_ahead_239 : decode cL_ahead 239 = .ok (.aload 7, 2) := by decide +kernel
theorem dL_ahead_241 : decode cL_ahead 241 = .ok (.aload 8, 2) := by decide +kernel
theorem dL_ahead_243 : decode cL_ahead 243 = .ok (.aload 9, 2) := by decide +kernel
theorem dL_ahead_245 : decode cL_ahead 245 = .ok (.invokestatic 80, 3) := by decide +kernel
theorem dL_ahead_248 : decode cL_ahead 248 = .ok (.iinc 12 1, 3) := by decide +kernel
theorem dL_ahead_251 : decode cL_ahead 251 = .ok (.goto (-57), 3) := by decide +kernel
theorem dL_ahead_254 : decode cL_ahead 254 = .ok (.aload_n 0, 1) := by decide +kernel
theorem dL_ahead_255 : decode cL_ahead 255 = .ok (.iload 11, 2) := by decide +kernel
theorem dL_ahead_257 : decode cL_ahead 257 = .ok (.invokevirtual 87, 3) := by decide +kernel
theorem dL_ahead_260 : decode cL_ahead 260 = .ok (.iload 12, 2) := by decide +kernel
theorem dL_ahead_262 : decode cL_ahead 262 = .ok (.bipush 60, 2) := by decide +kernel
theorem dL_ahead_264 : decode cL_ahead 264 = .ok (.if_icmp .le 7, 3) := by decide +kernel
theorem dL_ahead_267 : decode cL_ahead 267 = .ok (.iconst (-1), 1) := by decide +kernel
theorem dL_ahead_268 : decode cL_ahead 268 = .ok (.goto 5, 3) := by decide +kernel
theorem dL_ahead_271 : decode cL_ahead 271 = .ok (.iload 12, 2) := by decide +kernel
theorem dL_ahead_273 : decode cL_ahead 273 = .ok (.if_icmp .eq 5, 3) := by decide +kernel
theorem dL_ahead_276 : decode cL_ahead 276 = .ok (.iconst 0, 1) := by decide +kernel
theorem dL_ahead_277 : decode cL_ahead 277 = .ok (.ireturn, 1) := by decide +kernel
theorem dL_ahead_278 : decode cL_ahead 278 = .ok (.iinc 10 1, 3) := by decide +kernel
theorem dL_ahead_281 : decode cL_ahead 281 = .ok (.goto (-260), 3) := by decide +kernel
theorem dL_ahead_284 : decode cL_ahead 284 = .ok (.iconst 1, 1) := by decide +kernel
theorem dL_ahead_285 : decode cL_ahead 285 = .ok (.ireturn, 1) := by decide +kernel
theorem dL_act_0 : decode cL_act 0 = .ok (.iload_n 1, 1) := by decide +kernel
theorem dL_act_1 : decode cL_act 1 = .ok (.iconst 3, 1) := by decide +kernel
theorem dL_act_2 : decode cL_act 2 = .ok (.if_icmp .ge 226, 3) := by decide +kernel
theorem dL_act_5 : decode cL_act 5 = .ok (.iload_n 2, 1) := by decide +kernel
theorem dL_act_6 : decode cL_act 6 = .ok (.bipush 64, 2) := by decide +kernel
theorem dL_act_8 : decode cL_act 8 = .ok (.invokestatic 64, 3) := by decide +kernel
theorem dL_act_11 : decode cL_act 11 = .ok (.istore 8, 2) := by decide +kernel
theorem dL_act_13 : decode cL_act 13 = .ok (.iload 8, 2) := by decide +kernel
theorem dL_act_15 : decode cL_act 15 = .ok (.bipush 8, 2) := by decide +kernel
theorem dL_act_17 : decode cL_act 17 = .ok (.irem, 1) := by decide +kernel
theorem dL_act_18 : decode cL_act 18 = .ok (.iload_n 3, 1) := by decide +kernel
theorem dL_act_19 : decode cL_act 19 = .ok (.bipush 8, 2) := by decide +kernel
theorem dL_act_21 : decode cL_act 21 = .ok (.iload 8, 2) := by decide +kernel
theorem dL_act_23 : decode cL_act 23 = .ok (.bipush 8, 2) := by decide +kernel
theorem dL_act_25 : decode cL_act 25 = .ok (.irem, 1) := by decide +kernel
theorem dL_act_26 : decode cL_act 26 = .ok (.isub, 1) := by decide +kernel
theorem dL_act_27 : decode cL_act 27 = .ok (.iconst 3, 1) := by decide +kernel
theorem dL_act_28 : decode cL_act 28 = .ok (.if_icmp .ge 14, 3) := by decide +kernel
theorem dL_act_31 : decode cL_act 31 = .ok (.bipush 8, 2) := by decide +kernel
theorem dL_act_33 : decode cL_act 33 = .ok (.iload 8, 2) := by decide +kernel
theorem dL_act_35 : decode cL_act 35 = .ok (.bipush 8, 2) := by decide +kernel
theorem dL_act_37 : decode cL_act 37 = .ok (.irem, 1) := by decide +kernel
theorem dL_act_38 : decode cL_act 38 = .ok (.isub, 1) := by decide +kernel
theorem dL_act_39 : decode cL_act 39 = .ok (.goto 4, 3) := by decide +kernel
theorem dL_act_42 : decode cL_act 42 = .ok (.iconst 3, 1) := by decide +kernel
theorem dL_act_43 : decode cL_act 43 = .ok (.invokestatic 64, 3) := by decide +kernel
theorem dL_act_46 : decode cL_act 46 = .ok (.iadd, 1) := by decide +kernel
theorem dL_act_47 : decode cL_act 47 = .ok (.bipush 8, 2) := by decide +kernel
theorem dL_act_49 : decode cL_act 49 = .ok (.iload 8, 2) := by decide +kernel
theorem dL_act_51 : decode cL_act 51 = .ok (.bipush 8, 2) := by decide +kernel
theorem dL_act_53 : decode cL_act 53 = .ok (.idiv, 1) := by decide +kernel
theorem dL_act_54 : decode cL_act 54 = .ok (.iload_n 3, 1) := by decide +kernel
theorem dL_act_55 : decode cL_act 55 = .ok (.iconst 3, 1) := by decide +kernel
theorem dL_act_56 : decode cL_act 56 = .ok (.ishr, 1) := by decide +kernel
theorem dL_act_57 : decode cL_act 57 = .ok (.bipush 8, 2) := by decide +kernel
theorem dL_act_59 : decode cL_act 59 = .ok (.iload 8, 2) := by decide +kernel
theorem dL_act_61 : decode cL_act 61 = .ok (.bipush 8, 2) := by decide +kernel
theorem dL_act_63 : decode cL_act 63 = .ok (.idiv, 1) := by decide +kernel
theorem dL_act_64 : decode cL_act 64 = .ok (.isub, 1) := by decide +kernel
theorem dL_act_65 : decode cL_act 65 = .ok (.iconst 3, 1) := by decide +kernel
theorem dL_act_66 : decode cL_act 66 = .ok (.if_icmp .ge 14, 3) := by decide +kernel
theorem dL_act_69 : decode cL_act 69 = .ok (.bipush 8, 2) := by decide +kernel
theorem dL_act_71 : decode cL_act 71 = .ok (.iload 8, 2) := by decide +kernel
theorem dL_act_73 : decode cL_act 73 = .ok (.bipush 8, 2) := by decide +kernel
theorem dL_act_75 : decode cL_act 75 = .ok (.idiv, 1) := by decide +kernel
theorem dL_act_76 : decode cL_act 76 = .ok (.isub, 1) := by decide +kernel
theorem dL_act_77 : decode cL_act 77 = .ok (.goto 4, 3) := by decide +kernel
theorem dL_act_80 : decode cL_act 80 = .ok (.iconst 3, 1) := by decide +kernel
theorem dL_act_81 : decode cL_act 81 = .ok (.invokestatic 64, 3) := by decide +kernel
theorem dL_act_84 : decode cL_act 84 = .ok (.iadd, 1) := by decide +kernel
theorem dL_act_85 : decode cL_act 85 = .ok (.imul, 1) := by decide +kernel
theorem dL_act_86 : decode cL_act 86 = .ok (.iadd, 1) := by decide +kernel
theorem dL_act_87 : decode cL_act 87 = .ok (.istore 9, 2) := by decide +kernel
theorem dL_act_89 : decode cL_act 89 = .ok (.iload_n 3, 1) := by decide +kernel
theorem dL_act_90 : decode cL_act 90 = .ok (.bipush 6, 2) := by decide +kernel
theorem dL_act_92 : decode cL_act 92 = .ok (.ishr, 1) := by decide +kernel
theorem dL_act_93 : decode cL_act 93 = .ok (.bipush 7, 2) := by decide +kernel
theorem dL_act_95 : decode cL_act 95 = .ok (.invokestatic 64, 3) := by decide +kernel
theorem dL_act_98 : decode cL_act 98 = .ok (.istore 10, 2) := by decide +kernel
theorem dL_act_100 : decode cL_act 100 = .ok (.iconst 0, 1) := by decide +kernel
theorem dL_act_101 : decode cL_act 101 = .ok (.istore 11, 2) := by decide +kernel
theorem dL_act_103 : decode cL_act 103 = .ok (.iconst 0, 1) := by decide +kernel
theorem dL_act_104 : decode cL_act 104 = .ok (.istore 12, 2) := by decide +kernel
theorem dL_act_106 : decode cL_act 106 = .ok (.iload 12, 2) := by decide +kernel
theorem dL_act_108 : decode cL_act 108 = .ok (.bipush 64, 2) := by decide +kernel
theorem dL_act_110 : decode cL_act 110 = .ok (.if_icmp .ge 91, 3) := by decide +kernel
theorem dL_act_113 : decode cL_act 113 = .ok (.iload 12, 2) := by decide +kernel
theorem dL_act_115 : decode cL_act 115 = .ok (.bipush 8, 2) := by decide +kernel
theorem dL_act_117 : decode cL_act 117 = .ok (.irem, 1) := by decide +kernel
theorem dL_act_118 : decode cL_act 118 = .ok (.iload 8, 2) := by decide +kernel
theorem dL_act_120 : decode cL_act 120 = .ok (.bipush 8, 2) := by decide +kernel
theorem dL_act_122 : decode cL_act 122 = .ok (.irem, 1) := by decide +kernel
theorem dL_act_123 : decode cL_act 123 = .ok (.if_icmp .lt 72, 3) := by decide +kernel
theorem dL_act_126 : decode cL_act 126 = .ok (.iload 12, 2) := by decide +kernel
theorem dL_act_128 : decode cL_act 128 = .ok (.bipush 8, 2) := by decide +kernel
theorem dL_act_130 : decode cL_act 130 = .ok (.irem, 1) := by decide +kernel
theorem dL_act_131 : decode cL_act 131 = .ok (.iload 9, 2) := by decide +kernel
theorem dL_act_133 : decode cL_act 133 = .ok (.bipush 8, 2) := by decide +kernel
theorem dL_act_135 : decode cL_act 135 = .ok (.irem, 1) := by decide +kernel
theorem dL_act_136 : decode cL_act 136 = .ok (.if_icmp .gt 59, 3) := by decide +kernel
theorem dL_act_139 : decode cL_act 139 = .ok (.iload 12, 2) := by decide +kernel
theorem dL_act_141 : decode cL_act 141 = .ok (.bipush 8, 2) := by decide +kernel
theorem dL_act_143 : decode cL_act 143 = .ok (.idiv, 1) := by decide +kernel
theorem dL_act_144 : decode cL_act 144 = .ok (.iload 8, 2) := by decide +kernel
theorem dL_act_146 : decode cL_act 146 = .ok (.bipush 8, 2) := by decide +kernel
theorem dL_act_148 : decode cL_act 148 = .ok (.idiv, 1) := by decide +kernel
theorem dL_act_149 : decode cL_act 149 = .ok (.if_icmp .lt 46, 3) := by decide +kernel
theorem dL_act_152 : decode cL_act 152 = .ok (.iload 12, 2) := by decide +kernel
theorem dL_act_154 : decode cL_act 154 = .ok (.bipush 8, 2) := by decide +kernel
theorem dL_act_156 : decode cL_act 156 = .ok (.idiv, 1) := by decide +kernel
theorem dL_act_157 : decode cL_act 157 = .ok (.iload 9, 2) := by decide +kernel
theorem dL_act_159 : decode cL_act 159 = .ok (.bipush 8, 2) := by decide +kernel
theorem dL_act_161 : decode cL_act 161 = .ok (.idiv, 1) := by decide +kernel
theorem dL_act_162 : decode cL_act 162 = .ok (.if_icmp .le 6, 3) := by decide +kernel
theorem dL_act_165 : decode cL_act 165 = .ok (.goto 30, 3) := by decide +kernel
theorem dL_act_168 : decode cL_act 168 = .ok (.iload 11, 2) := by decide +kernel
theorem dL_act_170 : decode cL_act 170 = .ok (.aload 4, 2) := by decide +kernel
theorem dL_act_172 : decode cL_act 172 = .ok (.iload 12, 2) := by decide +kernel
theorem dL_act_174 : decode cL_act 174 = .ok (.iaload, 1) := by decide +kernel
theorem dL_act_175 : decode cL_act 175 = .ok (.iload 10, 2) := by decide +kernel
theorem dL_act_177 : decode cL_act 177 = .ok (.if_icmp .eq 7, 3) := by decide +kernel
theorem dL_act_180 : decode cL_act 180 = .ok (.iconst 1, 1) := by decide +kernel
theorem dL_act_181 : decode cL_act 181 = .ok (.goto 4, 3) := by decide +kernel
theorem dL_act_184 : decode cL_act 184 = .ok (.iconst 0, 1) := by decide +kernel
theorem dL_act_185 : decode cL_act 185 = .ok (.iadd, 1) := by decide +kernel
theorem dL_act_186 : decode cL_act 186 = .ok (.istore 11, 2) := by decide +kernel
theorem dL_act_188 : decode cL_act 188 = .ok (.aload 4, 2) := by decide +kernel
theorem dL_act_190 : decode cL_act 190 = .ok (.iload 12, 2) := by decide +kernel
theorem dL_act_192 : decode cL_act 192 = .ok (.iload 10, 2) := by decide +kernel
theorem dL_act_194 : decode cL_act 194 = .ok (.iastore, 1) := by decide +kernel
theorem dL_act_195 : decode cL_act 195 = .ok (.iinc 12 1, 3) := by decide +kernel
theorem dL_act_198 : decode cL_act 198 = .ok (.goto (-92), 3) := by decide +kernel
theorem dL_act_201 : decode cL_act 201 = .ok (.aload_n 0, 1) := by decide +kernel
theorem dL_act_202 : decode cL_act 202 = .ok (.iload 8, 2) := by decide +kernel
theorem dL_act_204 : decode cL_act 204 = .ok (.invokestatic 46, 3) := by decide +kernel
theorem dL_act_207 : decode cL_act 207 = .ok (.iload 9, 2) := by decide +kernel
theorem dL_act_209 : decode cL_act 209 = .ok (.invokestatic 46, 3) := by decide +kernel
theorem dL_act_212 : decode cL_act 212 = .ok (.iload 10, 2) := by decide +kernel
theorem dL_act_214 : decode cL_act 214 = .ok (.invokevirtual 90, 3) := by decide +kernel
theorem dL_act_217 : decode cL_act 217 = .ok (.iload 11, 2) := by decide +kernel
theorem dL_act_219 : decode cL_act 219 = .ok (.if_icmp .ne 7, 3) := by decide +kernel
theorem dL_act_222 : decode cL_act 222 = .ok (.iconst 1, 1) := by decide +kernel
theorem dL_act_223 : decode cL_act 223 = .ok (.goto 4, 3) := by decide +kernel
theorem dL_act_226 : decode cL_act 226 = .ok (.iconst 0, 1) := by decide +kernel
theorem dL_act_227 : decode cL_act 227 = .ok (.ireturn, 1) := by decide +kernel
theorem dL_act_228 : decode cL_act 228 = .ok (.iload_n 1, 1) := by decide +kernel
theorem dL_act_229 : decode cL_act 229 = .ok (.iconst 3, 1) := by decide +kernel
theorem dL_act_230 : decode cL_act 230 = .ok (.if_icmp .ne 65, 3) := by decide +kernel
theorem dL_act_233 : decode cL_act 233 = .ok (.iload_n 2, 1) := by decide +kernel
theorem dL_act_234 : decode cL_act 234 = .ok (.iconst 2, 1) := by decide +kernel
theorem dL_act_235 : decode cL_act 235 = .ok (.invokestatic 64, 3) := by decide +kernel
theorem dL_act_238 : decode cL_act 238 = .ok (.istore 8, 2) := by decide +kernel
theorem dL_act_240 : decode cL_act 240 = .ok (.aload 7, 2) := by decide +kernel
theorem dL_act_242 : decode cL_act 242 = .ok (.bipush 7, 2) := by decide +kernel
theorem dL_act_244 : decode cL_act 244 = .ok (.iload 8, 2) := by decide +kernel
theorem dL_act_246 : decode cL_act 246 = .ok (.iadd, 1) := by decide +kernel
theorem dL_act_247 : decode cL_act 247 = .ok (.iaload, 1) := by decide +kernel
theorem dL_act_248 : decode cL_act 248 = .ok (.invokestatic 46, 3) := by decide +kernel
theorem dL_act_251 : decode cL_act 251 = .ok (.istore 9, 2) := by decide +kernel
theorem dL_act_253 : decode cL_act 253 = .ok (.aload 7, 2) := by decide +kernel
theorem dL_act_255 : decode cL_act 255 = .ok (.bipush 7, 2) := by decide +kernel
theorem dL_act_257 : decode cL_act 257 = .ok (.iload 8, 2) := by decide +kernel
theorem dL_act_259 : decode cL_act 259 = .ok (.iadd, 1) := by decide +kernel
theorem dL_act_260 : decode cL_act 260 = .ok (.iload_n 3, 1) := by decide +kernel
theorem dL_act_261 : decode cL_act 261 = .ok (.bipush 64, 2) := by decide +kernel
theorem dL_act_263 : decode cL_act 263 = .ok (.invokestatic 64, 3) := by decide +kernel
theorem dL_act_266 : decode cL_act 266 = .ok (.iastore, 1) := by decide +kernel
theorem dL_act_267 : decode cL_act 267 = .ok (.aload_n 0, 1) := by decide +kernel
theorem dL_act_268 : decode cL_act 268 = .ok (.iload 8, 2) := by decide +kernel
theorem dL_act_270 : decode cL_act 270 = .ok (.aload 7, 2) := by decide +kernel
theorem dL_act_272 : decode cL_act 272 = .ok (.bipush 7, 2) := by decide +kernel
theorem dL_act_274 : decode cL_act 274 = .ok (.iload 8, 2) := by decide +kernel
theorem dL_act_276 : decode cL_act 276 = .ok (.iadd, 1) := by decide +kernel
theorem dL_act_277 : decode cL_act 277 = .ok (.iaload, 1) := by decide +kernel
theorem dL_act_278 : decode cL_act 278 = .ok (.invokestatic 46, 3) := by decide +kernel
theorem dL_act_281 : decode cL_act 281 = .ok (.invokevirtual 94, 3) := by decide +kernel
theorem dL_act_284 : decode cL_act 284 = .ok (.iload 9, 2) := by decide +kernel
theorem dL_act_286 : decode cL_act 286 = .ok (.if_icmp .ne 7, 3) := by decide +kernel
theorem dL_act_289 : decode cL_act 289 = .ok (.iconst 1, 1) := by decide +kernel
theorem dL_act_290 : decode cL_act 290 = .ok (.goto 4, 3) := by decide +kernel
theorem dL_act_293 : decode cL_act 293 = .ok (.iconst 0, 1) := by decide +kernel
theorem dL_act_294 : decode cL_act 294 = .ok (.ireturn, 1) := by decide +kernel
theorem dL_act_295 : decode cL_act 295 = .ok (.iload_n 1, 1) := by decide +kernel
theorem dL_act_296 : decode cL_act 296 = .ok (.bipush 7, 2) := by decide +kernel
theorem dL_act_298 : decode cL_act 298 = .ok (.if_icmp .ge 186, 3) := by decide +kernel
theorem dL_act_301 : decode cL_act 301 = .ok (.iload_n 3, 1) := by decide +kernel
theorem dL_act_302 : decode cL_act 302 = .ok (.iload_n 2, 1) := by decide +kernel
theorem dL_act_303 : decode cL_act 303 = .ok (.iconst 2, 1) := by decide +kernel
theorem dL_act_304 : decode cL_act 304 = .ok (.invokestatic 64, 3) := by decide +kernel
theorem dL_act_307 : decode cL_act 307 = .ok (.ifCond .ne 8, 3) := by decide +kernel
theorem dL_act_310 : decode cL_act 310 = .ok (.bipush 64, 2) := by decide +kernel
theorem dL_act_312 : decode cL_act 312 = .ok (.goto 5, 3) := by decide +kernel
theorem dL_act_315 : decode cL_act 315 = .ok (.bipush 24, 2) := by decide +kernel
theorem dL_act_317 : decode cL_act 317 = .ok (.invokestatic 64, 3) := by decide +kernel
theorem dL_act_320 : decode cL_act 320 = .ok (.istore 8, 2) := by decide +kernel
theorem dL_act_322 : decode cL_act 322 = .ok (.aload 7, 2) := by decide +kernel
theorem dL_act_324 : decode cL_act 324 = .ok (.iconst 1, 1) := by decide +kernel
theorem dL_act_325 : decode cL_act 325 = .ok (.iaload, 1) := by decide +kernel
theorem dL_act_326 : decode cL_act 326 = .ok (.bipush 6, 2) := by decide +kernel
theorem dL_act_328 : decode cL_act 328 = .ok (.if_icmp .eq 15, 3) := by decide +kernel
theorem dL_act_331 : decode cL_act 331 = .ok (.iload 8, 2) := by decide +kernel
theorem dL_act_333 : decode cL_act 333 = .ok (.aload 5, 2) := by decide +kernel
theorem dL_act_335 : decode cL_act 335 = .ok (.aload 7, 2) := by decide +kernel
theorem dL_act_337 : decode cL_act 337 = .ok (.invokestatic 25, 3) := by decide +kernel
theorem dL_act_340 : decode cL_act 340 = .ok (.ifCond .lt 5, 3) := by decide +kernel
theorem dL_act_343 : decode cL_act 343 = .ok (.iconst 1, 1) := by decide +kernel
theorem dL_act_344 : decode cL_act 344 = .ok (.ireturn, 1) := by decide +kernel
theorem dL_act_345 : decode cL_act 345 = .ok (.bipush 8, 2) := by decide +kernel
theorem dL_act_347 : decode cL_act 347 = .ok (.aload 7, 2) := by decide +kernel
theorem dL_act_349 : decode cL_act 349 = .ok (.iconst 1, 1) := by decide +kernel
theorem dL_act_350 : decode cL_act 350 = .ok (.iaload, 1) := by decide +kernel
theorem dL_act_351 : decode cL_act 351 = .ok (.imul, 1) := by decide +kernel
theorem dL_act_352 : decode cL_act 352 = .ok (.istore 9, 2) := by decide +kernel
theorem dL_act_354 : decode cL_act 354 = .ok (.iconst 0, 1) := by decide +kernel
theorem dL_act_355 : decode cL_act 355 = .ok (.istore 10, 2) := by decide +kernel
theorem dL_act_357 : decode cL_act 357 = .ok (.iload 10, 2) := by decide +kernel
theorem dL_act_359 : decode cL_act 359 = .ok (.bipush 8, 2) := by decide +kernel
theorem dL_act_361 : decode cL_act 361 = .ok (.if_icmp .ge 18, 3) := by decide +kernel
theorem dL_act_364 : decode cL_act 364 = .ok (.aload 5, 2) := by decide +kernel
theorem dL_act_366 : decode cL_act 366 = .ok (.iload 9, 2) := by decide +kernel
theorem dL_act_368 : decode cL_act 368 = .ok (.iload 10, 2) := by decide +kernel
theorem dL_act_370 : decode cL_act 370 = .ok (.iadd, 1) := by decide +kernel
theorem dL_act_371 : decode cL_act 371 = .ok (.iconst 0, 1) := by decide +kernel
theorem dL_act_372 : decode cL_act 372 = .ok (.iastore, 1) := by decide +kernel
theorem dL_act_373 : decode cL_act 373 = .ok (.iinc 10 1, 3) := by decide +kernel
theorem dL_act_376 : decode cL_act 376 = .ok (.goto (-19), 3) := by decide +kernel
theorem dL_act_379 : decode cL_act 379 = .ok (.aload 5, 2) := by decide +kernel
theorem dL_act_381 : decode cL_act 381 = .ok (.iload 9, 2) := by decide +kernel
theorem dL_act_383 : decode cL_act 383 = .ok (.iload_n 2, 1) := by decide +kernel
theorem dL_act_384 : decode cL_act 384 = .ok (.iconst 3, 1) := by decide +kernel
theorem dL_act_385 : decode cL_act 385 = .ok (.ishr, 1) := by decide +kernel
theorem dL_act_386 : decode cL_act 386 = .ok (.iconst 2, 1) := by decide +kernel
theorem dL_act_387 : decode cL_act 387 = .ok (.invokestatic 64, 3) := by decide +kernel
theorem dL_act_390 : decode cL_act 390 = .ok (.iastore, 1) := by decide +kernel
theorem dL_act_391 : decode cL_act 391 = .ok (.aload 5, 2) := by decide +kernel
theorem dL_act_393 : decode cL_act 393 = .ok (.iload 9, 2) := by decide +kernel
theorem dL_act_395 : decode cL_act 395 = .ok (.iconst 1, 1) := by decide +kernel
theorem dL_act_396 : decode cL_act 396 = .ok (.iadd, 1) := by decide +kernel
theorem dL_act_397 : decode cL_act 397 = .ok (.iload 8, 2) := by decide +kernel
theorem dL_act_399 : decode cL_act 399 = .ok (.iastore, 1) := by decide +kernel
theorem dL_act_400 : decode cL_act 400 = .ok (.aload 5, 2) := by decide +kernel
theorem dL_act_402 : decode cL_act 402 = .ok (.iload 9, 2) := by decide +kernel
theorem dL_act_404 : decode cL_act 404 = .ok (.iconst 2, 1) := by decide +kernel
theorem dL_act_405 : decode cL_act 405 = .ok (.iadd, 1) := by decide +kernel
theorem dL_act_406 : decode cL_act 406 = .ok (.iconst 1, 1) := by decide +kernel
theorem dL_act_407 : decode cL_act 407 = .ok (.iload_n 2, 1) := by decide +kernel
theorem dL_act_408 : decode cL_act 408 = .ok (.iconst 5, 1) := by decide +kernel
theorem dL_act_409 : decode cL_act 409 = .ok (.ishr, 1) := by decide +kernel
theorem dL_act_410 : decode cL_act 410 = .ok (.bipush 20, 2) := by decide +kernel
theorem dL_act_412 : decode cL_act 412 = .ok (.invokestatic 64, 3) := by decide +kernel
theorem dL_act_415 : decode cL_act 415 = .ok (.iadd, 1) := by decide +kernel
theorem dL_act_416 : decode cL_act 416 = .ok (.iastore, 1) := by decide +kernel
theorem dL_act_417 : decode cL_act 417 = .ok (.aload 5, 2) := by decide +kernel
theorem dL_act_419 : decode cL_act 419 = .ok (.iload 9, 2) := by decide +kernel
theorem dL_act_421 : decode cL_act 421 = .ok (.iconst 3, 1) := by decide +kernel
theorem dL_act_422 : decode cL_act 422 = .ok (.iadd, 1) := by decide +kernel
theorem dL_act_423 : decode cL_act 423 = .ok (.iload 8, 2) := by decide +kernel
theorem dL_act_425 : decode cL_act 425 = .ok (.iastore, 1) := by decide +kernel
theorem dL_act_426 : decode cL_act 426 = .ok (.aload 5, 2) := by decide +kernel
theorem dL_act_428 : decode cL_act 428 = .ok (.iload 9, 2) := by decide +kernel
theorem dL_act_430 : decode cL_act 430 = .ok (.iconst 5, 1) := by decide +kernel
theorem dL_act_431 : decode cL_act 431 = .ok (.iadd, 1) := by decide +kernel
theorem dL_act_432 : decode cL_act 432 = .ok (.aload 5, 2) := by decide +kernel
theorem dL_act_434 : decode cL_act 434 = .ok (.iload 9, 2) := by decide +kernel
theorem dL_act_436 : decode cL_act 436 = .ok (.iconst 2, 1) := by decide +kernel
theorem dL_act_437 : decode cL_act 437 = .ok (.iadd, 1) := by decide +kernel
theorem dL_act_438 : decode cL_act 438 = .ok (.iaload, 1) := by decide +kernel
theorem dL_act_439 : decode cL_act 439 = .ok (.iastore, 1) := by decide +kernel
theorem dL_act_440 : decode cL_act 440 = .ok (.aload 7, 2) := by decide +kernel
theorem dL_act_442 : decode cL_act 442 = .ok (.iconst 1, 1) := by decide +kernel
theorem dL_act_443 : decode cL_act 443 = .ok (.dup2, 1) := by decide +kernel
theorem dL_act_444 : decode cL_act 444 = .ok (.iaload, 1) := by decide +kernel
theorem dL_act_445 : decode cL_act 445 = .ok (.iconst 1, 1) := by decide +kernel
theorem dL_act_446 : decode cL_act 446 = .ok (.iadd, 1) := by decide +kernel
theorem dL_act_447 : decode cL_act 447 = .ok (.iastore, 1) := by decide +kernel
theorem dL_act_448 : decode cL_act 448 = .ok (.aload_n 0, 1) := by decide +kernel
theorem dL_act_449 : decode cL_act 449 = .ok (.aload 5, 2) := by decide +kernel
theorem dL_act_451 : decode cL_act 451 = .ok (.iload 9, 2) := by decide +kernel
theorem dL_act_453 : decode cL_act 453 = .ok (.iaload, 1) := by decide +kernel
theorem dL_act_454 : decode cL_act 454 = .ok (.iload 8, 2) := by decide +kernel
theorem dL_act_456 : decode cL_act 456 = .ok (.invokestatic 46, 3) := by decide +kernel
theorem dL_act_459 : decode cL_act 459 = .ok (.aload 5, 2) := by decide +kernel
theorem dL_act_461 : decode cL_act 461 = .ok (.iload 9, 2) := by decide +kernel
theorem dL_act_463 : decode cL_act 463 = .ok (.iconst 2, 1) := by decide +kernel
theorem dL_act_464 : decode cL_act 464 = .ok (.iadd, 1) := by decide +kernel
theorem dL_act_465 : decode cL_act 465 = .ok (.iaload, 1) := by decide +kernel
theorem dL_act_466 : decode cL_act 466 = .ok (.invokevirtual 97, 3) := by decide +kernel
theorem dL_act_469 : decode cL_act 469 = .ok (.aload 7, 2) := by decide +kernel
theorem dL_act_471 : decode cL_act 471 = .ok (.iconst 1, 1) := by decide +kernel
theorem dL_act_472 : decode cL_act 472 = .ok (.iaload, 1) := by decide +kernel
theorem dL_act_473 : decode cL_act 473 = .ok (.iconst 1, 1) := by decide +kernel
theorem dL_act_474 : decode cL_act 474 = .ok (.isub, 1) := by decide +kernel
theorem dL_act_475 : decode cL_act 475 = .ok (.if_icmp .ne 7, 3) := by decide +kernel
theorem dL_act_478 : decode cL_act 478 = .ok (.iconst 1, 1) := by decide +kernel
theorem dL_act_479 : decode cL_act 479 = .ok (.goto 4, 3) := by decide +kernel
theorem dL_act_482 : decode cL_act 482 = .ok (.iconst 0, 1) := by decide +kernel
theorem dL_act_483 : decode cL_act 483 = .ok (.ireturn, 1) := by decide +kernel
theorem dL_act_484 : decode cL_act 484 = .ok (.aload 7, 2) := by decide +kernel
theorem dL_act_486 : decode cL_act 486 = .ok (.iconst 1, 1) := by decide +kernel
theorem dL_act_487 : decode cL_act 487 = .ok (.iaload, 1) := by decide +kernel
theorem dL_act_488 : decode cL_act 488 = .ok (.ifCond .ne 5, 3) := by decide +kernel
theorem dL_act_491 : decode cL_act 491 = .ok (.iconst 1, 1) := by decide +kernel
theorem dL_act_492 : decode cL_act 492 = .ok (.ireturn, 1) := by decide +kernel
theorem dL_act_493 : decode cL_act 493 = .ok (.iload_n 1, 1) := by decide +kernel
theorem dL_act_494 : decode cL_act 494 = .ok (.bipush 11, 2) := by decide +kernel
theorem dL_act_496 : decode cL_act 496 = .ok (.if_icmp .ge 170, 3) := by decide +kernel
theorem dL_act_499 : decode cL_act 499 = .ok (.iload_n 2, 1) := by decide +kernel
theorem dL_act_500 : decode cL_act 500 = .ok (.aload 7, 2) := by decide +kernel
theorem dL_act_502 : decode cL_act 502 = .ok (.iconst 1, 1) := by decide +kernel
theorem dL_act_503 : decode cL_act 503 = .ok (.iaload, 1) := by decide +kernel
theorem dL_act_504 : decode cL_act 504 = .ok (.invokestatic 64, 3) := by decide +kernel
theorem dL_act_507 : decode cL_act 507 = .ok (.istore 8, 2) := by decide +kernel
theorem dL_act_509 : decode cL_act 509 = .ok (.iload 8, 2) := by decide +kernel
theorem dL_act_511 : decode cL_act 511 = .ok (.aload 4, 2) := by decide +kernel
theorem dL_act_513 : decode cL_act 513 = .ok (.aload 5, 2) := by decide +kernel
theorem dL_act_515 : decode cL_act 515 = .ok (.aload 7, 2) := by decide +kernel
theorem dL_act_517 : decode cL_act 517 = .ok (.invokestatic 52, 3) := by decide +kernel
theorem dL_act_520 : decode cL_act 520 = .ok (.ifCond .ne 12, 3) := by decide +kernel
theorem dL_act_523 : decode cL_act 523 = .ok (.aload 7, 2) := by decide +kernel
theorem dL_act_525 : decode cL_act 525 = .ok (.iconst 2, 1) := by decide +kernel
theorem dL_act_526 : decode cL_act 526 = .ok (.iaload, 1) := by decide +kernel
theorem dL_act_527 : decode cL_act 527 = .ok (.bipush 12, 2) := by decide +kernel
theorem dL_act_529 : decode cL_act 529 = .ok (.if_icmp .ne 5, 3) := by decide +kernel
theorem dL_act_532 : decode cL_act 532 = .ok (.iconst 1, 1) := by decide +kernel
theorem dL_act_533 : decode cL_act 533 = .ok (.ireturn, 1) := by decide +kernel
theorem dL_act_534 : decode cL_act 534 = .ok (.aload 7, 2) := by decide +kernel
theorem dL_act_536 : decode cL_act 536 = .ok (.bipush 7, 2) := by decide +kernel
theorem dL_act_538 : decode cL_act 538 = .ok (.aload 5, 2) := by decide +kernel
theorem dL_act_540 : decode cL_act 540 = .ok (.bipush 8, 2) := by decide +kernel
theorem dL_act_542 : decode cL_act 542 = .ok (.iload 8, 2) := by decide +kernel
theorem dL_act_544 : decode cL_act 544 = .ok (.imul, 1) := by decide +kernel
theorem dL_act_545 : decode cL_act 545 = .ok (.iaload, 1) := by decide +kernel
theorem dL_act_546 : decode cL_act 546 = .ok (.iadd, 1) := by decide +kernel
theorem dL_act_547 : decode cL_act 547 = .ok (.iaload, 1) := by decide +kernel
theorem dL_act_548 : decode cL_act 548 = .ok (.iload 8, 2) := by decide +kernel
theorem dL_act_550 : decode cL_act 550 = .ok (.aload 4, 2) := by decide +kernel
theorem dL_act_552 : decode cL_act 552 = .ok (.aload 5, 2) := by decide +kernel
theorem dL_act_554 : decode cL_act 554 = .ok (.aload 7, 2) := by decide +kernel
theorem dL_act_556 : decode cL_act 556 = .ok (.invokestatic 37, 3) := by decide +kernel
theorem dL_act_559 : decode cL_act 559 = .ok (.istore 9, 2) := by decide +kernel
theorem dL_act_561 : decode cL_act 561 = .ok (.iconst 4, 1) := by decide +kernel
theorem dL_act_562 : decode cL_act 562 = .ok (.aload 7, 2) := by decide +kernel
theorem dL_act_564 : decode cL_act 564 = .ok (.iconst 2, 1) := by decide +kernel
theorem dL_act_565 : decode cL_act 565 = .ok (.dup2, 1) := by decide +kernel
theorem dL_act_566 : decode cL_act 566 = .ok (.iaload, 1) := by decide +kernel
theorem dL_act_567 : decode cL_act 567 = .ok (.dup_x2, 1) := by decide +kernel
theorem dL_act_568 : decode cL_act 568 = .ok (.iconst 1, 1) := by decide +kernel
theorem dL_act_569 : decode cL_act 569 = .ok (.iadd, 1) := by decide +kernel
theorem dL_act_570 : decode cL_act 570 = .ok (.iastore, 1) := by decide +kernel
theorem dL_act_571 : decode cL_act 571 = .ok (.imul, 1) := by decide +kernel
theorem dL_act_572 : decode cL_act 572 = .ok (.istore 10, 2) := by decide +kernel
theorem dL_act_574 : decode cL_act 574 = .ok (.aload 6, 2) := by decide +kernel
theorem dL_act_576 : decode cL_act 576 = .ok (.iload 10, 2) := by decide +kernel
theorem dL_act_578 : decode cL_act 578 = .ok (.aload 7, 2) := by decide +kernel
theorem dL_act_580 : decode cL_act 580 = .ok (.iconst 3, 1) := by decide +kernel
theorem dL_act_581 : decode cL_act 581 = .ok (.dup2, 1) := by decide +kernel
theorem dL_act_582 : decode cL_act 582 = .ok (.iaload, 1) := by decide +kernel
theorem dL_act_583 : decode cL_act 583 = .ok (.dup_x2, 1) := by decide +kernel
theorem dL_act_584 : decode cL_act 584 = .ok (.iconst 1, 1) := by decide +kernel
theorem dL_act_585 : decode cL_act 585 = .ok (.iadd, 1) := by decide +kernel
theorem dL_act_586 : decode cL_act 586 = .ok (.iastore, 1) := by decide +kernel
theorem dL_act_587 : decode cL_act 587 = .ok (.iastore, 1) := by decide +kernel
theorem dL_act_588 : decode cL_act 588 = .ok (.aload 6, 2) := by decide +kernel
theorem dL_act_590 : decode cL_act 590 = .ok (.iload 10, 2) := by decide +kernel
theorem dL_act_592 : decode cL_act 592 = .ok (.iconst 1, 1) := by decide +kernel
theorem dL_act_593 : decode cL_act 593 = .ok (.iadd, 1) := by decide +kernel
theorem dL_act_594 : decode cL_act 594 = .ok (.iload 8, 2) := by decide +kernel
theorem dL_act_596 : decode cL_act 596 = .ok (.iastore, 1) := by decide +kernel
theorem dL_act_597 : decode cL_act 597 = .ok (.aload 6, 2) := by decide +kernel
theorem dL_act_599 : decode cL_act 599 = .ok (.iload 10, 2) := by decide +kernel
theorem dL_act_601 : decode cL_act 601 = .ok (.iconst 2, 1) := by decide +kernel
theorem dL_act_602 : decode cL_act 602 = .ok (.iadd, 1) := by decide +kernel
theorem dL_act_603 : decode cL_act 603 = .ok (.iload_n 3, 1) := by decide +kernel
theorem dL_act_604 : decode cL_act 604 = .ok (.iload_n 2, 1) := by decide +kernel
theorem dL_act_605 : decode cL_act 605 = .ok (.iconst 5, 1) := by decide +kernel
theorem dL_act_606 : decode cL_act 606 = .ok (.ishr, 1) := by decide +kernel
theorem dL_act_607 : decode cL_act 607 = .ok (.iconst 3, 1) := by decide +kernel
theorem dL_act_608 : decode cL_act 608 = .ok (.invokestatic 64, 3) := by decide +kernel
theorem dL_act_611 : decode cL_act 611 = .ok (.ifCond .ne 8, 3) := by decide +kernel
theorem dL_act_614 : decode cL_act 614 = .ok (.bipush 64, 2) := by decide +kernel
theorem dL_act_616 : decode cL_act 616 = .ok (.goto 5, 3) := by decide +kernel
theorem dL_act_619 : decode cL_act 619 = .ok (.bipush 24, 2) := by decide +kernel
theorem dL_act_621 : decode cL_act 621 = .ok (.invokestatic 64, 3) := by decide +kernel
theorem dL_act_624 : decode cL_act 624 = .ok (.iastore, 1) := by decide +kernel
theorem dL_act_625 : decode cL_act 625 = .ok (.aload 6, 2) := by decide +kernel
theorem dL_act_627 : decode cL_act 627 = .ok (.iload 10, 2) := by decide +kernel
theorem dL_act_629 : decode cL_act 629 = .ok (.iconst 3, 1) := by decide +kernel
theorem dL_act_630 : decode cL_act 630 = .ok (.iadd, 1) := by decide +kernel
theorem dL_act_631 : decode cL_act 631 = .ok (.aload 7, 2) := by decide +kernel
theorem dL_act_633 : decode cL_act 633 = .ok (.iconst 0, 1) := by decide +kernel
theorem dL_act_634 : decode cL_act 634 = .ok (.iaload, 1) := by decide +kernel
theorem dL_act_635 : decode cL_act 635 = .ok (.iload 9, 2) := by decide +kernel
theorem dL_act_637 : decode cL_act 637 = .ok (.iadd, 1) := by decide +kernel
theorem dL_act_638 : decode cL_act 638 = .ok (.iastore, 1) := by decide +kernel
theorem dL_act_639 : decode cL_act 639 = .ok (.aload_n 0, 1) := by decide +kernel
theorem dL_act_640 : decode cL_act 640 = .ok (.iload 8, 2) := by decide +kernel
theorem dL_act_642 : decode cL_act 642 = .ok (.aload 6, 2) := by decide +kernel
theorem dL_act_644 : decode cL_act 644 = .ok (.iload 10, 2) := by decide +kernel
theorem dL_act_646 : decode cL_act 646 = .ok (.iconst 2, 1) := by decide +kernel
theorem dL_act_647 : decode cL_act 647 = .ok (.iadd, 1) := by decide +kernel
theorem dL_act_648 : decode cL_act 648 = .ok (.iaload, 1) := by decide +kernel
theorem dL_act_649 : decode cL_act 649 = .ok (.invokestatic 46, 3) := by decide +kernel
theorem dL_act_652 : decode cL_act 652 = .ok (.invokevirtual 100, 3) := by decide +kernel
theorem dL_act_655 : decode cL_act 655 = .ok (.iload 9, 2) := by decide +kernel
theorem dL_act_657 : decode cL_act 657 = .ok (.if_icmp .ne 7, 3) := by decide +kernel
theorem dL_act_660 : decode cL_act 660 = .ok (.iconst 1, 1) := by decide +kernel
theorem dL_act_661 : decode cL_act 661 = .ok (.goto 4, 3) := by decide +kernel
theorem dL_act_664 : decode cL_act 664 = .ok (.iconst 0, 1) := by decide +kernel
theorem dL_act_665 : decode cL_act 665 = .ok (.ireturn, 1) := by decide +kernel
theorem dL_act_666 : decode cL_act 666 = .ok (.iconst 1, 1) := by decide +kernel
theorem dL_act_667 : decode cL_act 667 = .ok (.iload_n 3, 1) := by decide +kernel
theorem dL_act_668 : decode cL_act 668 = .ok (.iconst 5, 1) := by decide +kernel
theorem dL_act_669 : decode cL_act 669 = .ok (.invokestatic 64, 3) := by decide +kernel
theorem dL_act_672 : decode cL_act 672 = .ok (.iadd, 1) := by decide +kernel
theorem dL_act_673 : decode cL_act 673 = .ok (.istore 8, 2) := by decide +kernel
theorem dL_act_675 : decode cL_act 675 = .ok (.aload 7, 2) := by decide +kernel
theorem dL_act_677 : decode cL_act 677 = .ok (.iconst 5, 1) := by decide +kernel
theorem dL_act_678 : decode cL_act 678 = .ok (.iaload, 1) := by decide +kernel
theorem dL_act_679 : decode cL_act 679 = .ok (.aload 7, 2) := by decide +kernel
theorem dL_act_681 : decode cL_act 681 = .ok (.bipush 6, 2) := by decide +kernel
theorem dL_act_683 : decode cL_act 683 = .ok (.iaload, 1) := by decide +kernel
theorem dL_act_684 : decode cL_act 684 = .ok (.iadd, 1) := by decide +kernel
theorem dL_act_685 : decode cL_act 685 = .ok (.istore 9, 2) := by decide +kernel
theorem dL_act_687 : decode cL_act 687 = .ok (.iconst 0, 1) := by decide +kernel
theorem dL_act_688 : decode cL_act 688 = .ok (.istore 10, 2) := by decide +kernel
theorem dL_act_690 : decode cL_act 690 = .ok (.iload 10, 2) := by decide +kernel
theorem dL_act_692 : decode cL_act 692 = .ok (.iload 8, 2) := by decide +kernel
theorem dL_act_694 : decode cL_act 694 = .ok (.if_icmp .ge 20, 3) := by decide +kernel
theorem dL_act_697 : decode cL_act 697 = .ok (.aload 4, 2) := by decide +kernel
theorem dL_act_699 : decode cL_act 699 = .ok (.aload 5, 2) := by decide +kernel
theorem dL_act_701 : decode cL_act 701 = .ok (.aload 6, 2) := by decide +kernel
theorem dL_act_703 : decode cL_act 703 = .ok (.aload 7, 2) := by decide +kernel
theorem dL_act_705 : decode cL_act 705 = .ok (.invokestatic 80, 3) := by decide +kernel
theorem dL_act_708 : decode cL_act 708 = .ok (.iinc 10 1, 3) := by decide +kernel
theorem dL_act_711 : decode cL_act 711 = .ok (.goto (-21), 3) := by decide +kernel
theorem dL_act_714 : decode cL_act 714 = .ok (.aload_n 0, 1) := by decide +kernel
theorem dL_act_715 : decode cL_act 715 = .ok (.iload 8, 2) := by decide +kernel
theorem dL_act_717 : decode cL_act 717 = .ok (.invokevirtual 103, 3) := by decide +kernel
theorem dL_act_720 : decode cL_act 720 = .ok (.aload 7, 2) := by decide +kernel
theorem dL_act_722 : decode cL_act 722 = .ok (.iconst 5, 1) := by decide +kernel
theorem dL_act_723 : decode cL_act 723 = .ok (.iaload, 1) := by decide +kernel
theorem dL_act_724 : decode cL_act 724 = .ok (.aload 7, 2) := by decide +kernel
theorem dL_act_726 : decode cL_act 726 = .ok (.bipush 6, 2) := by decide +kernel
theorem dL_act_728 : decode cL_act 728 = .ok (.iaload, 1) := by decide +kernel
theorem dL_act_729 : decode cL_act 729 = .ok (.iadd, 1) := by decide +kernel
theorem dL_act_730 : decode cL_act 730 = .ok (.iload 9, 2) := by decide +kernel
theorem dL_act_732 : decode cL_act 732 = .ok (.isub, 1) := by decide +kernel
theorem dL_act_733 : decode cL_act 733 = .ok (.if_icmp .ne 7, 3) := by decide +kernel
theorem dL_act_736 : decode cL_act 736 = .ok (.iconst 1, 1) := by decide +kernel
theorem dL_act_737 : decode cL_act 737 = .ok (.goto 4, 3) := by decide +kernel
theorem dL_act_740 : decode cL_act 740 = .ok (.iconst 0, 1) := by decide +kernel
theorem dL_act_741 : decode cL_act 741 = .ok (.ireturn, 1) := by decide +kernel
theorem dL_law_0 : decode cL_law 0 = .ok (.new 42, 3) := by decide +kernel
theorem dL_law_3 : decode cL_law 3 = .ok (.dup, 1) := by decide +kernel
theorem dL_law_4 : decode cL_law 4 = .ok (.invokespecial 106, 3) := by decide +kernel
theorem dL_law_7 : decode cL_law 7 = .ok (.astore_n 1, 1) := by decide +kernel
theorem dL_law_8 : decode cL_law 8 = .ok (.bipush 64, 2) := by decide +kernel
theorem dL_law_10 : decode cL_law 10 = .ok (.newarray .int, 2) := by decide +kernel
theorem dL_law_12 : decode cL_law 12 = .ok (.astore_n 2, 1) := by decide +kernel
theorem dL_law_13 : decode cL_law 13 = .ok (.bipush 48, 2) := by decide +kernel
theorem dL_law_15 : decode cL_law 15 = .ok (.newarray .int, 2) := by decide +kernel
theorem dL_law_17 : decode cL_law 17 = .ok (.astore_n 3, 1) := by decide +kernel
theorem dL_law_18 : decode cL_law 18 = .ok (.bipush 48, 2) := by decide +kernel
theorem dL_law_20 : decode cL_law 20 = .ok (.newarray .int, 2) := by decide +kernel
theorem dL_law_22 : decode cL_law 22 = .ok (.astore 4, 2) := by decide +kernel
theorem dL_law_24 : decode cL_law 24 = .ok (.bipush 9, 2) := by decide +kernel
theorem dL_law_26 : decode cL_law 26 = .ok (.newarray .int, 2) := by decide +kernel
theorem dL_law_28 : decode cL_law 28 = .ok (.astore 5, 2) := by decide +kernel
theorem dL_law_30 : decode cL_law 30 = .ok (.aload 5, 2) := by decide +kernel
theorem dL_law_32 : decode cL_law 32 = .ok (.bipush 8, 2) := by decide +kernel
theorem dL_law_34 : decode cL_law 34 = .ok (.bipush 63, 2) := by decide +kernel
theorem dL_law_36 : decode cL_law 36 = .ok (.iastore, 1) := by decide +kernel
theorem dL_law_37 : decode cL_law 37 = .ok (.aload_n 1, 1) := by decide +kernel
theorem dL_law_38 : decode cL_law 38 = .ok (.bipush 8, 2) := by decide +kernel
theorem dL_law_40 : decode cL_law 40 = .ok (.bipush 95, 2) := by decide +kernel
theorem dL_law_42 : decode cL_law 42 = .ok (.bipush 9, 2) := by decide +kernel
theorem dL_law_44 : decode cL_law 44 = .ok (.invokevirtual 90, 3) := by decide +kernel
theorem dL_law_47 : decode cL_law 47 = .ok (.bipush 32, 2) := by decide +kernel
theorem dL_law_49 : decode cL_law 49 = .ok (.if_icmp .ne 33, 3) := by decide +kernel
theorem dL_law_52 : decode cL_law 52 = .ok (.aload_n 1, 1) := by decide +kernel
theorem dL_law_53 : decode cL_law 53 = .ok (.iconst 1, 1) := by decide +kernel
theorem dL_law_54 : decode cL_law 54 = .ok (.bipush 63, 2) := by decide +kernel
theorem dL_law_56 : decode cL_law 56 = .ok (.invokestatic 46, 3) := by decide +kernel
theorem dL_law_59 : decode cL_law 59 = .ok (.invokevirtual 94, 3) := by decide +kernel
theorem dL_law_62 : decode cL_law 62 = .ok (.bipush 95, 2) := by decide +kernel
theorem dL_law_64 : decode cL_law 64 = .ok (.if_icmp .ne 18, 3) := by decide +kernel
theorem dL_law_67 : decode cL_law 67 = .ok (.aload_n 1, 1) := by decide +kernel
theorem dL_law_68 : decode cL_law 68 = .ok (.iconst 3, 1) := by decide +kernel
theorem dL_law_69 : decode cL_law 69 = .ok (.iconst 5, 1) := by decide +kernel
theorem dL_law_70 : decode cL_law 70 = .ok (.aload_n 2, 1) := by decide +kernel
theorem dL_law_71 : decode cL_law 71 = .ok (.aload_n 3, 1) := by decide +kernel
theorem dL_law_72 : decode cL_law 72 = .ok (.aload 4, 2) := by decide +kernel
theorem dL_law_74 : decode cL_law 74 = .ok (.aload 5, 2) := by decide +kernel
theorem dL_law_76 : decode cL_law 76 = .ok (.invokestatic 107, 3) := by decide +kernel
theorem dL_law_79 : decode cL_law 79 = .ok (.ifCond .ne 5, 3) := by decide +kernel
theorem dL_law_82 : decode cL_law 82 = .ok (.iconst 0, 1) := by decide +kernel
theorem dL_law_83 : decode cL_law 83 = .ok (.ireturn, 1) := by decide +kernel
theorem dL_law_84 : decode cL_law 84 = .ok (.iconst 0, 1) := by decide +kernel
theorem dL_law_85 : decode cL_law 85 = .ok (.istore 6, 2) := by decide +kernel
theorem dL_law_87 : decode cL_law 87 = .ok (.iload 6, 2) := by decide +kernel
theorem dL_law_89 : decode cL_law 89 = .ok (.bipush 20, 2) := by decide +kernel
theorem dL_law_91 : decode cL_law 91 = .ok (.if_icmp .ge 139, 3) := by decide +kernel
theorem dL_law_94 : decode cL_law 94 = .ok (.aload_n 0, 1) := by decide +kernel
theorem dL_law_95 : decode cL_law 95 = .ok (.iconst 2, 1) := by decide +kernel
theorem dL_law_96 : decode cL_law 96 = .ok (.iload 6, 2) := by decide +kernel
theorem dL_law_98 : decode cL_law 98 = .ok (.imul, 1) := by decide +kernel
theorem dL_law_99 : decode cL_law 99 = .ok (.invokestatic 111, 3) := by decide +kernel
theorem dL_law_102 : decode cL_law 102 = .ok (.ldc 114, 2) := by decide +kernel
theorem dL_law_104 : decode cL_law 104 = .ok (.iand, 1) := by decide +kernel
theorem dL_law_105 : decode cL_law 105 = .ok (.istore 7, 2) := by decide +kernel
theorem dL_law_107 : decode cL_law 107 = .ok (.aload_n 0, 1) := by decide +kernel
theorem dL_law_108 : decode cL_law 108 = .ok (.iconst 2, 1) := by decide +kernel
theorem dL_law_109 : decode cL_law 109 = .ok (.iload 6, 2) := by decide +kernel
theorem dL_law_111 : decode cL_law 111 = .ok (.imul, 1) := by decide +kernel
theorem dL_law_112 : decode cL_law 112 = .ok (.iconst 1, 1) := by decide +kernel
theorem dL_law_113 : decode cL_law 113 = .ok (.iadd, 1) := by decide +kernel
theorem dL_law_114 : decode cL_law 114 = .ok (.invokestatic 111, 3) := by decide +kernel
theorem dL_law_117 : decode cL_law 117 = .ok (.ldc 114, 2) := by decide +kernel
theorem dL_law_119 : decode cL_law 119 = .ok (.iand, 1) := by decide +kernel
theorem dL_law_120 : decode cL_law 120 = .ok (.istore 8, 2) := by decide +kernel
theorem dL_law_122 : decode cL_law 122 = .ok (.aload_n 1, 1) := by decide +kernel
theorem dL_law_123 : decode cL_law 123 = .ok (.iload 6, 2) := by decide +kernel
theorem dL_law_125 : decode cL_law 125 = .ok (.iconst 4, 1) := by decide +kernel
theorem dL_law_126 : decode cL_law 126 = .ok (.if_icmp .ge 7, 3) := by decide +kernel
theorem dL_law_129 : decode cL_law 129 = .ok (.iconst 4, 1) := by decide +kernel
theorem dL_law_130 : decode cL_law 130 = .ok (.goto 23, 3) := by decide +kernel
theorem dL_law_133 : decode cL_law 133 = .ok (.iload 6, 2) := by decide +kernel
theorem dL_law_135 : decode cL_law 135 = .ok (.iconst 4, 1) := by decide +kernel
theorem dL_law_136 : decode cL_law 136 = .ok (.if_icmp .ne 7, 3) := by decide +kernel
theorem dL_law_139 : decode cL_law 139 = .ok (.iconst 0, 1) := by decide +kernel
theorem dL_law_140 : decode cL_law 140 = .ok (.goto 13, 3) := by decide +kernel
theorem dL_law_143 : decode cL_law 143 = .ok (.iload 7, 2) := by decide +kernel
theorem dL_law_145 : decode cL_law 145 = .ok (.bipush 13, 2) := by decide +kernel
theorem dL_law_147 : decode cL_law 147 = .ok (.ishr, 1) := by decide +kernel
theorem dL_law_148 : decode cL_law 148 = .ok (.bipush 15, 2) := by decide +kernel
theorem dL_law_150 : decode cL_law 150 = .ok (.invokestatic 64, 3) := by decide +kernel
theorem dL_law_153 : decode cL_law 153 = .ok (.iload 7, 2) := by decide +kernel
theorem dL_law_155 : decode cL_law 155 = .ok (.iload 8, 2) := by decide +kernel
theorem dL_law_157 : decode cL_law 157 = .ok (.aload_n 2, 1) := by decide +kernel
theorem dL_law_158 : decode cL_law 158 = .ok (.aload_n 3, 1) := by decide +kernel
theorem dL_law_159 : decode cL_law 159 = .ok (.aload 4, 2) := by decide +kernel
theorem dL_law_161 : decode cL_law 161 = .ok (.aload 5, 2) := by decide +kernel
theorem dL_law_163 : decode cL_law 163 = .ok (.invokestatic 115, 3) := by decide +kernel
theorem dL_law_166 : decode cL_law 166 = .ok (.ifCond .eq 24, 3) := by decide +kernel
theorem dL_law_169 : decode cL_law 169 = .ok (.aload_n 1, 1) := by decide +kernel
theorem dL_law_170 : decode cL_law 170 = .ok (.iload 7, 2) := by decide +kernel
theorem dL_law_172 : decode cL_law 172 = .ok (.iconst 3, 1) := by decide +kernel
theorem dL_law_173 : decode cL_law 173 = .ok (.ishr, 1) := by decide +kernel
theorem dL_law_174 : decode cL_law 174 = .ok (.iload 8, 2) := by decide +kernel
theorem dL_law_176 : decode cL_law 176 = .ok (.iconst 3, 1) := by decide +kernel
theorem dL_law_177 : decode cL_law 177 = .ok (.ishr, 1) := by decide +kernel
theorem dL_law_178 : decode cL_law 178 = .ok (.aload_n 2, 1) := by decide +kernel
theorem dL_law_179 : decode cL_law 179 = .ok (.aload_n 3, 1) := by decide +kernel
theorem dL_law_180 : decode cL_law 180 = .ok (.aload 4, 2) := by decide +kernel
theorem dL_law_182 : decode cL_law 182 = .ok (.aload 5, 2) := by decide +kernel
theorem dL_law_184 : decode cL_law 184 = .ok (.invokestatic 107, 3) := by decide +kernel
theorem dL_law_187 : decode cL_law 187 = .ok (.ifCond .ne 5, 3) := by decide +kernel
theorem dL_law_190 : decode cL_law 190 = .ok (.iconst 0, 1) := by decide +kernel
theorem dL_law_191 : decode cL_law 191 = .ok (.ireturn, 1) := by decide +kernel
theorem dL_law_192 : decode cL_law 192 = .ok (.iload 6, 2) := by decide +kernel
theorem dL_law_194 : decode cL_law 194 = .ok (.bipush 6, 2) := by decide +kernel
theorem dL_law_196 : decode cL_law 196 = .ok (.irem, 1) := by decide +kernel
theorem dL_law_197 : decode cL_law 197 = .ok (.iconst 5, 1) := by decide +kernel
theorem dL_law_198 : decode cL_law 198 = .ok (.if_icmp .ne 26, 3) := by decide +kernel
theorem dL_law_201 : decode cL_law 201 = .ok (.aload_n 1, 1) := by decide +kernel
theorem dL_law_202 : decode cL_law 202 = .ok (.iload 8, 2) := by decide +kernel
theorem dL_law_204 : decode cL_law 204 = .ok (.iconst 2, 1) := by decide +kernel
theorem dL_law_205 : decode cL_law 205 = .ok (.ishr, 1) := by decide +kernel
theorem dL_law_206 : decode cL_law 206 = .ok (.iload 7, 2) := by decide +kernel
theorem dL_law_208 : decode cL_law 208 = .ok (.iconst 2, 1) := by decide +kernel
theorem dL_law_209 : decode cL_law 209 = .ok (.ishr, 1) := by decide +kernel
theorem dL_law_210 : decode cL_law 210 = .ok (.aload_n 2, 1) := by decide +kernel
theorem dL_law_211 : decode cL_law 211 = .ok (.aload_n 3, 1) := by decide +kernel
theorem dL_law_212 : decode cL_law 212 = .ok (.aload 4, 2) := by decide +kernel
theorem dL_law_214 : decode cL_law 214 = .ok (.aload 5, 2) := by decide +kernel
theorem dL_law_216 : decode cL_law 216 = .ok (.invokestatic 119, 3) := by decide +kernel
theorem dL_law_219 : decode cL_law 219 = .ok (.ifCond .ne 5, 3) := by decide +kernel
theorem dL_law_222 : decode cL_law 222 = .ok (.iconst 0, 1) := by decide +kernel
theorem dL_law_223 : decode cL_law 223 = .ok (.ireturn, 1) := by decide +kernel
theorem dL_law_224 : decode cL_law 224 = .ok (.iinc 6 1, 3) := by decide +kernel
theorem dL_law_227 : decode cL_law 227 = .ok (.goto (-140), 3) := by decide +kernel
theorem dL_law_230 : decode cL_law 230 = .ok (.aload_n 1, 1) := by decide +kernel
theorem dL_law_231 : decode cL_law 231 = .ok (.bipush 13, 2) := by decide +kernel
theorem dL_law_233 : decode cL_law 233 = .ok (.invokevirtual 58, 3) := by decide +kernel
theorem dL_law_236 : decode cL_law 236 = .ok (.ifCond .le 7, 3) := by decide +kernel
theorem dL_law_239 : decode cL_law 239 = .ok (.iconst 1, 1) := by decide +kernel
theorem dL_law_240 : decode cL_law 240 = .ok (.goto 4, 3) := by decide +kernel
theorem dL_law_243 : decode cL_law 243 = .ok (.iconst 0, 1) := by decide +kernel
theorem dL_law_244 : decode cL_law 244 = .ok (.ireturn, 1) := by decide +kernel
