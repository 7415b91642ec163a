theorem d_M_hears_20 : decode b_M_hears 20 = .ok (.ifCond .eq 32, 3) := by decide +kernel
theorem d_M_hears_23 : decode b_M_hears 23 = .ok (.aload_n 0, 1) := by decide +kernel
theorem d_M_hears_24 : decode b_M_hears 24 = .ok (.iload_n 1, 1) := by decide +kernel
theorem d_M_hears_25 : decode b_M_hears 25 = .ok (.iload_n 2, 1) := by decide +kernel
theorem d_M_hears_26 : decode b_M_hears 26 = .ok (.invokevirtual 154, 3) := by decide +kernel
theorem d_M_hears_29 : decode b_M_hears 29 = .ok (.ifCond .eq 23, 3) := by decide +kernel
theorem d_M_hears_32 : decode b_M_hears 32 = .ok (.aload_n 0, 1) := by decide +kernel
theorem d_M_hears_33 : decode b_M_hears 33 = .ok (.getfield 26, 3) := by decide +kernel
theorem d_M_hears_36 : decode b_M_hears 36 = .ok (.iload_n 3, 1) := by decide +kernel
theorem d_M_hears_37 : decode b_M_hears 37 = .ok (.laload, 1) := by decide +kernel
theorem d_M_hears_38 : decode b_M_hears 38 = .ok (.aload_n 0, 1) := by decide +kernel
theorem d_M_hears_39 : decode b_M_hears 39 = .ok (.getfield 147, 3) := by decide +kernel
theorem d_M_hears_42 : decode b_M_hears 42 = .ok (.invokestatic 150, 3) := by decide +kernel
theorem d_M_hears_45 : decode b_M_hears 45 = .ok (.ifCond .eq 7, 3) := by decide +kernel
theorem d_M_hears_48 : decode b_M_hears 48 = .ok (.iconst 1, 1) := by decide +kernel
theorem d_M_hears_49 : decode b_M_hears 49 = .ok (.goto 4, 3) := by decide +kernel
theorem d_M_hears_52 : decode b_M_hears 52 = .ok (.iconst 0, 1) := by decide +kernel
theorem d_M_hears_53 : decode b_M_hears 53 = .ok (.ireturn, 1) := by decide +kernel
theorem d_M_up_0 : decode b_M_up 0 = .ok (.aload_n 0, 1) := by decide +kernel
theorem d_M_up_1 : decode b_M_up 1 = .ok (.getfield 16, 3) := by decide +kernel
theorem d_M_up_4 : decode b_M_up 4 = .ok (.iload_n 1, 1) := by decide +kernel
theorem d_M_up_5 : decode b_M_up 5 = .ok (.baload, 1) := by decide +kernel
theorem d_M_up_6 : decode b_M_up 6 = .ok (.ifCond .eq 12, 3) := by decide +kernel
theorem d_M_up_9 : decode b_M_up 9 = .ok (.aload_n 0, 1) := by decide +kernel
theorem d_M_up_10 : decode b_M_up 10 = .ok (.getfield 51, 3) := by decide +kernel
theorem d_M_up_13 : decode b_M_up 13 = .ok (.iload_n 1, 1) := by decide +kernel
theorem d_M_up_14 : decode b_M_up 14 = .ok (.iaload, 1) := by decide +kernel
theorem d_M_up_15 : decode b_M_up 15 = .ok (.ifCond .ne 4, 3) := by decide +kernel
theorem d_M_up_18 : decode b_M_up 18 = .ok (.return_, 1) := by decide +kernel
theorem d_M_up_19 : decode b_M_up 19 = .ok (.iconst 4, 1) := by decide +kernel
theorem d_M_up_20 : decode b_M_up 20 = .ok (.iload_n 1, 1) := by decide +kernel
theorem d_M_up_21 : decode b_M_up 21 = .ok (.imul, 1) := by decide +kernel
theorem d_M_up_22 : decode b_M_up 22 = .ok (.istore 4, 2) := by decide +kernel
theorem d_M_up_24 : decode b_M_up 24 = .ok (.aload_n 0, 1) := by decide +kernel
theorem d_M_up_25 : decode b_M_up 25 = .ok (.dup, 1) := by decide +kernel
theorem d_M_up_26 : decode b_M_up 26 = .ok (.getfield 158, 3) := by decide +kernel
theorem d_M_up_29 : decode b_M_up 29 = .ok (.iconst 1, 1) := by decide +kernel
theorem d_M_up_30 : decode b_M_up 30 = .ok (.iadd, 1) := by decide +kernel
theorem d_M_up_31 : decode b_M_up 31 = .ok (.putfield 158, 3) := by decide +kernel
theorem d_M_up_34 : decode b_M_up 34 = .ok (.iconst 0, 1) := by decide +kernel
theorem d_M_up_35 : decode b_M_up 35 = .ok (.istore 5, 2) := by decide +kernel
theorem d_M_up_37 : decode b_M_up 37 = .ok (.aload_n 0, 1) := by decide +kernel
theorem d_M_up_38 : decode b_M_up 38 = .ok (.iload_n 1, 1) := by decide +kernel
theorem d_M_up_39 : decode b_M_up 39 = .ok (.iload_n 2, 1) := by decide +kernel
theorem d_M_up_40 : decode b_M_up 40 = .ok (.iload_n 3, 1) := by decide +kernel
theorem d_M_up_41 : decode b_M_up 41 = .ok (.invokevirtual 161, 3) := by decide +kernel
theorem d_M_up_44 : decode b_M_up 44 = .ok (.ifCond .eq 135, 3) := by decide +kernel
theorem d_M_up_47 : decode b_M_up 47 = .ok (.bipush 6, 2) := by decide +kernel
theorem d_M_up_49 : decode b_M_up 49 = .ok (.iload_n 2, 1) := by decide +kernel
theorem d_M_up_50 : decode b_M_up 50 = .ok (.imul, 1) := by decide +kernel
theorem d_M_up_51 : decode b_M_up 51 = .ok (.aload_n 0, 1) := by decide +kernel
theorem d_M_up_52 : decode b_M_up 52 = .ok (.getfield 54, 3) := by decide +kernel
theorem d_M_up_55 : decode b_M_up 55 = .ok (.iload 4, 2) := by decide +kernel
theorem d_M_up_57 : decode b_M_up 57 = .ok (.iaload, 1) := by decide +kernel
theorem d_M_up_58 : decode b_M_up 58 = .ok (.iadd, 1) := by decide +kernel
theorem d_M_up_59 : decode b_M_up 59 = .ok (.istore 6, 2) := by decide +kernel
theorem d_M_up_61 : decode b_M_up 61 = .ok (.aload_n 0, 1) := by decide +kernel
theorem d_M_up_62 : decode b_M_up 62 = .ok (.getfield 57, 3) := by decide +kernel
theorem d_M_up_65 : decode b_M_up 65 = .ok (.iload 4, 2) := by decide +kernel
theorem d_M_up_67 : decode b_M_up 67 = .ok (.iaload, 1) := by decide +kernel
theorem d_M_up_68 : decode b_M_up 68 = .ok (.aload_n 0, 1) := by decide +kernel
theorem d_M_up_69 : decode b_M_up 69 = .ok (.getfield 69, 3) := by decide +kernel
theorem d_M_up_72 : decode b_M_up 72 = .ok (.iload 6, 2) := by decide +kernel
theorem d_M_up_74 : decode b_M_up 74 = .ok (.iaload, 1) := by decide +kernel
theorem d_M_up_75 : decode b_M_up 75 = .ok (.if_icmp .gt 7, 3) := by decide +kernel
theorem d_M_up_78 : decode b_M_up 78 = .ok (.iconst 1, 1) := by decide +kernel
theorem d_M_up_79 : decode b_M_up 79 = .ok (.goto 4, 3) := by decide +kernel
theorem d_M_up_82 : decode b_M_up 82 = .ok (.iconst 0, 1) := by decide +kernel
theorem d_M_up_83 : decode b_M_up 83 = .ok (.istore 5, 2) := by decide +kernel
theorem d_M_up_85 : decode b_M_up 85 = .ok (.iload 5, 2) := by decide +kernel
theorem d_M_up_87 : decode b_M_up 87 = .ok (.ifCond .ne 92, 3) := by decide +kernel
theorem d_M_up_90 : decode b_M_up 90 = .ok (.iload_n 2, 1) := by decide +kernel
theorem d_M_up_91 : decode b_M_up 91 = .ok (.ifCond .eq 13, 3) := by decide +kernel
theorem d_M_up_94 : decode b_M_up 94 = .ok (.aload_n 0, 1) := by decide +kernel
theorem d_M_up_95 : decode b_M_up 95 = .ok (.getfield 51, 3) := by decide +kernel
theorem d_M_up_98 : decode b_M_up 98 = .ok (.iload_n 2, 1) := by decide +kernel
theorem d_M_up_99 : decode b_M_up 99 = .ok (.iaload, 1) := by decide +kernel
theorem d_M_up_100 : decode b_M_up 100 = .ok (.iconst 4, 1) := by decide +kernel
theorem d_M_up_101 : decode b_M_up 101 = .ok (.if_icmp .ge 78, 3) := by decide +kernel
theorem d_M_up_104 : decode b_M_up 104 = .ok (.iconst 1, 1) := by decide +kernel
theorem d_M_up_105 : decode b_M_up 105 = .ok (.istore 5, 2) := by decide +kernel
theorem d_M_up_107 : decode b_M_up 107 = .ok (.aload_n 0, 1) := by decide +kernel
theorem d_M_up_108 : decode b_M_up 108 = .ok (.getfield 69, 3) := by decide +kernel
theorem d_M_up_111 : decode b_M_up 111 = .ok (.iload 6, 2) := by decide +kernel
theorem d_M_up_113 : decode b_M_up 113 = .ok (.aload_n 0, 1) := by decide +kernel
theorem d_M_up_114 : decode b_M_up 114 = .ok (.getfield 57, 3) := by decide +kernel
theorem d_M_up_117 : decode b_M_up 117 = .ok (.iload 4, 2) := by decide +kernel
theorem d_M_up_119 : decode b_M_up 119 = .ok (.iaload, 1) := by decide +kernel
theorem d_M_up_120 : decode b_M_up 120 = .ok (.iastore, 1) := by decide +kernel
theorem d_M_up_121 : decode b_M_up 121 = .ok (.iload_n 2, 1) := by decide +kernel
theorem d_M_up_122 : decode b_M_up 122 = .ok (.ifCond .ne 31, 3) := by decide +kernel
theorem d_M_up_125 : decode b_M_up 125 = .ok (.aload_n 0, 1) := by decide +kernel
theorem d_M_up_126 : decode b_M_up 126 = .ok (.aload_n 0, 1) := by decide +kernel
theorem d_M_up_127 : decode b_M_up 127 = .ok (.getfield 54, 3) := by decide +kernel
theorem d_M_up_130 : decode b_M_up 130 = .ok (.iload 4, 2) := by decide +kernel
theorem d_M_up_132 : decode b_M_up 132 = .ok (.iaload, 1) := by decide +kernel
theorem d_M_up_133 : decode b_M_up 133 = .ok (.aload_n 0, 1) := by decide +kernel
theorem d_M_up_134 : decode b_M_up 134 = .ok (.getfield 57, 3) := by decide +kernel
theorem d_M_up_137 : decode b_M_up 137 = .ok (.iload 4, 2) := by decide +kernel
theorem d_M_up_139 : decode b_M_up 139 = .ok (.iaload, 1) := by decide +kernel
theorem d_M_up_140 : decode b_M_up 140 = .ok (.aload_n 0, 1) := by decide +kernel
theorem d_M_up_141 : decode b_M_up 141 = .ok (.getfield 60, 3) := by decide +kernel
theorem d_M_up_144 : decode b_M_up 144 = .ok (.iload 4, 2) := by decide +kernel
theorem d_M_up_146 : decode b_M_up 146 = .ok (.iaload, 1) := by decide +kernel
theorem d_M_up_147 : decode b_M_up 147 = .ok (.invokevirtual 165, 3) := by decide +kernel
theorem d_M_up_150 : decode b_M_up 150 = .ok (.goto 29, 3) := by decide +kernel
theorem d_M_up_153 : decode b_M_up 153 = .ok (.aload_n 0, 1) := by decide +kernel
theorem d_M_up_154 : decode b_M_up 154 = .ok (.iload_n 2, 1) := by decide +kernel
theorem d_M_up_155 : decode b_M_up 155 = .ok (.aload_n 0, 1) := by decide +kernel
theorem d_M_up_156 : decode b_M_up 156 = .ok (.getfield 54, 3) := by decide +kernel
theorem d_M_up_159 : decode b_M_up 159 = .ok (.iload 4, 2) := by decide +kernel
theorem d_M_up_161 : decode b_M_up 161 = .ok (.iaload, 1) := by decide +kernel
theorem d_M_up_162 : decode b_M_up 162 = .ok (.aload_n 0, 1) := by decide +kernel
theorem d_M_up_163 : decode b_M_up 163 = .ok (.getfield 57, 3) := by decide +kernel
theorem d_M_up_166 : decode b_M_up 166 = .ok (.iload 4, 2) := by decide +kernel
theorem d_M_up_168 : decode b_M_up 168 = .ok (.iaload, 1) := by decide +kernel
theorem d_M_up_169 : decode b_M_up 169 = .ok (.aload_n 0, 1) := by decide +kernel
theorem d_M_up_170 : decode b_M_up 170 = .ok (.getfield 60, 3) := by decide +kernel
theorem d_M_up_173 : decode b_M_up 173 = .ok (.iload 4, 2) := by decide +kernel
theorem d_M_up_175 : decode b_M_up 175 = .ok (.iaload, 1) := by decide +kernel
theorem d_M_up_176 : decode b_M_up 176 = .ok (.invokevirtual 139, 3) := by decide +kernel
theorem d_M_up_179 : decode b_M_up 179 = .ok (.iload 5, 2) := by decide +kernel
theorem d_M_up_181 : decode b_M_up 181 = .ok (.ifCond .eq 65, 3) := by decide +kernel
theorem d_M_up_184 : decode b_M_up 184 = .ok (.aload_n 0, 1) := by decide +kernel
theorem d_M_up_185 : decode b_M_up 185 = .ok (.getfield 30, 3) := by decide +kernel
theorem d_M_up_188 : decode b_M_up 188 = .ok (.iload_n 3, 1) := by decide +kernel
theorem d_M_up_189 : decode b_M_up 189 = .ok (.laload, 1) := by decide +kernel
theorem d_M_up_190 : decode b_M_up 190 = .ok (.aload_n 0, 1) := by decide +kernel
theorem d_M_up_191 : decode b_M_up 191 = .ok (.getfield 147, 3) := by decide +kernel
theorem d_M_up_194 : decode b_M_up 194 = .ok (.invokestatic 150, 3) := by decide +kernel
theorem d_M_up_197 : decode b_M_up 197 = .ok (.ifCond .eq 49, 3) := by decide +kernel
theorem d_M_up_200 : decode b_M_up 200 = .ok (.aload_n 0, 1) := by decide +kernel
theorem d_M_up_201 : decode b_M_up 201 = .ok (.iload_n 1, 1) := by decide +kernel
theorem d_M_up_202 : decode b_M_up 202 = .ok (.invokevirtual 169, 3) := by decide +kernel
theorem d_M_up_205 : decode b_M_up 205 = .ok (.aload_n 0, 1) := by decide +kernel
theorem d_M_up_206 : decode b_M_up 206 = .ok (.getfield 63, 3) := by decide +kernel
theorem d_M_up_209 : decode b_M_up 209 = .ok (.iload_n 1, 1) := by decide +kernel
theorem d_M_up_210 : decode b_M_up 210 = .ok (.iconst 0, 1) := by decide +kernel
theorem d_M_up_211 : decode b_M_up 211 = .ok (.iastore, 1) := by decide +kernel
theorem d_M_up_212 : decode b_M_up 212 = .ok (.aload_n 0, 1) := by decide +kernel
theorem d_M_up_213 : decode b_M_up 213 = .ok (.getfield 19, 3) := by decide +kernel
theorem d_M_up_216 : decode b_M_up 216 = .ok (.iload_n 1, 1) := by decide +kernel
theorem d_M_up_217 : decode b_M_up 217 = .ok (.aload_n 0, 1) := by decide +kernel
theorem d_M_up_218 : decode b_M_up 218 = .ok (.getfield 36, 3) := by decide +kernel
theorem d_M_up_221 : decode b_M_up 221 = .ok (.iconst 2, 1) := by decide +kernel
theorem d_M_up_222 : decode b_M_up 222 = .ok (.iload_n 1, 1) := by decide +kernel
theorem d_M_up_223 : decode b_M_up 223 = .ok (.imul, 1) := by decide +kernel
theorem d_M_up_224 : decode b_M_up 224 = .ok (.iaload, 1) := by decide +kernel
theorem d_M_up_225 : decode b_M_up 225 = .ok (.iload_n 2, 1) := by decide +kernel
theorem d_M_up_226 : decode b_M_up 226 = .ok (.if_icmp .ne 12, 3) := by decide +kernel
theorem d_M_up_229 : decode b_M_up 229 = .ok (.aload_n 0, 1) := by decide +kernel
theorem d_M_up_230 : decode b_M_up 230 = .ok (.getfield 19, 3) := by decide +kernel
theorem d_M_up_233 : decode b_M_up 233 = .ok (.iload_n 2, 1) := by decide +kernel
theorem d_M_up_234 : decode b_M_up 234 = .ok (.iaload, 1) := by decide +kernel
theorem d_M_up_235 : decode b_M_up 235 = .ok (.goto 9, 3) := by decide +kernel
theorem d_M_up_238 : decode b_M_up 238 = .ok (.aload_n 0, 1) := by decide +kernel
theorem d_M_up_239 : decode b_M_up 239 = .ok (.getfield 19, 3) := by decide +kernel
theorem d_M_up_242 : decode b_M_up 242 = .ok (.iload_n 1, 1) := by decide +kernel
theorem d_M_up_243 : decode b_M_up 243 = .ok (.iaload, 1) := by decide +kernel
theorem d_M_up_244 : decode b_M_up 244 = .ok (.iastore, 1) := by decide +kernel
theorem d_M_up_245 : decode b_M_up 245 = .ok (.return_, 1) := by decide +kernel
theorem d_M_up_246 : decode b_M_up 246 = .ok (.aload_n 0, 1) := by decide +kernel
theorem d_M_up_247 : decode b_M_up 247 = .ok (.getfield 63, 3) := by decide +kernel
theorem d_M_up_250 : decode b_M_up 250 = .ok (.iload_n 1, 1) := by decide +kernel
theorem d_M_up_251 : decode b_M_up 251 = .ok (.dup2, 1) := by decide +kernel
theorem d_M_up_252 : decode b_M_up 252 = .ok (.iaload, 1) := by decide +kernel
theorem d_M_up_253 : decode b_M_up 253 = .ok (.iconst 1, 1) := by decide +kernel
theorem d_M_up_254 : decode b_M_up 254 = .ok (.iadd, 1) := by decide +kernel
theorem d_M_up_255 : decode b_M_up 255 = .ok (.iastore, 1) := by decide +kernel
theorem d_M_up_256 : decode b_M_up 256 = .ok (.aload_n 0, 1) := by decide +kernel
theorem d_M_up_257 : decode b_M_up 257 = .ok (.getfield 63, 3) := by decide +kernel
theorem d_M_up_260 : decode b_M_up 260 = .ok (.iload_n 1, 1) := by decide +kernel
theorem d_M_up_261 : decode b_M_up 261 = .ok (.iaload, 1) := by decide +kernel
theorem d_M_up_262 : decode b_M_up 262 = .ok (.iconst 4, 1) := by decide +kernel
theorem d_M_up_263 : decode b_M_up 263 = .ok (.if_icmp .ne 17, 3) := by decide +kernel
theorem d_M_up_266 : decode b_M_up 266 = .ok (.aload_n 0, 1) := by decide +kernel
theorem d_M_up_267 : decode b_M_up 267 = .ok (.getfield 63, 3) := by decide +kernel
theorem d_M_up_270 : decode b_M_up 270 = .ok (.iload_n 1, 1) := by decide +kernel
theorem d_M_up_271 : decode b_M_up 271 = .ok (.iconst 0, 1) := by decide +kernel
theorem d_M_up_272 : decode b_M_up 272 = .ok (.iastore, 1) := by decide +kernel
theorem d_M_up_273 : decode b_M_up 273 = .ok (.aload_n 0, 1) := by decide +kernel
theorem d_M_up_274 : decode b_M_up 274 = .ok (.getfield 16, 3) := by decide +kernel
theorem d_M_up_277 : decode b_M_up 277 = .ok (.iload_n 1, 1) := by decide +kernel
theorem d_M_up_278 : decode b_M_up 278 = .ok (.iconst 0, 1) := by decide +kernel
theorem d_M_up_279 : decode b_M_up 279 = .ok (.bastore, 1) := by decide +kernel
theorem d_M_up_280 : decode b_M_up 280 = .ok (.return_, 1) := by decide +kernel
theorem d_M_below_0 : decode b_M_below 0 = .ok (.iload_n 1, 1) := by decide +kernel
theorem d_M_below_1 : decode b_M_below 1 = .ok (.istore_n 3, 1) := by decide +kernel
theorem d_M_below_2 : decode b_M_below 2 = .ok (.iconst 0, 1) := by decide +kernel
theorem d_M_below_3 : decode b_M_below 3 = .ok (.istore 4, 2) := by decide +kernel
theorem d_M_below_5 : decode b_M_below 5 = .ok (.iload 4, 2) := by decide +kernel
theorem d_M_below_7 : decode b_M_below 7 = .ok (.bipush 6, 2) := by decide +kernel
theorem d_M_below_9 : decode b_M_below 9 = .ok (.if_icmp .ge 27, 3) := by decide +kernel
theorem d_M_below_12 : decode b_M_below 12 = .ok (.iload_n 3, 1) := by decide +kernel
theorem d_M_below_13 : decode b_M_below 13 = .ok (.ifCond .le 23, 3) := by decide +kernel
theorem d_M_below_16 : decode b_M_below 16 = .ok (.iload_n 3, 1) := by decide +kernel
theorem d_M_below_17 : decode b_M_below 17 = .ok (.iload_n 2, 1) := by decide +kernel
theorem d_M_below_18 : decode b_M_below 18 = .ok (.if_icmp .eq 18, 3) := by decide +kernel
theorem d_M_below_21 : decode b_M_below 21 = .ok (.aload_n 0, 1) := by decide +kernel
theorem d_M_below_22 : decode b_M_below 22 = .ok (.getfield 36, 3) := by decide +kernel
theorem d_M_below_25 : decode b_M_below 25 = .ok (.iconst 2, 1) := by decide +kernel
theorem d_M_below_26 : decode b_M_below 26 = .ok (.iload_n 3, 1) := by decide +kernel
theorem d_M_below_27 : decode b_M_below 27 = .ok (.imul, 1) := by decide +kernel
theorem d_M_below_28 : decode b_M_below 28 = .ok (.iaload, 1) := by decide +kernel
theorem d_M_below_29 : decode b_M_below 29 = .ok (.istore_n 3, 1) := by decide +kernel
theorem d_M_below_30 : decode b_M_below 30 = .ok (.iinc 4 1, 3) := by decide +kernel
theorem d_M_below_33 : decode b_M_below 33 = .ok (.goto (-28), 3) := by decide +kernel
theorem d_M_below_36 : decode b_M_below 36 = .ok (.iload_n 3, 1) := by decide +kernel
theorem d_M_below_37 : decode b_M_below 37 = .ok (.iload_n 2, 1) := by decide +kernel
theorem d_M_below_38 : decode b_M_below 38 = .ok (.if_icmp .ne 7, 3) := by decide +kernel
theorem d_M_below_41 : decode b_M_below 41 = .ok (.iconst 1, 1) := by decide +kernel
theorem d_M_below_42 : decode b_M_below 42 = .ok (.goto 4, 3) := by decide +kernel
theorem d_M_below_45 : decode b_M_below 45 = .ok (.iconst 0, 1) := by decide +kernel
theorem d_M_below_46 : decode b_M_below 46 = .ok (.ireturn, 1) := by decide +kernel
theorem d_M_down_0 : decode b_M_down 0 = .ok (.bipush 6, 2) := by decide +kernel
theorem d_M_down_2 : decode b_M_down 2 = .ok (.iload_n 1, 1) := by decide +kernel
theorem d_M_down_3 : decode b_M_down 3 = .ok (.iadd, 1) := by decide +kernel
theorem d_M_down_4 : decode b_M_down 4 = .ok (.istore 4, 2) := by decide +kernel
theorem d_M_down_6 : decode b_M_down 6 = .ok (.iconst 4, 1) := by decide +kernel
theorem d_M_down_7 : decode b_M_down 7 = .ok (.iload 4, 2) := by decide +kernel
theorem d_M_down_9 : decode b_M_down 9 = .ok (.imul, 1) := by decide +kernel
theorem d_M_down_10 : decode b_M_down 10 = .ok (.istore 5, 2) := by decide +kernel
theorem d_M_down_12 : decode b_M_down 12 = .ok (.aload_n 0, 1) := by decide +kernel
theorem d_M_down_13 : decode b_M_down 13 = .ok (.getfield 16, 3) := by decide +kernel
theorem d_M_down_16 : decode b_M_down 16 = .ok (.iload_n 1, 1) := by decide +kernel
theorem d_M_down_17 : decode b_M_down 17 = .ok (.baload, 1) := by decide +kernel
theorem d_M_down_18 : decode b_M_down 18 = .ok (.ifCond .eq 28, 3) := by decide +kernel
theorem d_M_down_21 : decode b_M_down 21 = .ok (.aload_n 0, 1) := by decide +kernel
theorem d_M_down_22 : decode b_M_down 22 = .ok (.getfield 51, 3) := by decide +kernel
theorem d_M_down_25 : decode b_M_down 25 = .ok (.iload 4, 2) := by decide +kernel
theorem d_M_down_27 : decode b_M_down 27 = .ok (.iaload, 1) := by decide +kernel
theorem d_M_down_28 : decode b_M_down 28 = .ok (.ifCond .eq 18, 3) := by decide +kernel
theorem d_M_down_31 : decode b_M_down 31 = .ok (.aload_n 0, 1) := by decide +kernel
theorem d_M_down_32 : decode b_M_down 32 = .ok (.aload_n 0, 1) := by decide +kernel
theorem d_M_down_33 : decode b_M_down 33 = .ok (.getfield 54, 3) := by decide +kernel
theorem d_M_down_36 : decode b_M_down 36 = .ok (.iload 5, 2) := by decide +kernel
theorem d_M_down_38 : decode b_M_down 38 = .ok (.iaload, 1) := by decide +kernel
theorem d_M_down_39 : decode b_M_down 39 = .ok (.iload_n 2, 1) := by decide +kernel
theorem d_M_down_40 : decode b_M_down 40 = .ok (.invokevirtual 173, 3) := by decide +kernel
theorem d_M_down_43 : decode b_M_down 43 = .ok (.ifCond .ne 4, 3) := by decide +kernel
theorem d_M_down_46 : decode b_M_down 46 = .ok (.return_, 1) := by decide +kernel
theorem d_M_down_47 : decode b_M_down 47 = .ok (.aload_n 0, 1) := by decide +kernel
theorem d_M_down_48 : decode b_M_down 48 = .ok (.dup, 1) := by decide +kernel
theorem d_M_down_49 : decode b_M_down 49 = .ok (.getfield 158, 3) := by decide +kernel
theorem d_M_down_52 : decode b_M_down 52 = .ok (.iconst 1, 1) := by decide +kernel
theorem d_M_down_53 : decode b_M_down 53 = .ok (.iadd, 1) := by decide +kernel
theorem d_M_down_54 : decode b_M_down 54 = .ok (.putfield 158, 3) := by decide +kernel
theorem d_M_down_57 : decode b_M_down 57 = .ok (.iconst 0, 1) := by decide +kernel
theorem d_M_down_58 : decode b_M_down 58 = .ok (.istore 6, 2) := by decide +kernel
theorem d_M_down_60 : decode b_M_down 60 = .ok (.aload_n 0, 1) := by decide +kernel
theorem d_M_down_61 : decode b_M_down 61 = .ok (.iload_n 1, 1) := by decide +kernel
theorem d_M_down_62 : decode b_M_down 62 = .ok (.iload_n 2, 1) := by decide +kernel
theorem d_M_down_63 : decode b_M_down 63 = .ok (.iload_n 3, 1) := by decide +kernel
theorem d_M_down_64 : decode b_M_down 64 = .ok (.invokevirtual 161, 3) := by decide +kernel
theorem d_M_down_67 : decode b_M_down 67 = .ok (.ifCond .eq 158, 3) := by decide +kernel
theorem d_M_down_70 : decode b_M_down 70 = .ok (.bipush 36, 2) := by decide +kernel
theorem d_M_down_72 : decode b_M_down 72 = .ok (.bipush 6, 2) := by decide +kernel
theorem d_M_down_74 : decode b_M_down 74 = .ok (.iload_n 2, 1) := by decide +kernel
theorem d_M_down_75 : decode b_M_down 75 = .ok (.imul, 1) := by decide +kernel
theorem d_M_down_76 : decode b_M_down 76 = .ok (.iadd, 1) := by decide +kernel
theorem d_M_down_77 : decode b_M_down 77 = .ok (.aload_n 0, 1) := by decide +kernel
theorem d_M_down_78 : decode b_M_down 78 = .ok (.getfield 54, 3) := by decide +kernel
theorem d_M_down_81 : decode b_M_down 81 = .ok (.iload 5, 2) := by decide +kernel
theorem d_M_down_83 : decode b_M_down 83 = .ok (.iaload, 1) := by decide +kernel
theorem d_M_down_84 : decode b_M_down 84 = .ok (.iadd, 1) := by decide +kernel
theorem d_M_down_85 : decode b_M_down 85 = .ok (.istore 7, 2) := by decide +kernel
theorem d_M_down_87 : decode b_M_down 87 = .ok (.aload_n 0, 1) := by decide +kernel
theorem d_M_down_88 : decode b_M_down 88 = .ok (.getfield 19, 3) := by decide +kernel
theorem d_M_down_91 : decode b_M_down 91 = .ok (.iload_n 2, 1) := by decide +kernel
theorem d_M_down_92 : decode b_M_down 92 = .ok (.aload_n 0, 1) := by decide +kernel
theorem d_M_down_93 : decode b_M_down 93 = .ok (.getfield 19, 3) := by decide +kernel
theorem d_M_down_96 : decode b_M_down 96 = .ok (.iload_n 1, 1) := by decide +kernel
theorem d_M_down_97 : decode b_M_down 97 = .ok (.iaload, 1) := by decide +kernel
theorem d_M_down_98 : decode b_M_down 98 = .ok (.iastore, 1) := by decide +kernel
theorem d_M_down_99 : decode b_M_down 99 = .ok (.aload_n 0, 1) := by decide +kernel
theorem d_M_down_100 : decode b_M_down 100 = .ok (.getfield 57, 3) := by decide +kernel
theorem d_M_down_103 : decode b_M_down 103 = .ok (.iload 5, 2) := by decide +kernel
theorem d_M_down_105 : decode b_M_down 105 = .ok (.iaload, 1) := by decide +kernel
theorem d_M_down_106 : decode b_M_down 106 = .ok (.aload_n 0, 1) := by decide +kernel
theorem d_M_down_107 : decode b_M_down 107 = .ok (.getfield 69, 3) := by decide +kernel
theorem d_M_down_110 : decode b_M_down 110 = .ok (.iload 7, 2) := by decide +kernel
theorem d_M_down_112 : decode b_M_down 112 = .ok (.iaload, 1) := by decide +kernel
theorem d_M_down_113 : decode b_M_down 113 = .ok (.if_icmp .gt 7, 3) := by decide +kernel
theorem d_M_down_116 : decode b_M_down 116 = .ok (.iconst 1, 1) := by decide +kernel
theorem d_M_down_117 : decode b_M_down 117 = .ok (.goto 4, 3) := by decide +kernel
theorem d_M_down_120 : decode b_M_down 120 = .ok (.iconst 0, 1) := by decide +kernel
theorem d_M_down_121 : decode b_M_down 121 = .ok (.istore 6, 2) := by decide +kernel
theorem d_M_down_123 : decode b_M_down 123 = .ok (.iload 6, 2) := by decide +kernel
theorem d_M_down_125 : decode b_M_down 125 = .ok (.ifCond .ne 100, 3) := by decide +kernel
theorem d_M_down_128 : decode b_M_down 128 = .ok (.aload_n 0, 1) := by decide +kernel
theorem d_M_down_129 : decode b_M_down 129 = .ok (.getfield 54, 3) := by decide +kernel
theorem d_M_down_132 : decode b_M_down 132 = .ok (.iload 5, 2) := by decide +kernel
theorem d_M_down_134 : decode b_M_down 134 = .ok (.iaload, 1) := by decide +kernel
theorem d_M_down_135 : decode b_M_down 135 = .ok (.iload_n 2, 1) := by decide +kernel
theorem d_M_down_136 : decode b_M_down 136 = .ok (.if_icmp .eq 16, 3) := by decide +kernel
theorem d_M_down_139 : decode b_M_down 139 = .ok (.aload_n 0, 1) := by decide +kernel
theorem d_M_down_140 : decode b_M_down 140 = .ok (.getfield 51, 3) := by decide +kernel
theorem d_M_down_143 : decode b_M_down 143 = .ok (.bipush 6, 2) := by decide +kernel
theorem d_M_down_145 : decode b_M_down 145 = .ok (.iload_n 2, 1) := by decide +kernel
theorem d_M_down_146 : decode b_M_down 146 = .ok (.iadd, 1) := by decide +kernel
theorem d_M_down_147 : decode b_M_down 147 = .ok (.iaload, 1) := by decide +kernel
theorem d_M_down_148 : decode b_M_down 148 = .ok (.iconst 4, 1) := by decide +kernel
theorem d_M_down_149 : decode b_M_down 149 = .ok (.if_icmp .ge 76, 3) := by decide +kernel
theorem d_M_down_152 : decode b_M_down 152 = .ok (.iconst 1, 1) := by decide +kernel
theorem d_M_down_153 : decode b_M_down 153 = .ok (.istore 6, 2) := by decide +kernel
theorem d_M_down_155 : decode b_M_down 155 = .ok (.aload_n 0, 1) := by decide +kernel
theorem d_M_down_156 : decode b_M_down 156 = .ok (.getfield 69, 3) := by decide +kernel
theorem d_M_down_159 : decode b_M_down 159 = .ok (.iload 7, 2) := by decide +kernel
theorem d_M_down_161 : decode b_M_down 161 = .ok (.aload_n 0, 1) := by decide +kernel
theorem d_M_down_162 : decode b_M_down 162 = .ok (.getfield 57, 3) := by decide +kernel
theorem d_M_down_165 : decode b_M_down 165 = .ok (.iload 5, 2) := by decide +kernel
theorem d_M_down_167 : decode b_M_down 167 = .ok (.iaload, 1) := by decide +kernel
theorem d_M_down_168 : decode b_M_down 168 = .ok (.iastore, 1) := by decide +kernel
theorem d_M_down_169 : decode b_M_down 169 = .ok (.aload_n 0, 1) := by decide +kernel
theorem d_M_down_170 : decode b_M_down 170 = .ok (.getfield 54, 3) := by decide +kernel
theorem d_M_down_173 : decode b_M_down 173 = .ok (.iload 5, 2) := by decide +kernel
theorem d_M_down_175 : decode b_M_down 175 = .ok (.iaload, 1) := by decide +kernel
theorem d_M_down_176 : decode b_M_down 176 = .ok (.iload_n 2, 1) := by decide +kernel
theorem d_M_down_177 : decode b_M_down 177 = .ok (.if_icmp .ne 19, 3) := by decide +kernel
theorem d_M_down_180 : decode b_M_down 180 = .ok (.aload_n 0, 1) := by decide +kernel
theorem d_M_down_181 : decode b_M_down 181 = .ok (.getfield 93, 3) := by decide +kernel
theorem d_M_down_184 : decode b_M_down 184 = .ok (.iload_n 2, 1) := by decide +kernel
theorem d_M_down_185 : decode b_M_down 185 = .ok (.aload_n 0, 1) := by decide +kernel
theorem d_M_down_186 : decode b_M_down 186 = .ok (.getfield 60, 3) := by decide +kernel
theorem d_M_down_189 : decode b_M_down 189 = .ok (.iload 5, 2) := by decide +kernel
theorem d_M_down_191 : decode b_M_down 191 = .ok (.iaload, 1) := by decide +kernel
theorem d_M_down_192 : decode b_M_down 192 = .ok (.iastore, 1) := by decide +kernel
theorem d_M_down_193 : decode b_M_down 193 = .ok (.goto 32, 3) := by decide +kernel
theorem d_M_down_196 : decode b_M_down 196 = .ok (.aload_n 0, 1) := by decide +kernel
theorem d_M_down_197 : decode b_M_down 197 = .ok (.bipush 6, 2) := by decide +kernel
theorem d_M_down_199 : decode b_M_down 199 = .ok (.iload_n 2, 1) := by decide +kernel
theorem d_M_down_200 : decode b_M_down 200 = .ok (.iadd, 1) := by decide +kernel
theorem d_M_down_201 : decode b_M_down 201 = .ok (.aload_n 0, 1) := by decide +kernel
theorem d_M_down_202 : decode b_M_down 202 = .ok (.getfield 54, 3) := by decide +kernel
theorem d_M_down_205 : decode b_M_down 205 = .ok (.iload 5, 2) := by decide +kernel
theorem d_M_down_207 : decode b_M_down 207 = .ok (.iaload, 1) := by decide +kernel
theorem d_M_down_208 : decode b_M_down 208 = .ok (.aload_n 0, 1) := by decide +kernel
theorem d_M_down_209 : decode b_M_down 209 = .ok (.getfield 57, 3) := by decide +kernel
theorem d_M_down_212 : decode b_M_down 212 = .ok (.iload 5, 2) := by decide +kernel
theorem d_M_down_214 : decode b_M_down 214 = .ok (.iaload, 1) := by decide +kernel
theorem d_M_down_215 : decode b_M_down 215 = .ok (.aload_n 0, 1) := by decide +kernel
theorem d_M_down_216 : decode b_M_down 216 = .ok (.getfield 60, 3) := by decide +kernel
theorem d_M_down_219 : decode b_M_down 219 = .ok (.iload 5, 2) := by decide +kernel
theorem d_M_down_221 : decode b_M_down 221 = .ok (.iaload, 1) := by decide +kernel
theorem d_M_down_222 : decode b_M_down 222 = .ok (.invokevirtual 139, 3) := by decide +kernel
theorem d_M_down_225 : decode b_M_down 225 = .ok (.iload 6, 2) := by decide +kernel
theorem d_M_down_227 : decode b_M_down 227 = .ok (.ifCond .eq 33, 3) := by decide +kernel
theorem d_M_down_230 : decode b_M_down 230 = .ok (.aload_n 0, 1) := by decide +kernel
theorem d_M_down_231 : decode b_M_down 231 = .ok (.getfield 30, 3) := by decide +kernel
theorem d_M_down_234 : decode b_M_down 234 = .ok (.iload_n 3, 1) := by decide +kernel
theorem d_M_down_235 : decode b_M_down 235 = .ok (.laload, 1) := by decide +kernel
theorem d_M_down_236 : decode b_M_down 236 = .ok (.aload_n 0, 1) := by decide +kernel
theorem d_M_down_237 : decode b_M_down 237 = .ok (.getfield 147, 3) := by decide +kernel
theorem d_M_down_240 : decode b_M_down 240 = .ok (.invokestatic 150, 3) := by decide +kernel
theorem d_M_down_243 : decode b_M_down 243 = .ok (.ifCond .eq 17, 3) := by decide +kernel
theorem d_M_down_246 : decode b_M_down 246 = .ok (.aload_n 0, 1) := by decide +kernel
theorem d_M_down_247 : decode b_M_down 247 = .ok (.iload 4, 2) := by decide +kernel
theorem d_M_down_249 : decode b_M_down 249 = .ok (.invokevirtual 169, 3) := by decide +kernel
theorem d_M_down_252 : decode b_M_down 252 = .ok (.aload_n 0, 1) := by decide +kernel
theorem d_M_down_253 : decode b_M_down 253 = .ok (.getfield 66, 3) := by decide +kernel
theorem d_M_down_256 : decode b_M_down 256 = .ok (.iload_n 1, 1) := by decide +kernel
theorem d_M_down_257 : decode b_M_down 257 = .ok (.iconst 0, 1) := by decide +kernel
theorem d_M_down_258 : decode b_M_down 258 = .ok (.iastore, 1) := by decide +kernel
theorem d_M_down_259 : decode b_M_down 259 = .ok (.return_, 1) := by decide +kernel
theorem d_M_down_260 : decode b_M_down 260 = .ok (.aload_n 0, 1) := by decide +kernel
theorem d_M_down_261 : decode b_M_down 261 = .ok (.getfield 66, 3) := by decide +kernel
theorem d_M_down_264 : decode b_M_down 264 = .ok (.iload_n 1, 1) := by decide +kernel
theorem d_M_down_265 : decode b_M_down 265 = .ok (.dup2, 1) := by decide +kernel
theorem d_M_down_266 : decode b_M_down 266 = .ok (.iaload, 1) := by decide +kernel
theorem d_M_down_267 : decode b_M_down 267 = .ok (.iconst 1, 1) := by decide +kernel
theorem d_M_down_268 : decode b_M_down 268 = .ok (.iadd, 1) := by decide +kernel
theorem d_M_down_269 : decode b_M_down 269 = .ok (.iastore, 1) := by decide +kernel
theorem d_M_down_270 : decode b_M_down 270 = .ok (.aload_n 0, 1) := by decide +kernel
theorem d_M_down_271 : decode b_M_down 271 = .ok (.getfield 66, 3) := by decide +kernel
theorem d_M_down_274 : decode b_M_down 274 = .ok (.iload_n 1, 1) := by decide +kernel
theorem d_M_down_275 : decode b_M_down 275 = .ok (.iaload, 1) := by decide +kernel
theorem d_M_down_276 : decode b_M_down 276 = .ok (.bipush 6, 2) := by decide +kernel
theorem d_M_down_278 : decode b_M_down 278 = .ok (.if_icmp .ne 16, 3) := by decide +kernel
theorem d_M_down_281 : decode b_M_down 281 = .ok (.aload_n 0, 1) := by decide +kernel
theorem d_M_down_282 : decode b_M_down 282 = .ok (.iload 4, 2) := by decide +kernel
theorem d_M_down_284 : decode b_M_down 284 = .ok (.invokevirtual 169, 3) := by decide +kernel
theorem d_M_down_287 : decode b_M_down 287 = .ok (.aload_n 0, 1) := by decide +kernel
theorem d_M_down_288 : decode b_M_down 288 = .ok (.getfield 66, 3) := by decide +kernel
theorem d_M_down_291 : decode b_M_down 291 = .ok (.iload_n 1, 1) := by decide +kernel
theorem d_M_down_292 : decode b_M_down 292 = .ok (.iconst 0, 1) := by decide +kernel
theorem d_M_down_293 : decode b_M_down 293 = .ok (.iastore, 1) := by decide +kernel
theorem d_M_down_294 : decode b_M_down 294 = .ok (.return_, 1) := by decide +kernel
theorem d_M_slot_0 : decode b_M_slot 0 = .ok (.iconst 1, 1) := by decide +kernel
theorem d_M_slot_1 : decode b_M_slot 1 = .ok (.istore_n 1, 1) := by decide +kernel
theorem d_M_slot_2 : decode b_M_slot 2 = .ok (.iload_n 1, 1) := by decide +kernel
theorem d_M_slot_3 : decode b_M_slot 3 = .ok (.aload_n 0, 1) := by decide +kernel
theorem d_M_slot_4 : decode b_M_slot 4 = .ok (.getfield 96, 3) := by decide +kernel
theorem d_M_slot_7 : decode b_M_slot 7 = .ok (.if_icmp .ge 37, 3) := by decide +kernel
theorem d_M_slot_10 : decode b_M_slot 10 = .ok (.aload_n 0, 1) := by decide +kernel
theorem d_M_slot_11 : decode b_M_slot 11 = .ok (.getfield 19, 3) := by decide +kernel
theorem d_M_slot_14 : decode b_M_slot 14 = .ok (.iload_n 1, 1) := by decide +kernel
theorem d_M_slot_15 : decode b_M_slot 15 = .ok (.dup2, 1) := by decide +kernel
theorem d_M_slot_16 : decode b_M_slot 16 = .ok (.iaload, 1) := by decide +kernel
theorem d_M_slot_17 : decode b_M_slot 17 = .ok (.aload_n 0, 1) := by decide +kernel
theorem d_M_slot_18 : decode b_M_slot 18 = .ok (.getfield 13, 3) := by decide +kernel
theorem d_M_slot_21 : decode b_M_slot 21 = .ok (.iload_n 1, 1) := by decide +kernel
theorem d_M_slot_22 : decode b_M_slot 22 = .ok (.baload, 1) := by decide +kernel
theorem d_M_slot_23 : decode b_M_slot 23 = .ok (.ifCond .eq 12, 3) := by decide +kernel
theorem d_M_slot_26 : decode b_M_slot 26 = .ok (.aload_n 0, 1) := by decide +kernel
theorem d_M_slot_27 : decode b_M_slot 27 = .ok (.getfield 23, 3) := by decide +kernel
theorem d_M_slot_30 : decode b_M_slot 30 = .ok (.iload_n 1, 1) := by decide +kernel
theorem d_M_slot_31 : decode b_M_slot 31 = .ok (.iaload, 1) := by decide +kernel
theorem d_M_slot_32 : decode b_M_slot 32 = .ok (.goto 4, 3) := by decide +kernel
theorem d_M_slot_35 : decode b_M_slot 35 = .ok (.iconst 0, 1) := by decide +kernel
theorem d_M_slot_36 : decode b_M_slot 36 = .ok (.iadd, 1) := by decide +kernel
theorem d_M_slot_37 : decode b_M_slot 37 = .ok (.iastore, 1) := by decide +kernel
theorem d_M_slot_38 : decode b_M_slot 38 = .ok (.iinc 1 1, 3) := by decide +kernel
theorem d_M_slot_41 : decode b_M_slot 41 = .ok (.goto (-39), 3) := by decide +kernel
theorem d_M_slot_44 : decode b_M_slot 44 = .ok (.aload_n 0, 1) := by decide +kernel
theorem d_M_slot_45 : decode b_M_slot 45 = .ok (.getfield 147, 3) := by decide +kernel
theorem d_M_slot_48 : decode b_M_slot 48 = .ok (.aload_n 0, 1) := by decide +kernel
theorem d_M_slot_49 : decode b_M_slot 49 = .ok (.getfield 100, 3) := by decide +kernel
theorem d_M_slot_52 : decode b_M_slot 52 = .ok (.irem, 1) := by decide +kernel
theorem d_M_slot_53 : decode b_M_slot 53 = .ok (.istore_n 1, 1) := by decide +kernel
theorem d_M_slot_54 : decode b_M_slot 54 = .ok (.aload_n 0, 1) := by decide +kernel
theorem d_M_slot_55 : decode b_M_slot 55 = .ok (.getfield 135, 3) := by decide +kernel
theorem d_M_slot_58 : decode b_M_slot 58 = .ok (.ifCond .eq 14, 3) := by decide +kernel
theorem d_M_slot_61 : decode b_M_slot 61 = .ok (.aload_n 0, 1) := by decide +kernel
theorem d_M_slot_62 : decode b_M_slot 62 = .ok (.getfield 39, 3) := by decide +kernel
theorem d_M_slot_65 : decode b_M_slot 65 = .ok (.iconst 4, 1) := by decide +kernel
theorem d_M_slot_66 : decode b_M_slot 66 = .ok (.iload_n 1, 1) := by decide +kernel
theorem d_M_slot_67 : decode b_M_slot 67 = .ok (.imul, 1) := by decide +kernel
theorem d_M_slot_68 : decode b_M_slot 68 = .ok (.iaload, 1) := by decide +kernel
theorem d_M_slot_69 : decode b_M_slot 69 = .ok (.goto 4, 3) := by decide +kernel
theorem d_M_slot_72 : decode b_M_slot 72 = .ok (.iconst 0, 1) := by decide +kernel
theorem d_M_slot_73 : decode b_M_slot 73 = .ok (.istore_n 2, 1) := by decide +kernel
theorem d_M_slot_74 : decode b_M_slot 74 = .ok (.iload_n 2, 1) := by decide +kernel
theorem d_M_slot_75 : decode b_M_slot 75 = .ok (.bipush 100, 2) := by decide +kernel
theorem d_M_slot_77 : decode b_M_slot 77 = .ok (.if_icmp .lt 18, 3) := by decide +kernel
theorem d_M_slot_80 : decode b_M_slot 80 = .ok (.iload_n 2, 1) := by decide +kernel
theorem d_M_slot_81 : decode b_M_slot 81 = .ok (.sipush 200, 3) := by decide +kernel
theorem d_M_slot_84 : decode b_M_slot 84 = .ok (.if_icmp .ge 11, 3) := by decide +kernel
theorem d_M_slot_87 : decode b_M_slot 87 = .ok (.aload_n 0, 1) := by decide +kernel
theorem d_M_slot_88 : decode b_M_slot 88 = .ok (.iload_n 2, 1) := by decide +kernel
theorem d_M_slot_89 : decode b_M_slot 89 = .ok (.invokestatic 112, 3) := by decide +kernel
theorem d_M_slot_92 : decode b_M_slot 92 = .ok (.invokevirtual 176, 3) := by decide +kernel
theorem d_M_slot_95 : decode b_M_slot 95 = .ok (.iconst 0, 1) := by decide +kernel
theorem d_M_slot_96 : decode b_M_slot 96 = .ok (.istore_n 3, 1) := by decide +kernel
theorem d_M_slot_97 : decode b_M_slot 97 = .ok (.iload_n 3, 1) := by decide +kernel
theorem d_M_slot_98 : decode b_M_slot 98 = .ok (.aload_n 0, 1) := by decide +kernel
theorem d_M_slot_99 : decode b_M_slot 99 = .ok (.getfield 103, 3) := by decide +kernel
theorem d_M_slot_102 : decode b_M_slot 102 = .ok (.if_icmp .ge 105, 3) := by decide +kernel
theorem d_M_slot_105 : decode b_M_slot 105 = .ok (.aload_n 0, 1) := by decide +kernel
theorem d_M_slot_106 : decode b_M_slot 106 = .ok (.getfield 135, 3) := by decide +kernel
theorem d_M_slot_109 : decode b_M_slot 109 = .ok (.ifCond .eq 98, 3) := by decide +kernel
theorem d_M_slot_112 : decode b_M_slot 112 = .ok (.iload_n 2, 1) := by decide +kernel
theorem d_M_slot_113 : decode b_M_slot 113 = .ok (.bipush 100, 2) := by decide +kernel
theorem d_M_slot_115 : decode b_M_slot 115 = .ok (.if_icmp .lt 10, 3) := by decide +kernel
theorem d_M_slot_118 : decode b_M_slot 118 = .ok (.iload_n 2, 1) := by decide +kernel
theorem d_M_slot_119 : decode b_M_slot 119 = .ok (.sipush 200, 3) := by decide +kernel
theorem d_M_slot_122 : decode b_M_slot 122 = .ok (.if_icmp .lt 85, 3) := by decide +kernel
theorem d_M_slot_125 : decode b_M_slot 125 = .ok (.aload_n 0, 1) := by decide +kernel
theorem d_M_slot_126 : decode b_M_slot 126 = .ok (.getfield 39, 3) := by decide +kernel
theorem d_M_slot_129 : decode b_M_slot 129 = .ok (.iconst 4, 1) := by decide +kernel
theorem d_M_slot_130 : decode b_M_slot 130 = .ok (.iload_n 1, 1) := by decide +kernel
theorem d_M_slot_131 : decode b_M_slot 131 = .ok (.imul, 1) := by decide +kernel
theorem d_M_slot_132 : decode b_M_slot 132 = .ok (.iload_n 3, 1) := by decide +kernel
theorem d_M_slot_133 : decode b_M_slot 133 = .ok (.iadd, 1) := by decide +kernel
theorem d_M_slot_134 : decode b_M_slot 134 = .ok (.iaload, 1) := by decide +kernel
theorem d_M_slot_135 : decode b_M_slot 135 = .ok (.istore 4, 2) := by decide +kernel
theorem d_M_slot_137 : decode b_M_slot 137 = .ok (.iload_n 3, 1) := by decide +kernel
theorem d_M_slot_138 : decode b_M_slot 138 = .ok (.aload_n 0, 1) := by decide +kernel
theorem d_M_slot_139 : decode b_M_slot 139 = .ok (.getfield 147, 3) := by decide +kernel
theorem d_M_slot_142 : decode b_M_slot 142 = .ok (.iadd, 1) := by decide +kernel
theorem d_M_slot_143 : decode b_M_slot 143 = .ok (.aload_n 0, 1) := by decide +kernel
theorem d_M_slot_144 : decode b_M_slot 144 = .ok (.getfield 103, 3) := by decide +kernel
theorem d_M_slot_147 : decode b_M_slot 147 = .ok (.irem, 1) := by decide +kernel
theorem d_M_slot_148 : decode b_M_slot 148 = .ok (.istore 5, 2) := by decide +kernel
theorem d_M_slot_150 : decode b_M_slot 150 = .ok (.iload 4, 2) := by decide +kernel
theorem d_M_slot_152 : decode b_M_slot 152 = .ok (.sipush 300, 3) := by decide +kernel
theorem d_M_slot_155 : decode b_M_slot 155 = .ok (.if_icmp .lt 22, 3) := by decide +kernel
theorem d_M_slot_158 : decode b_M_slot 158 = .ok (.aload_n 0, 1) := by decide +kernel
theorem d_M_slot_159 : decode b_M_slot 159 = .ok (.iload 4, 2) := by decide +kernel
theorem d_M_slot_161 : decode b_M_slot 161 = .ok (.invokestatic 112, 3) := by decide +kernel
theorem d_M_slot_164 : decode b_M_slot 164 = .ok (.iload 4, 2) := by decide +kernel
theorem d_M_slot_166 : decode b_M_slot 166 = .ok (.invokestatic 116, 3) := by decide +kernel
theorem d_M_slot_169 : decode b_M_slot 169 = .ok (.iload 5, 2) := by decide +kernel
theorem d_M_slot_171 : decode b_M_slot 171 = .ok (.invokevirtual 179, 3) := by decide +kernel
theorem d_M_slot_174 : decode b_M_slot 174 = .ok (.goto 27, 3) := by decide +kernel
theorem d_M_slot_177 : decode b_M_slot 177 = .ok (.iload 4, 2) := by decide +kernel
theorem d_M_slot_179 : decode b_M_slot 179 = .ok (.sipush 200, 3) := by decide +kernel
theorem d_M_slot_182 : decode b_M_slot 182 = .ok (.if_icmp .lt 19, 3) := by decide +kernel
theorem d_M_slot_185 : decode b_M_slot 185 = .ok (.aload_n 0, 1) := by decide +kernel
theorem d_M_slot_186 : decode b_M_slot 186 = .ok (.iload 4, 2) := by decide +kernel
theorem d_M_slot_188 : decode b_M_slot 188 = .ok (.invokestatic 112, 3) := by decide +kernel
theorem d_M_slot_191 : decode b_M_slot 191 = .ok (.iload 4, 2) := by decide +kernel
theorem d_M_slot_193 : decode b_M_slot 193 = .ok (.invokestatic 116, 3) := by decide +kernel
theorem d_M_slot_196 : decode b_M_slot 196 = .ok (.iload 5, 2) := by decide +kernel
theorem d_M_slot_198 : decode b_M_slot 198 = .ok (.invokevirtual 182, 3) := by decide +kernel
theorem d_M_slot_201 : decode b_M_slot 201 = .ok (.iinc 3 1, 3) := by decide +kernel
theorem d_M_slot_204 : decode b_M_slot 204 = .ok (.goto (-107), 3) := by decide +kernel
theorem d_M_slot_207 : decode b_M_slot 207 = .ok (.aload_n 0, 1) := by decide +kernel
theorem d_M_slot_208 : decode b_M_slot 208 = .ok (.dup, 1) := by decide +kernel
theorem d_M_slot_209 : decode b_M_slot 209 = .ok (.getfield 147, 3) := by decide +kernel
theorem d_M_slot_212 : decode b_M_slot 212 = .ok (.iconst 1, 1) := by decide +kernel
theorem d_M_slot_213 : decode b_M_slot 213 = .ok (.iadd, 1) := by decide +kernel
theorem d_M_slot_214 : decode b_M_slot 214 = .ok (.putfield 147, 3) := by decide +kernel
theorem d_M_slot_217 : decode b_M_slot 217 = .ok (.return_, 1) := by decide +kernel
theorem d_M_run_0 : decode b_M_run 0 = .ok (.iload_n 1, 1) := by decide +kernel
theorem d_M_run_1 : decode b_M_run 1 = .ok (.iconst 1, 1) := by decide +kernel
theorem d_M_run_2 : decode b_M_run 2 = .ok (.if_icmp .lt 9, 3) := by decide +kernel
theorem d_M_run_5 : decode b_M_run 5 = .ok (.iload_n 1, 1) := by decide +kernel
theorem d_M_run_6 : decode b_M_run 6 = .ok (.bipush 64, 2) := by decide +kernel
theorem d_M_run_8 : decode b_M_run 8 = .ok (.if_icmp .le 5, 3) := by decide +kernel
theorem d_M_run_11 : decode b_M_run 11 = .ok (.iconst (-1), 1) := by decide +kernel
theorem d_M_run_12 : decode b_M_run 12 = .ok (.ireturn, 1) := by decide +kernel
theorem d_M_run_13 : decode b_M_run 13 = .ok (.iconst 0, 1) := by decide +kernel
theorem d_M_run_14 : decode b_M_run 14 = .ok (.istore_n 2, 1) := by decide +kernel
theorem d_M_run_15 : decode b_M_run 15 = .ok (.iload_n 2, 1) := by decide +kernel
theorem d_M_run_16 : decode b_M_run 16 = .ok (.iload_n 1, 1) := by decide +kernel
theorem d_M_run_17 : decode b_M_run 17 = .ok (.if_icmp .ge 13, 3) := by decide +kernel
theorem d_M_run_20 : decode b_M_run 20 = .ok (.aload_n 0, 1) := by decide +kernel
theorem d_M_run_21 : decode b_M_run 21 = .ok (.invokevirtual 185, 3) := by decide +kernel
theorem d_M_run_24 : decode b_M_run 24 = .ok (.iinc 2 1, 3) := by decide +kernel
theorem d_M_run_27 : decode b_M_run 27 = .ok (.goto (-12), 3) := by decide +kernel
theorem d_M_run_30 : decode b_M_run 30 = .ok (.aload_n 0, 1) := by decide +kernel
theorem d_M_run_31 : decode b_M_run 31 = .ok (.getfield 147, 3) := by decide +kernel
theorem d_M_run_34 : decode b_M_run 34 = .ok (.ireturn, 1) := by decide +kernel
theorem d_M_rank_0 : decode b_M_rank 0 = .ok (.aload_n 0, 1) := by decide +kernel
theorem d_M_rank_1 : decode b_M_rank 1 = .ok (.getfield 135, 3) := by decide +kernel
theorem d_M_rank_4 : decode b_M_rank 4 = .ok (.ifCond .eq 11, 3) := by decide +kernel
theorem d_M_rank_7 : decode b_M_rank 7 = .ok (.aload_n 0, 1) := by decide +kernel
theorem d_M_rank_8 : decode b_M_rank 8 = .ok (.iload_n 1, 1) := by decide +kernel
theorem d_M_rank_9 : decode b_M_rank 9 = .ok (.invokevirtual 108, 3) := by decide +kernel
theorem d_M_rank_12 : decode b_M_rank 12 = .ok (.ifCond .eq 7, 3) := by decide +kernel
theorem d_M_rank_15 : decode b_M_rank 15 = .ok (.iconst (-1), 1) := by decide +kernel
theorem d_M_rank_16 : decode b_M_rank 16 = .ok (.goto 9, 3) := by decide +kernel
theorem d_M_rank_19 : decode b_M_rank 19 = .ok (.aload_n 0, 1) := by decide +kernel
theorem d_M_rank_20 : decode b_M_rank 20 = .ok (.getfield 33, 3) := by decide +kernel
theorem d_M_rank_23 : decode b_M_rank 23 = .ok (.iload_n 1, 1) := by decide +kernel
theorem d_M_rank_24 : decode b_M_rank 24 = .ok (.iaload, 1) := by decide +kernel
theorem d_M_rank_25 : decode b_M_rank 25 = .ok (.ireturn, 1) := by decide +kernel
theorem d_M_parent_0 : decode b_M_parent 0 = .ok (.aload_n 0, 1) := by decide +kernel
theorem d_M_parent_1 : decode b_M_parent 1 = .ok (.getfield 135, 3) := by decide +kernel
theorem d_M_parent_4 : decode b_M_parent 4 = .ok (.ifCond .eq 20, 3) := by decide +kernel
theorem d_M_parent_7 : decode b_M_parent 7 = .ok (.aload_n 0, 1) := by decide +kernel
theorem d_M_parent_8 : decode b_M_parent 8 = .ok (.iload_n 1, 1) := by decide +kernel
theorem d_M_parent_9 : decode b_M_parent 9 = .ok (.invokevirtual 108, 3) := by decide +kernel
theorem d_M_parent_12 : decode b_M_parent 12 = .ok (.ifCond .ne 12, 3) := by decide +kernel
theorem d_M_parent_15 : decode b_M_parent 15 = .ok (.iload_n 2, 1) := by decide +kernel
theorem d_M_parent_16 : decode b_M_parent 16 = .ok (.ifCond .lt 8, 3) := by decide +kernel
theorem d_M_parent_19 : decode b_M_parent 19 = .ok (.iload_n 2, 1) := by decide +kernel
theorem d_M_parent_20 : decode b_M_parent 20 = .ok (.iconst 1, 1) := by decide +kernel
theorem d_M_parent_21 : decode b_M_parent 21 = .ok (.if_icmp .le 7, 3) := by decide +kernel
theorem d_M_parent_24 : decode b_M_parent 24 = .ok (.iconst (-1), 1) := by decide +kernel
theorem d_M_parent_25 : decode b_M_parent 25 = .ok (.goto 13, 3) := by decide +kernel
theorem d_M_parent_28 : decode b_M_parent 28 = .ok (.aload_n 0, 1) := by decide +kernel
theorem d_M_parent_29 : decode b_M_parent 29 = .ok (.getfield 36, 3) := by decide +kernel
theorem d_M_parent_32 : decode b_M_parent 32 = .ok (.iconst 2, 1) := by decide +kernel
theorem d_M_parent_33 : decode b_M_parent 33 = .ok (.iload_n 1, 1) := by decide +kernel
theorem d_M_parent_34 : decode b_M_parent 34 = .ok (.imul, 1) := by decide +kernel
theorem d_M_parent_35 : decode b_M_parent 35 = .ok (.iload_n 2, 1) := by decide +kernel
theorem d_M_parent_36 : decode b_M_parent 36 = .ok (.iadd, 1) := by decide +kernel
theorem d_M_parent_37 : decode b_M_parent 37 = .ok (.iaload, 1) := by decide +kernel
theorem d_M_parent_38 : decode b_M_parent 38 = .ok (.ireturn, 1) := by decide +kernel
theorem d_M_cell_0 : decode b_M_cell 0 = .ok (.iload_n 1, 1) := by decide +kernel
theorem d_M_cell_1 : decode b_M_cell 1 = .ok (.ifCond .lt 23, 3) := by decide +kernel
theorem d_M_cell_4 : decode b_M_cell 4 = .ok (.iload_n 1, 1) := by decide +kernel
theorem d_M_cell_5 : decode b_M_cell 5 = .ok (.aload_n 0, 1) := by decide +kernel
theorem d_M_cell_6 : decode b_M_cell 6 = .ok (.getfield 100, 3) := by decide +kernel
theorem d_M_cell_9 : decode b_M_cell 9 = .ok (.if_icmp .ge 15, 3) := by decide +kernel
theorem d_M_cell_12 : decode b_M_cell 12 = .ok (.iload_n 2, 1) := by decide +kernel
theorem d_M_cell_13 : decode b_M_cell 13 = .ok (.ifCond .lt 11, 3) := by decide +kernel
theorem d_M_cell_16 : decode b_M_cell 16 = .ok (.iload_n 2, 1) := by decide +kernel
theorem d_M_cell_17 : decode b_M_cell 17 = .ok (.aload_n 0, 1) := by decide +kernel
theorem d_M_cell_18 : decode b_M_cell 18 = .ok (.getfield 103, 3) := by decide +kernel
theorem d_M_cell_21 : decode b_M_cell 21 = .ok (.if_icmp .lt 5, 3) := by decide +kernel
theorem d_M_cell_24 : decode b_M_cell 24 = .ok (.iconst (-1), 1) := by decide +kernel
theorem d_M_cell_25 : decode b_M_cell 25 = .ok (.ireturn, 1) := by decide +kernel
theorem d_M_cell_26 : decode b_M_cell 26 = .ok (.aload_n 0, 1) := by decide +kernel
theorem d_M_cell_27 : decode b_M_cell 27 = .ok (.getfield 135, 3) := by decide +kernel
theorem d_M_cell_30 : decode b_M_cell 30 = .ok (.ifCond .eq 16, 3) := by decide +kernel
theorem d_M_cell_33 : decode b_M_cell 33 = .ok (.aload_n 0, 1) := by decide +kernel
theorem d_M_cell_34 : decode b_M_cell 34 = .ok (.getfield 39, 3) := by decide +kernel
theorem d_M_cell_37 : decode b_M_cell 37 = .ok (.iconst 4, 1) := by decide +kernel
theorem d_M_cell_38 : decode b_M_cell 38 = .ok (.iload_n 1, 1) := by decide +kernel
theorem d_M_cell_39 : decode b_M_cell 39 = .ok (.imul, 1) := by decide +kernel
theorem d_M_cell_40 : decode b_M_cell 40 = .ok (.iload_n 2, 1) := by decide +kernel
theorem d_M_cell_41 : decode b_M_cell 41 = .ok (.iadd, 1) := by decide +kernel
theorem d_M_cell_42 : decode b_M_cell 42 = .ok (.iaload, 1) := by decide +kernel
theorem d_M_cell_43 : decode b_M_cell 43 = .ok (.goto 4, 3) := by decide +kernel
theorem d_M_cell_46 : decode b_M_cell 46 = .ok (.iconst 0, 1) := by decide +kernel
theorem d_M_cell_47 : decode b_M_cell 47 = .ok (.ireturn, 1) := by decide +kernel
theorem d_M_current_0 : decode b_M_current 0 = .ok (.aload_n 0, 1) := by decide +kernel
theorem d_M_current_1 : decode b_M_current 1 = .ok (.iload_n 1, 1) := by decide +kernel
theorem d_M_current_2 : decode b_M_current 2 = .ok (.invokevirtual 108, 3) := by decide +kernel
theorem d_M_current_5 : decode b_M_current 5 = .ok (.ifCond .ne 16, 3) := by decide +kernel
theorem d_M_current_8 : decode b_M_current 8 = .ok (.aload_n 0, 1) := by decide +kernel
theorem d_M_current_9 : decode b_M_current 9 = .ok (.getfield 16, 3) := by decide +kernel
theorem d_M_current_12 : decode b_M_current 12 = .ok (.iload_n 1, 1) := by decide +kernel
theorem d_M_current_13 : decode b_M_current 13 = .ok (.baload, 1) := by decide +kernel
theorem d_M_current_14 : decode b_M_current 14 = .ok (.ifCond .eq 7, 3) := by decide +kernel
theorem d_M_current_17 : decode b_M_current 17 = .ok (.iconst 1, 1) := by decide +kernel
theorem d_M_current_18 : decode b_M_current 18 = .ok (.goto 4, 3) := by decide +kernel
theorem d_M_current_21 : decode b_M_current 21 = .ok (.iconst 0, 1) := by decide +kernel
theorem d_M_current_22 : decode b_M_current 22 = .ok (.ireturn, 1) := by decide +kernel
theorem d_M_offset_0 : decode b_M_offset 0 = .ok (.aload_n 0, 1) := by decide +kernel
theorem d_M_offset_1 : decode b_M_offset 1 = .ok (.iload_n 1, 1) := by decide +kernel
theorem d_M_offset_2 : decode b_M_offset 2 = .ok (.invokevirtual 108, 3) := by decide +kernel
theorem d_M_offset_5 : decode b_M_offset 5 = .ok (.ifCond .eq 9, 3) := by decide +kernel
theorem d_M_offset_8 : decode b_M_offset 8 = .ok (.sipush (-9999), 3) := by decide +kernel
theorem d_M_offset_11 : decode b_M_offset 11 = .ok (.goto 9, 3) := by decide +kernel
theorem d_M_offset_14 : decode b_M_offset 14 = .ok (.aload_n 0, 1) := by decide +kernel
theorem d_M_offset_15 : decode b_M_offset 15 = .ok (.getfield 19, 3) := by decide +kernel
theorem d_M_offset_18 : decode b_M_offset 18 = .ok (.iload_n 1, 1) := by decide +kernel
theorem d_M_offset_19 : decode b_M_offset 19 = .ok (.iaload, 1) := by decide +kernel
theorem d_M_offset_20 : decode b_M_offset 20 = .ok (.ireturn, 1) := by decide +kernel
theorem d_M_count_0 : decode b_M_count 0 = .ok (.aload_n 0, 1) := by decide +kernel
theorem d_M_count_1 : decode b_M_count 1 = .ok (.iload_n 1, 1) := by decide +kernel
theorem d_M_count_2 : decode b_M_count 2 = .ok (.invokevirtual 108, 3) := by decide +kernel
theorem d_M_count_5 : decode b_M_count 5 = .ok (.ifCond .ne 12, 3) := by decide +kernel
theorem d_M_count_8 : decode b_M_count 8 = .ok (.iload_n 2, 1) := by decide +kernel
theorem d_M_count_9 : decode b_M_count 9 = .ok (.ifCond .lt 8, 3) := by decide +kernel
theorem d_M_count_12 : decode b_M_count 12 = .ok (.iload_n 2, 1) := by decide +kernel
theorem d_M_count_13 : decode b_M_count 13 = .ok (.iconst 3, 1) := by decide +kernel
theorem d_M_count_14 : decode b_M_count 14 = .ok (.if_icmp .le 5, 3) := by decide +kernel
theorem d_M_count_17 : decode b_M_count 17 = .ok (.iconst (-1), 1) := by decide +kernel
theorem d_M_count_18 : decode b_M_count 18 = .ok (.ireturn, 1) := by decide +kernel
theorem d_M_count_19 : decode b_M_count 19 = .ok (.iload_n 2, 1) := by decide +kernel
theorem d_M_count_20 : decode b_M_count 20 = .ok (.ifCond .ne 12, 3) := by decide +kernel
theorem d_M_count_23 : decode b_M_count 23 = .ok (.aload_n 0, 1) := by decide +kernel
theorem d_M_count_24 : decode b_M_count 24 = .ok (.getfield 51, 3) := by decide +kernel
theorem d_M_count_27 : decode b_M_count 27 = .ok (.iload_n 1, 1) := by decide +kernel
theorem d_M_count_28 : decode b_M_count 28 = .ok (.iaload, 1) := by decide +kernel
theorem d_M_count_29 : decode b_M_count 29 = .ok (.goto 40, 3) := by decide +kernel
theorem d_M_count_32 : decode b_M_count 32 = .ok (.iload_n 2, 1) := by decide +kernel
theorem d_M_count_33 : decode b_M_count 33 = .ok (.iconst 1, 1) := by decide +kernel
theorem d_M_count_34 : decode b_M_count 34 = .ok (.if_icmp .ne 15, 3) := by decide +kernel
theorem d_M_count_37 : decode b_M_count 37 = .ok (.aload_n 0, 1) := by decide +kernel
theorem d_M_count_38 : decode b_M_count 38 = .ok (.getfield 51, 3) := by decide +kernel
theorem d_M_count_41 : decode b_M_count 41 = .ok (.bipush 6, 2) := by decide +kernel
theorem d_M_count_43 : decode b_M_count 43 = .ok (.iload_n 1, 1) := by decide +kernel
theorem d_M_count_44 : decode b_M_count 44 = .ok (.iadd, 1) := by decide +kernel
theorem d_M_count_45 : decode b_M_count 45 = .ok (.iaload, 1) := by decide +kernel
theorem d_M_count_46 : decode b_M_count 46 = .ok (.goto 23, 3) := by decide +kernel
theorem d_M_count_49 : decode b_M_count 49 = .ok (.iload_n 2, 1) := by decide +kernel
theorem d_M_count_50 : decode b_M_count 50 = .ok (.iconst 2, 1) := by decide +kernel
theorem d_M_count_51 : decode b_M_count 51 = .ok (.if_icmp .ne 12, 3) := by decide +kernel
theorem d_M_count_54 : decode b_M_count 54 = .ok (.aload_n 0, 1) := by decide +kernel
theorem d_M_count_55 : decode b_M_count 55 = .ok (.getfield 63, 3) := by decide +kernel
theorem d_M_count_58 : decode b_M_count 58 = .ok (.iload_n 1, 1) := by decide +kernel
theorem d_M_count_59 : decode b_M_count 59 = .ok (.iaload, 1) := by decide +kernel
theorem d_M_count_60 : decode b_M_count 60 = .ok (.goto 9, 3) := by decide +kernel
theorem d_M_count_63 : decode b_M_count 63 = .ok (.aload_n 0, 1) := by decide +kernel
theorem d_M_count_64 : decode b_M_count 64 = .ok (.getfield 66, 3) := by decide +kernel
theorem d_M_count_67 : decode b_M_count 67 = .ok (.iload_n 1, 1) := by decide +kernel
theorem d_M_count_68 : decode b_M_count 68 = .ok (.iaload, 1) := by decide +kernel
theorem d_M_count_69 : decode b_M_count 69 = .ok (.ireturn, 1) := by decide +kernel
theorem d_M_cached_0 : decode b_M_cached 0 = .ok (.aload_n 0, 1) := by decide +kernel
theorem d_M_cached_1 : decode b_M_cached 1 = .ok (.iload_n 1, 1) := by decide +kernel
theorem d_M_cached_2 : decode b_M_cached 2 = .ok (.invokevirtual 108, 3) := by decide +kernel
theorem d_M_cached_5 : decode b_M_cached 5 = .ok (.ifCond .ne 17, 3) := by decide +kernel
theorem d_M_cached_8 : decode b_M_cached 8 = .ok (.iload_n 2, 1) := by decide +kernel
theorem d_M_cached_9 : decode b_M_cached 9 = .ok (.ifCond .lt 13, 3) := by decide +kernel
theorem d_M_cached_12 : decode b_M_cached 12 = .ok (.iload_n 2, 1) := by decide +kernel
theorem d_M_cached_13 : decode b_M_cached 13 = .ok (.aload_n 0, 1) := by decide +kernel
theorem d_M_cached_14 : decode b_M_cached 14 = .ok (.getfield 78, 3) := by decide +kernel
theorem d_M_cached_17 : decode b_M_cached 17 = .ok (.iload_n 1, 1) := by decide +kernel
theorem d_M_cached_18 : decode b_M_cached 18 = .ok (.iaload, 1) := by decide +kernel
theorem d_M_cached_19 : decode b_M_cached 19 = .ok (.if_icmp .lt 9, 3) := by decide +kernel
theorem d_M_cached_22 : decode b_M_cached 22 = .ok (.sipush (-9999), 3) := by decide +kernel
theorem d_M_cached_25 : decode b_M_cached 25 = .ok (.goto 13, 3) := by decide +kernel
theorem d_M_cached_28 : decode b_M_cached 28 = .ok (.aload_n 0, 1) := by decide +kernel
theorem d_M_cached_29 : decode b_M_cached 29 = .ok (.getfield 75, 3) := by decide +kernel
theorem d_M_cached_32 : decode b_M_cached 32 = .ok (.iconst 3, 1) := by decide +kernel
theorem d_M_cached_33 : decode b_M_cached 33 = .ok (.iload_n 1, 1) := by decide +kernel
theorem d_M_cached_34 : decode b_M_cached 34 = .ok (.imul, 1) := by decide +kernel
theorem d_M_cached_35 : decode b_M_cached 35 = .ok (.iload_n 2, 1) := by decide +kernel
theorem d_M_cached_36 : decode b_M_cached 36 = .ok (.iadd, 1) := by decide +kernel
theorem d_M_cached_37 : decode b_M_cached 37 = .ok (.iaload, 1) := by decide +kernel
theorem d_M_cached_38 : decode b_M_cached 38 = .ok (.ireturn, 1) := by decide +kernel
theorem d_M_latest_0 : decode b_M_latest 0 = .ok (.aload_n 0, 1) := by decide +kernel
theorem d_M_latest_1 : decode b_M_latest 1 = .ok (.iload_n 1, 1) := by decide +kernel
theorem d_M_latest_2 : decode b_M_latest 2 = .ok (.invokevirtual 108, 3) := by decide +kernel
theorem d_M_latest_5 : decode b_M_latest 5 = .ok (.ifCond .eq 7, 3) := by decide +kernel
theorem d_M_latest_8 : decode b_M_latest 8 = .ok (.iconst (-1), 1) := by decide +kernel
theorem d_M_latest_9 : decode b_M_latest 9 = .ok (.goto 9, 3) := by decide +kernel
theorem d_M_latest_12 : decode b_M_latest 12 = .ok (.aload_n 0, 1) := by decide +kernel
theorem d_M_latest_13 : decode b_M_latest 13 = .ok (.getfield 69, 3) := by decide +kernel
theorem d_M_latest_16 : decode b_M_latest 16 = .ok (.iload_n 1, 1) := by decide +kernel
theorem d_M_latest_17 : decode b_M_latest 17 = .ok (.iaload, 1) := by decide +kernel
theorem d_M_latest_18 : decode b_M_latest 18 = .ok (.ireturn, 1) := by decide +kernel
theorem d_M_actuator_0 : decode b_M_actuator 0 = .ok (.aload_n 0, 1) := by decide +kernel
theorem d_M_actuator_1 : decode b_M_actuator 1 = .ok (.iload_n 1, 1) := by decide +kernel
theorem d_M_actuator_2 : decode b_M_actuator 2 = .ok (.invokevirtual 108, 3) := by decide +kernel
theorem d_M_actuator_5 : decode b_M_actuator 5 = .ok (.ifCond .ne 7, 3) := by decide +kernel
theorem d_M_actuator_8 : decode b_M_actuator 8 = .ok (.iload_n 1, 1) := by decide +kernel
theorem d_M_actuator_9 : decode b_M_actuator 9 = .ok (.ifCond .ne 9, 3) := by decide +kernel
theorem d_M_actuator_12 : decode b_M_actuator 12 = .ok (.sipush (-9999), 3) := by decide +kernel
theorem d_M_actuator_15 : decode b_M_actuator 15 = .ok (.goto 9, 3) := by decide +kernel
theorem d_M_actuator_18 : decode b_M_actuator 18 = .ok (.aload_n 0, 1) := by decide +kernel
theorem d_M_actuator_19 : decode b_M_actuator 19 = .ok (.getfield 93, 3) := by decide +kernel
theorem d_M_actuator_22 : decode b_M_actuator 22 = .ok (.iload_n 1, 1) := by decide +kernel
theorem d_M_actuator_23 : decode b_M_actuator 23 = .ok (.iaload, 1) := by decide +kernel
theorem d_M_actuator_24 : decode b_M_actuator 24 = .ok (.ireturn, 1) := by decide +kernel
theorem d_M_sent_0 : decode b_M_sent 0 = .ok (.aload_n 0, 1) := by decide +kernel
theorem d_M_sent_1 : decode b_M_sent 1 = .ok (.getfield 158, 3) := by decide +kernel
theorem d_M_sent_4 : decode b_M_sent 4 = .ok (.ireturn, 1) := by decide +kernel
theorem d_H_init_0 : decode b_H_init 0 = .ok (.aload_n 0, 1) := by decide +kernel
theorem d_H_init_1 : decode b_H_init 1 = .ok (.invokespecial 1, 3) := by decide +kernel
theorem d_H_init_4 : decode b_H_init 4 = .ok (.aload_n 0, 1) := by decide +kernel
theorem d_H_init_5 : decode b_H_init 5 = .ok (.ldc2_w 7, 3) := by decide +kernel
theorem d_H_init_8 : decode b_H_init 8 = .ok (.putfield 9, 3) := by decide +kernel
theorem d_H_init_11 : decode b_H_init 11 = .ok (.aload_n 0, 1) := by decide +kernel
theorem d_H_init_12 : decode b_H_init 12 = .ok (.ldc2_w 7, 3) := by decide +kernel
theorem d_H_init_15 : decode b_H_init 15 = .ok (.putfield 15, 3) := by decide +kernel
theorem d_H_init_18 : decode b_H_init 18 = .ok (.return_, 1) := by decide +kernel
theorem d_H_carriesFrame_0 : decode b_H_carriesFrame 0 = .ok (.aload_n 0, 1) := by decide +kernel
theorem d_H_carriesFrame_1 : decode b_H_carriesFrame 1 = .ok (.getfield 9, 3) := by decide +kernel
theorem d_H_carriesFrame_4 : decode b_H_carriesFrame 4 = .ok (.iload_n 1, 1) := by decide +kernel
theorem d_H_carriesFrame_5 : decode b_H_carriesFrame 5 = .ok (.invokestatic 18, 3) := by decide +kernel
theorem d_H_carriesFrame_8 : decode b_H_carriesFrame 8 = .ok (.ireturn, 1) := by decide +kernel
theorem d_H_carriesConfirmation_0 : decode b_H_carriesConfirmation 0 = .ok (.aload_n 0, 1) := by decide +kernel
theorem d_H_carriesConfirmation_1 : decode b_H_carriesConfirmation 1 = .ok (.getfield 15, 3) := by decide +kernel
theorem d_H_carriesConfirmation_4 : decode b_H_carriesConfirmation 4 = .ok (.iload_n 1, 1) := by decide +kernel
theorem d_H_carriesConfirmation_5 : decode b_H_carriesConfirmation 5 = .ok (.invokestatic 18, 3) := by decide +kernel
theorem d_H_carriesConfirmation_8 : decode b_H_carriesConfirmation 8 = .ok (.ireturn, 1) := by decide +kernel
theorem d_H_bitAt_0 : decode b_H_bitAt 0 = .ok (.lload_n 0, 1) := by decide +kernel
theorem d_H_bitAt_1 : decode b_H_bitAt 1 = .ok (.iload_n 2, 1) := by decide +kernel
theorem d_H_bitAt_2 : decode b_H_bitAt 2 = .ok (.bipush 64, 2) := by decide +kernel
theorem d_H_bitAt_4 : decode b_H_bitAt 4 = .ok (.invokestatic 22, 3) := by decide +kernel
theorem d_H_bitAt_7 : decode b_H_bitAt 7 = .ok (.lushr, 1) := by decide +kernel
theorem d_H_bitAt_8 : decode b_H_bitAt 8 = .ok (.lconst 1, 1) := by decide +kernel
theorem d_H_bitAt_9 : decode b_H_bitAt 9 = .ok (.land, 1) := by decide +kernel
theorem d_H_bitAt_10 : decode b_H_bitAt 10 = .ok (.lconst 1, 1) := by decide +kernel
theorem d_H_bitAt_11 : decode b_H_bitAt 11 = .ok (.lcmp, 1) := by decide +kernel
theorem d_H_bitAt_12 : decode b_H_bitAt 12 = .ok (.ifCond .ne 7, 3) := by decide +kernel
theorem d_H_bitAt_15 : decode b_H_bitAt 15 = .ok (.iconst 1, 1) := by decide +kernel
theorem d_H_bitAt_16 : decode b_H_bitAt 16 = .ok (.goto 4, 3) := by decide +kernel
theorem d_H_bitAt_19 : decode b_H_bitAt 19 = .ok (.iconst 0, 1) := by decide +kernel
theorem d_H_bitAt_20 : decode b_H_bitAt 20 = .ok (.ireturn, 1) := by decide +kernel
theorem d_F_init_0 : decode b_F_init 0 = .ok (.aload_n 0, 1) := by decide +kernel
theorem d_F_init_1 : decode b_F_init 1 = .ok (.invokespecial 1, 3) := by decide +kernel
theorem d_F_init_4 : decode b_F_init 4 = .ok (.aload_n 0, 1) := by decide +kernel
theorem d_F_init_5 : decode b_F_init 5 = .ok (.iconst 4, 1) := by decide +kernel
theorem d_F_init_6 : decode b_F_init 6 = .ok (.newarray .int, 2) := by decide +kernel
theorem d_F_init_8 : decode b_F_init 8 = .ok (.putfield 9, 3) := by decide +kernel
theorem d_F_init_11 : decode b_F_init 11 = .ok (.aload_n 0, 1) := by decide +kernel
theorem d_F_init_12 : decode b_F_init 12 = .ok (.iconst 4, 1) := by decide +kernel
theorem d_F_init_13 : decode b_F_init 13 = .ok (.newarray .int, 2) := by decide +kernel
theorem d_F_init_15 : decode b_F_init 15 = .ok (.putfield 13, 3) := by decide +kernel
theorem d_F_init_18 : decode b_F_init 18 = .ok (.aload_n 0, 1) := by decide +kernel
theorem d_F_init_19 : decode b_F_init 19 = .ok (.iconst 4, 1) := by decide +kernel
theorem d_F_init_20 : decode b_F_init 20 = .ok (.newarray .int, 2) := by decide +kernel
theorem d_F_init_22 : decode b_F_init 22 = .ok (.putfield 16, 3) := by decide +kernel
theorem d_F_init_25 : decode b_F_init 25 = .ok (.return_, 1) := by decide +kernel
theorem d_F_append_0 : decode b_F_append 0 = .ok (.aload_n 0, 1) := by decide +kernel
theorem d_F_append_1 : decode b_F_append 1 = .ok (.getfield 19, 3) := by decide +kernel
theorem d_F_append_4 : decode b_F_append 4 = .ok (.iconst 4, 1) := by decide +kernel
theorem d_F_append_5 : decode b_F_append 5 = .ok (.if_icmp .lt 5, 3) := by decide +kernel
theorem d_F_append_8 : decode b_F_append 8 = .ok (.iconst 0, 1) := by decide +kernel
theorem d_F_append_9 : decode b_F_append 9 = .ok (.ireturn, 1) := by decide +kernel
theorem d_F_append_10 : decode b_F_append 10 = .ok (.aload_n 0, 1) := by decide +kernel
theorem d_F_append_11 : decode b_F_append 11 = .ok (.getfield 9, 3) := by decide +kernel
theorem d_F_append_14 : decode b_F_append 14 = .ok (.aload_n 0, 1) := by decide +kernel
theorem d_F_append_15 : decode b_F_append 15 = .ok (.getfield 19, 3) := by decide +kernel
theorem d_F_append_18 : decode b_F_append 18 = .ok (.iload_n 1, 1) := by decide +kernel
theorem d_F_append_19 : decode b_F_append 19 = .ok (.iastore, 1) := by decide +kernel
theorem d_F_append_20 : decode b_F_append 20 = .ok (.aload_n 0, 1) := by decide +kernel
theorem d_F_append_21 : decode b_F_append 21 = .ok (.getfield 13, 3) := by decide +kernel
theorem d_F_append_24 : decode b_F_append 24 = .ok (.aload_n 0, 1) := by decide +kernel
theorem d_F_append_25 : decode b_F_append 25 = .ok (.getfield 19, 3) := by decide +kernel
theorem d_F_append_28 : decode b_F_append 28 = .ok (.iload_n 2, 1) := by decide +kernel
theorem d_F_append_29 : decode b_F_append 29 = .ok (.iastore, 1) := by decide +kernel
theorem d_F_append_30 : decode b_F_append 30 = .ok (.aload_n 0, 1) := by decide +kernel
theorem d_F_append_31 : decode b_F_append 31 = .ok (.getfield 16, 3) := by decide +kernel
theorem d_F_append_34 : decode b_F_append 34 = .ok (.aload_n 0, 1) := by decide +kernel
theorem d_F_append_35 : decode b_F_append 35 = .ok (.getfield 19, 3) := by decide +kernel
theorem d_F_append_38 : decode b_F_append 38 = .ok (.iload_n 3, 1) := by decide +kernel
theorem d_F_append_39 : decode b_F_append 39 = .ok (.iastore, 1) := by decide +kernel
theorem d_F_append_40 : decode b_F_append 40 = .ok (.aload_n 0, 1) := by decide +kernel
theorem d_F_append_41 : decode b_F_append 41 = .ok (.dup, 1) := by decide +kernel
theorem d_F_append_42 : decode b_F_append 42 = .ok (.getfield 19, 3) := by decide +kernel
theorem d_F_append_45 : decode b_F_append 45 = .ok (.iconst 1, 1) := by decide +kernel
theorem d_F_append_46 : decode b_F_append 46 = .ok (.iadd, 1) := by decide +kernel
theorem d_F_append_47 : decode b_F_append 47 = .ok (.putfield 19, 3) := by decide +kernel
theorem d_F_append_50 : decode b_F_append 50 = .ok (.iconst 1, 1) := by decide +kernel
theorem d_F_append_51 : decode b_F_append 51 = .ok (.ireturn, 1) := by decide +kernel
theorem d_F_dropFirst_0 : decode b_F_dropFirst 0 = .ok (.aload_n 0, 1) := by decide +kernel
theorem d_F_dropFirst_1 : decode b_F_dropFirst 1 = .ok (.getfield 19, 3) := by decide +kernel
theorem d_F_dropFirst_4 : decode b_F_dropFirst 4 = .ok (.ifCond .ne 4, 3) := by decide +kernel
theorem d_F_dropFirst_7 : decode b_F_dropFirst 7 = .ok (.return_, 1) := by decide +kernel
theorem d_F_dropFirst_8 : decode b_F_dropFirst 8 = .ok (.aload_n 0, 1) := by decide +kernel
theorem d_F_dropFirst_9 : decode b_F_dropFirst 9 = .ok (.dup, 1) := by decide +kernel
theorem d_F_dropFirst_10 : decode b_F_dropFirst 10 = .ok (.getfield 19, 3) := by decide +kernel
theorem d_F_dropFirst_13 : decode b_F_dropFirst 13 = .ok (.iconst 1, 1) := by decide +kernel
theorem d_F_dropFirst_14 : decode b_F_dropFirst 14 = .ok (.isub, 1) := by decide +kernel
theorem d_F_dropFirst_15 : decode b_F_dropFirst 15 = .ok (.putfield 19, 3) := by decide +kernel
theorem d_F_dropFirst_18 : decode b_F_dropFirst 18 = .ok (.iconst 0, 1) := by decide +kernel
theorem d_F_dropFirst_19 : decode b_F_dropFirst 19 = .ok (.istore_n 1, 1) := by decide +kernel
theorem d_F_dropFirst_20 : decode b_F_dropFirst 20 = .ok (.iload_n 1, 1) := by decide +kernel
theorem d_F_dropFirst_21 : decode b_F_dropFirst 21 = .ok (.aload_n 0, 1) := by decide +kernel
theorem d_F_dropFirst_22 : decode b_F_dropFirst 22 = .ok (.getfield 19, 3) := by decide +kernel
theorem d_F_dropFirst_25 : decode b_F_dropFirst 25 = .ok (.if_icmp .ge 51, 3) := by decide +kernel
theorem d_F_dropFirst_28 : decode b_F_dropFirst 28 = .ok (.aload_n 0, 1) := by decide +kernel
theorem d_F_dropFirst_29 : decode b_F_dropFirst 29 = .ok (.getfield 9, 3) := by decide +kernel
theorem d_F_dropFirst_32 : decode b_F_dropFirst 32 = .ok (.iload_n 1, 1) := by decide +kernel
theorem d_F_dropFirst_33 : decode b_F_dropFirst 33 = .ok (.aload_n 0, 1) := by decide +kernel
theorem d_F_dropFirst_34 : decode b_F_dropFirst 34 = .ok (.getfield 9, 3) := by decide +kernel
theorem d_F_dropFirst_37 : decode b_F_dropFirst 37 = .ok (.iload_n 1, 1) := by decide +kernel
theorem d_F_dropFirst_38 : decode b_F_dropFirst 38 = .ok (.iconst 1, 1) := by decide +kernel
theorem d_F_dropFirst_39 : decode b_F_dropFirst 39 = .ok (.iadd, 1) := by decide +kernel
theorem d_F_dropFirst_40 : decode b_F_dropFirst 40 = .ok (.iaload, 1) := by decide +kernel
theorem d_F_dropFirst_41 : decode b_F_dropFirst 41 = .ok (.iastore, 1) := by decide +kernel
theorem d_F_dropFirst_42 : decode b_F_dropFirst 42 = .ok (.aload_n 0, 1) := by decide +kernel
theorem d_F_dropFirst_43 : decode b_F_dropFirst 43 = .ok (.getfield 13, 3) := by decide +kernel
theorem d_F_dropFirst_46 : decode b_F_dropFirst 46 = .ok (.iload_n 1, 1) := by decide +kernel
theorem d_F_dropFirst_47 : decode b_F_dropFirst 47 = .ok (.aload_n 0, 1) := by decide +kernel
theorem d_F_dropFirst_48 : decode b_F_dropFirst 48 = .ok (.getfield 13, 3) := by decide +kernel
theorem d_F_dropFirst_51 : decode b_F_dropFirst 51 = .ok (.iload_n 1, 1) := by decide +kernel
theorem d_F_dropFirst_52 : decode b_F_dropFirst 52 = .ok (.iconst 1, 1) := by decide +kernel
theorem d_F_dropFirst_53 : decode b_F_dropFirst 53 = .ok (.iadd, 1) := by decide +kernel
theorem d_F_dropFirst_54 : decode b_F_dropFirst 54 = .ok (.iaload, 1) := by decide +kernel
theorem d_F_dropFirst_55 : decode b_F_dropFirst 55 = .ok (.iastore, 1) := by decide +kernel
theorem d_F_dropFirst_56 : decode b_F_dropFirst 56 = .ok (.aload_n 0, 1) := by decide +kernel
theorem d_F_dropFirst_57 : decode b_F_dropFirst 57 = .ok (.getfield 16, 3) := by decide +kernel
theorem d_F_dropFirst_60 : decode b_F_dropFirst 60 = .ok (.iload_n 1, 1) := by decide +kernel
theorem d_F_dropFirst_61 : decode b_F_dropFirst 61 = .ok (.aload_n 0, 1) := by decide +kernel
theorem d_F_dropFirst_62 : decode b_F_dropFirst 62 = .ok (.getfield 16, 3) := by decide +kernel
theorem d_F_dropFirst_65 : decode b_F_dropFirst 65 = .ok (.iload_n 1, 1) := by decide +kernel
theorem d_F_dropFirst_66 : decode b_F_dropFirst 66 = .ok (.iconst 1, 1) := by decide +kernel
theorem d_F_dropFirst_67 : decode b_F_dropFirst 67 = .ok (.iadd, 1) := by decide +kernel
theorem d_F_dropFirst_68 : decode b_F_dropFirst 68 = .ok (.iaload, 1) := by decide +kernel
theorem d_F_dropFirst_69 : decode b_F_dropFirst 69 = .ok (.iastore, 1) := by decide +kernel
theorem d_F_dropFirst_70 : decode b_F_dropFirst 70 = .ok (.iinc 1 1, 3) := by decide +kernel
theorem d_F_dropFirst_73 : decode b_F_dropFirst 73 = .ok (.goto (-53), 3) := by decide +kernel
theorem d_F_dropFirst_76 : decode b_F_dropFirst 76 = .ok (.return_, 1) := by decide +kernel
theorem d_F_clear_0 : decode b_F_clear 0 = .ok (.aload_n 0, 1) := by decide +kernel
theorem d_F_clear_1 : decode b_F_clear 1 = .ok (.iconst 0, 1) := by decide +kernel
theorem d_F_clear_2 : decode b_F_clear 2 = .ok (.putfield 19, 3) := by decide +kernel
theorem d_F_clear_5 : decode b_F_clear 5 = .ok (.return_, 1) := by decide +kernel
theorem d_O_init_0 : decode b_O_init 0 = .ok (.aload_n 0, 1) := by decide +kernel
theorem d_O_init_1 : decode b_O_init 1 = .ok (.invokespecial 1, 3) := by decide +kernel
theorem d_O_init_4 : decode b_O_init 4 = .ok (.aload_n 0, 1) := by decide +kernel
theorem d_O_init_5 : decode b_O_init 5 = .ok (.iconst 3, 1) := by decide +kernel
theorem d_O_init_6 : decode b_O_init 6 = .ok (.newarray .int, 2) := by decide +kernel
theorem d_O_init_8 : decode b_O_init 8 = .ok (.putfield 9, 3) := by decide +kernel
theorem d_O_init_11 : decode b_O_init 11 = .ok (.return_, 1) := by decide +kernel
theorem d_O_keep_0 : decode b_O_keep 0 = .ok (.iconst 2, 1) := by decide +kernel
theorem d_O_keep_1 : decode b_O_keep 1 = .ok (.istore_n 2, 1) := by decide +kernel
theorem d_O_keep_2 : decode b_O_keep 2 = .ok (.iload_n 2, 1) := by decide +kernel
theorem d_O_keep_3 : decode b_O_keep 3 = .ok (.ifCond .le 23, 3) := by decide +kernel
theorem d_O_keep_6 : decode b_O_keep 6 = .ok (.aload_n 0, 1) := by decide +kernel
theorem d_O_keep_7 : decode b_O_keep 7 = .ok (.getfield 9, 3) := by decide +kernel
theorem d_O_keep_10 : decode b_O_keep 10 = .ok (.iload_n 2, 1) := by decide +kernel
theorem d_O_keep_11 : decode b_O_keep 11 = .ok (.aload_n 0, 1) := by decide +kernel
theorem d_O_keep_12 : decode b_O_keep 12 = .ok (.getfield 9, 3) := by decide +kernel
theorem d_O_keep_15 : decode b_O_keep 15 = .ok (.iload_n 2, 1) := by decide +kernel
theorem d_O_keep_16 : decode b_O_keep 16 = .ok (.iconst 1, 1) := by decide +kernel
theorem d_O_keep_17 : decode b_O_keep 17 = .ok (.isub, 1) := by decide +kernel
theorem d_O_keep_18 : decode b_O_keep 18 = .ok (.iaload, 1) := by decide +kernel
theorem d_O_keep_19 : decode b_O_keep 19 = .ok (.iastore, 1) := by decide +kernel
theorem d_O_keep_20 : decode b_O_keep 20 = .ok (.iinc 2 (-1), 3) := by decide +kernel
theorem d_O_keep_23 : decode b_O_keep 23 = .ok (.goto (-21), 3) := by decide +kernel
theorem d_O_keep_26 : decode b_O_keep 26 = .ok (.aload_n 0, 1) := by decide +kernel
theorem d_O_keep_27 : decode b_O_keep 27 = .ok (.getfield 9, 3) := by decide +kernel
theorem d_O_keep_30 : decode b_O_keep 30 = .ok (.iconst 0, 1) := by decide +kernel
theorem d_O_keep_31 : decode b_O_keep 31 = .ok (.iload_n 1, 1) := by decide +kernel
theorem d_O_keep_32 : decode b_O_keep 32 = .ok (.iastore, 1) := by decide +kernel
theorem d_O_keep_33 : decode b_O_keep 33 = .ok (.aload_n 0, 1) := by decide +kernel
theorem d_O_keep_34 : decode b_O_keep 34 = .ok (.iconst 3, 1) := by decide +kernel
theorem d_O_keep_35 : decode b_O_keep 35 = .ok (.aload_n 0, 1) := by decide +kernel
theorem d_O_keep_36 : decode b_O_keep 36 = .ok (.getfield 13, 3) := by decide +kernel
theorem d_O_keep_39 : decode b_O_keep 39 = .ok (.iconst 1, 1) := by decide +kernel
theorem d_O_keep_40 : decode b_O_keep 40 = .ok (.iadd, 1) := by decide +kernel
theorem d_O_keep_41 : decode b_O_keep 41 = .ok (.invokestatic 17, 3) := by decide +kernel
theorem d_O_keep_44 : decode b_O_keep 44 = .ok (.putfield 13, 3) := by decide +kernel
theorem d_O_keep_47 : decode b_O_keep 47 = .ok (.return_, 1) := by decide +kernel
theorem d_O_nextCommand_0 : decode b_O_nextCommand 0 = .ok (.aload_n 0, 1) := by decide +kernel
theorem d_O_nextCommand_1 : decode b_O_nextCommand 1 = .ok (.getfield 23, 3) := by decide +kernel
theorem d_O_nextCommand_4 : decode b_O_nextCommand 4 = .ok (.iload_n 1, 1) := by decide +kernel
theorem d_O_nextCommand_5 : decode b_O_nextCommand 5 = .ok (.isub, 1) := by decide +kernel
theorem d_O_nextCommand_6 : decode b_O_nextCommand 6 = .ok (.istore_n 2, 1) := by decide +kernel
theorem d_O_nextCommand_7 : decode b_O_nextCommand 7 = .ok (.aload_n 0, 1) := by decide +kernel
theorem d_O_nextCommand_8 : decode b_O_nextCommand 8 = .ok (.aload_n 0, 1) := by decide +kernel
theorem d_O_nextCommand_9 : decode b_O_nextCommand 9 = .ok (.getfield 26, 3) := by decide +kernel
theorem d_O_nextCommand_12 : decode b_O_nextCommand 12 = .ok (.iload_n 2, 1) := by decide +kernel
theorem d_O_nextCommand_13 : decode b_O_nextCommand 13 = .ok (.iadd, 1) := by decide +kernel
theorem d_O_nextCommand_14 : decode b_O_nextCommand 14 = .ok (.sipush (-2000), 3) := by decide +kernel
theorem d_O_nextCommand_17 : decode b_O_nextCommand 17 = .ok (.sipush 2000, 3) := by decide +kernel
theorem d_O_nextCommand_20 : decode b_O_nextCommand 20 = .ok (.invokestatic 29, 3) := by decide +kernel
theorem d_O_nextCommand_23 : decode b_O_nextCommand 23 = .ok (.putfield 26, 3) := by decide +kernel
theorem d_O_nextCommand_26 : decode b_O_nextCommand 26 = .ok (.aload_n 0, 1) := by decide +kernel
theorem d_O_nextCommand_27 : decode b_O_nextCommand 27 = .ok (.getfield 35, 3) := by decide +kernel
theorem d_O_nextCommand_30 : decode b_O_nextCommand 30 = .ok (.iload_n 2, 1) := by decide +kernel
theorem d_O_nextCommand_31 : decode b_O_nextCommand 31 = .ok (.imul, 1) := by decide +kernel
theorem d_O_nextCommand_32 : decode b_O_nextCommand 32 = .ok (.aload_n 0, 1) := by decide +kernel
theorem d_O_nextCommand_33 : decode b_O_nextCommand 33 = .ok (.getfield 38, 3) := by decide +kernel
theorem d_O_nextCommand_36 : decode b_O_nextCommand 36 = .ok (.aload_n 0, 1) := by decide +kernel
theorem d_O_nextCommand_37 : decode b_O_nextCommand 37 = .ok (.getfield 26, 3) := by decide +kernel
theorem d_O_nextCommand_40 : decode b_O_nextCommand 40 = .ok (.imul, 1) := by decide +kernel
theorem d_O_nextCommand_41 : decode b_O_nextCommand 41 = .ok (.iadd, 1) := by decide +kernel
theorem d_O_nextCommand_42 : decode b_O_nextCommand 42 = .ok (.bipush 16, 2) := by decide +kernel
theorem d_O_nextCommand_44 : decode b_O_nextCommand 44 = .ok (.invokestatic 41, 3) := by decide +kernel
theorem d_O_nextCommand_47 : decode b_O_nextCommand 47 = .ok (.istore_n 3, 1) := by decide +kernel
theorem d_O_nextCommand_48 : decode b_O_nextCommand 48 = .ok (.iload_n 3, 1) := by decide +kernel
theorem d_O_nextCommand_49 : decode b_O_nextCommand 49 = .ok (.sipush (-500), 3) := by decide +kernel
theorem d_O_nextCommand_52 : decode b_O_nextCommand 52 = .ok (.sipush 500, 3) := by decide +kernel
theorem d_O_nextCommand_55 : decode b_O_nextCommand 55 = .ok (.invokestatic 29, 3) := by decide +kernel
theorem d_O_nextCommand_58 : decode b_O_nextCommand 58 = .ok (.ireturn, 1) := by decide +kernel
theorem d_N_init_0 : decode b_N_init 0 = .ok (.aload_n 0, 1) := by decide +kernel
theorem d_N_init_1 : decode b_N_init 1 = .ok (.invokespecial 3, 3) := by decide +kernel
theorem d_N_init_4 : decode b_N_init 4 = .ok (.aload_n 0, 1) := by decide +kernel
theorem d_N_init_5 : decode b_N_init 5 = .ok (.iload_n 1, 1) := by decide +kernel
theorem d_N_init_6 : decode b_N_init 6 = .ok (.putfield 9, 3) := by decide +kernel
theorem d_N_init_9 : decode b_N_init 9 = .ok (.aload_n 0, 1) := by decide +kernel
theorem d_N_init_10 : decode b_N_init 10 = .ok (.iload_n 2, 1) := by decide +kernel
theorem d_N_init_11 : decode b_N_init 11 = .ok (.newarray .boolean, 2) := by decide +kernel
theorem d_N_init_13 : decode b_N_init 13 = .ok (.putfield 15, 3) := by decide +kernel
theorem d_N_init_16 : decode b_N_init 16 = .ok (.aload_n 0, 1) := by decide +kernel
theorem d_N_init_17 : decode b_N_init 17 = .ok (.new 19, 3) := by decide +kernel
theorem d_N_init_20 : decode b_N_init 20 = .ok (.dup, 1) := by decide +kernel
theorem d_N_init_21 : decode b_N_init 21 = .ok (.invokespecial 21, 3) := by decide +kernel
theorem d_N_init_24 : decode b_N_init 24 = .ok (.putfield 22, 3) := by decide +kernel
theorem d_N_init_27 : decode b_N_init 27 = .ok (.aload_n 0, 1) := by decide +kernel
theorem d_N_init_28 : decode b_N_init 28 = .ok (.new 19, 3) := by decide +kernel
theorem d_N_init_31 : decode b_N_init 31 = .ok (.dup, 1) := by decide +kernel
theorem d_N_init_32 : decode b_N_init 32 = .ok (.invokespecial 21, 3) := by decide +kernel
theorem d_N_init_35 : decode b_N_init 35 = .ok (.putfield 26, 3) := by decide +kernel
theorem d_N_init_38 : decode b_N_init 38 = .ok (.aload_n 0, 1) := by decide +kernel
theorem d_N_init_39 : decode b_N_init 39 = .ok (.iload_n 2, 1) := by decide +kernel
theorem d_N_init_40 : decode b_N_init 40 = .ok (.newarray .int, 2) := by decide +kernel
theorem d_N_init_42 : decode b_N_init 42 = .ok (.putfield 29, 3) := by decide +kernel
theorem d_N_init_45 : decode b_N_init 45 = .ok (.aload_n 0, 1) := by decide +kernel
theorem d_N_init_46 : decode b_N_init 46 = .ok (.iload_n 2, 1) := by decide +kernel
theorem d_N_init_47 : decode b_N_init 47 = .ok (.newarray .int, 2) := by decide +kernel
theorem d_N_init_49 : decode b_N_init 49 = .ok (.putfield 33, 3) := by decide +kernel
theorem d_N_init_52 : decode b_N_init 52 = .ok (.aload_n 0, 1) := by decide +kernel
theorem d_N_init_53 : decode b_N_init 53 = .ok (.iload_n 1, 1) := by decide +kernel
theorem d_N_init_54 : decode b_N_init 54 = .ok (.ifCond .ne 7, 3) := by decide +kernel
theorem d_N_init_57 : decode b_N_init 57 = .ok (.iconst 1, 1) := by decide +kernel
theorem d_N_init_58 : decode b_N_init 58 = .ok (.goto 4, 3) := by decide +kernel
theorem d_N_init_61 : decode b_N_init 61 = .ok (.iconst 0, 1) := by decide +kernel
theorem d_N_init_62 : decode b_N_init 62 = .ok (.putfield 36, 3) := by decide +kernel
theorem d_N_init_65 : decode b_N_init 65 = .ok (.aload_n 0, 1) := by decide +kernel
theorem d_N_init_66 : decode b_N_init 66 = .ok (.iload_n 1, 1) := by decide +kernel
theorem d_N_init_67 : decode b_N_init 67 = .ok (.ifCond .ne 7, 3) := by decide +kernel
theorem d_N_init_70 : decode b_N_init 70 = .ok (.iconst 1, 1) := by decide +kernel
theorem d_N_init_71 : decode b_N_init 71 = .ok (.goto 4, 3) := by decide +kernel
theorem d_N_init_74 : decode b_N_init 74 = .ok (.iconst 0, 1) := by decide +kernel
theorem d_N_init_75 : decode b_N_init 75 = .ok (.putfield 40, 3) := by decide +kernel
theorem d_N_init_78 : decode b_N_init 78 = .ok (.return_, 1) := by decide +kernel
theorem d_N_enterPlan_0 : decode b_N_enterPlan 0 = .ok (.aload_n 0, 1) := by decide +kernel
theorem d_N_enterPlan_1 : decode b_N_enterPlan 1 = .ok (.aload_n 0, 1) := by decide +kernel
theorem d_N_enterPlan_2 : decode b_N_enterPlan 2 = .ok (.getfield 9, 3) := by decide +kernel
theorem d_N_enterPlan_5 : decode b_N_enterPlan 5 = .ok (.ifCond .ne 7, 3) := by decide +kernel
theorem d_N_enterPlan_8 : decode b_N_enterPlan 8 = .ok (.iconst 1, 1) := by decide +kernel
theorem d_N_enterPlan_9 : decode b_N_enterPlan 9 = .ok (.goto 4, 3) := by decide +kernel
theorem d_N_enterPlan_12 : decode b_N_enterPlan 12 = .ok (.iconst 0, 1) := by decide +kernel
theorem d_N_enterPlan_13 : decode b_N_enterPlan 13 = .ok (.putfield 40, 3) := by decide +kernel
theorem d_N_enterPlan_16 : decode b_N_enterPlan 16 = .ok (.aload_n 0, 1) := by decide +kernel
theorem d_N_enterPlan_17 : decode b_N_enterPlan 17 = .ok (.iconst 0, 1) := by decide +kernel
theorem d_N_enterPlan_18 : decode b_N_enterPlan 18 = .ok (.putfield 43, 3) := by decide +kernel
theorem d_N_enterPlan_21 : decode b_N_enterPlan 21 = .ok (.aload_n 0, 1) := by decide +kernel
theorem d_N_enterPlan_22 : decode b_N_enterPlan 22 = .ok (.iconst 0, 1) := by decide +kernel
theorem d_N_enterPlan_23 : decode b_N_enterPlan 23 = .ok (.putfield 46, 3) := by decide +kernel
theorem d_N_enterPlan_26 : decode b_N_enterPlan 26 = .ok (.aload_n 0, 1) := by decide +kernel
theorem d_N_enterPlan_27 : decode b_N_enterPlan 27 = .ok (.getfield 26, 3) := by decide +kernel
theorem d_N_enterPlan_30 : decode b_N_enterPlan 30 = .ok (.invokevirtual 49, 3) := by decide +kernel
theorem d_N_enterPlan_33 : decode b_N_enterPlan 33 = .ok (.return_, 1) := by decide +kernel
theorem d_N_switchOff_0 : decode b_N_switchOff 0 = .ok (.aload_n 0, 1) := by decide +kernel
theorem d_N_switchOff_1 : decode b_N_switchOff 1 = .ok (.iconst 0, 1) := by decide +kernel
theorem d_N_switchOff_2 : decode b_N_switchOff 2 = .ok (.putfield 36, 3) := by decide +kernel
theorem d_N_switchOff_5 : decode b_N_switchOff 5 = .ok (.aload_n 0, 1) := by decide +kernel
theorem d_N_switchOff_6 : decode b_N_switchOff 6 = .ok (.iconst 0, 1) := by decide +kernel
theorem d_N_switchOff_7 : decode b_N_switchOff 7 = .ok (.putfield 40, 3) := by decide +kernel
theorem d_N_switchOff_10 : decode b_N_switchOff 10 = .ok (.aload_n 0, 1) := by decide +kernel
theorem d_N_switchOff_11 : decode b_N_switchOff 11 = .ok (.iconst 0, 1) := by decide +kernel
theorem d_N_switchOff_12 : decode b_N_switchOff 12 = .ok (.putfield 52, 3) := by decide +kernel
theorem d_N_switchOff_15 : decode b_N_switchOff 15 = .ok (.aload_n 0, 1) := by decide +kernel
theorem d_N_switchOff_16 : decode b_N_switchOff 16 = .ok (.iconst 0, 1) := by decide +kernel
theorem d_N_switchOff_17 : decode b_N_switchOff 17 = .ok (.putfield 43, 3) := by decide +kernel
theorem d_N_switchOff_20 : decode b_N_switchOff 20 = .ok (.aload_n 0, 1) := by decide +kernel
theorem d_N_switchOff_21 : decode b_N_switchOff 21 = .ok (.iconst 0, 1) := by decide +kernel
theorem d_N_switchOff_22 : decode b_N_switchOff 22 = .ok (.putfield 46, 3) := by decide +kernel
theorem d_N_switchOff_25 : decode b_N_switchOff 25 = .ok (.aload_n 0, 1) := by decide +kernel
theorem d_N_switchOff_26 : decode b_N_switchOff 26 = .ok (.getfield 22, 3) := by decide +kernel
theorem d_N_switchOff_29 : decode b_N_switchOff 29 = .ok (.invokevirtual 49, 3) := by decide +kernel
theorem d_N_switchOff_32 : decode b_N_switchOff 32 = .ok (.aload_n 0, 1) := by decide +kernel
theorem d_N_switchOff_33 : decode b_N_switchOff 33 = .ok (.getfield 26, 3) := by decide +kernel
theorem d_N_switchOff_36 : decode b_N_switchOff 36 = .ok (.invokevirtual 49, 3) := by decide +kernel
theorem d_N_switchOff_39 : decode b_N_switchOff 39 = .ok (.aload_n 0, 1) := by decide +kernel
theorem d_N_switchOff_40 : decode b_N_switchOff 40 = .ok (.getfield 29, 3) := by decide +kernel
theorem d_N_switchOff_43 : decode b_N_switchOff 43 = .ok (.iconst 0, 1) := by decide +kernel
theorem d_N_switchOff_44 : decode b_N_switchOff 44 = .ok (.invokestatic 55, 3) := by decide +kernel
theorem d_N_switchOff_47 : decode b_N_switchOff 47 = .ok (.aload_n 0, 1) := by decide +kernel
theorem d_N_switchOff_48 : decode b_N_switchOff 48 = .ok (.getfield 33, 3) := by decide +kernel
theorem d_N_switchOff_51 : decode b_N_switchOff 51 = .ok (.aload_n 0, 1) := by decide +kernel
theorem d_N_switchOff_52 : decode b_N_switchOff 52 = .ok (.getfield 9, 3) := by decide +kernel
theorem d_N_switchOff_55 : decode b_N_switchOff 55 = .ok (.iaload, 1) := by decide +kernel
theorem d_N_switchOff_56 : decode b_N_switchOff 56 = .ok (.istore_n 1, 1) := by decide +kernel
theorem d_N_switchOff_57 : decode b_N_switchOff 57 = .ok (.aload_n 0, 1) := by decide +kernel
theorem d_N_switchOff_58 : decode b_N_switchOff 58 = .ok (.getfield 33, 3) := by decide +kernel
theorem d_N_switchOff_61 : decode b_N_switchOff 61 = .ok (.iconst 0, 1) := by decide +kernel
theorem d_N_switchOff_62 : decode b_N_switchOff 62 = .ok (.invokestatic 55, 3) := by decide +kernel
theorem d_N_switchOff_65 : decode b_N_switchOff 65 = .ok (.aload_n 0, 1) := by decide +kernel
theorem d_N_switchOff_66 : decode b_N_switchOff 66 = .ok (.getfield 33, 3) := by decide +kernel
theorem d_N_switchOff_69 : decode b_N_switchOff 69 = .ok (.aload_n 0, 1) := by decide +kernel
theorem d_N_switchOff_70 : decode b_N_switchOff 70 = .ok (.getfield 9, 3) := by decide +kernel
theorem d_N_switchOff_73 : decode b_N_switchOff 73 = .ok (.iload_n 1, 1) := by decide +kernel
theorem d_N_switchOff_74 : decode b_N_switchOff 74 = .ok (.iastore, 1) := by decide +kernel
theorem d_N_switchOff_75 : decode b_N_switchOff 75 = .ok (.return_, 1) := by decide +kernel
theorem d_N_clockIsCloseTo_0 : decode b_N_clockIsCloseTo 0 = .ok (.aload_n 0, 1) := by decide +kernel
theorem d_N_clockIsCloseTo_1 : decode b_N_clockIsCloseTo 1 = .ok (.getfield 52, 3) := by decide +kernel
theorem d_N_clockIsCloseTo_4 : decode b_N_clockIsCloseTo 4 = .ok (.aload_n 1, 1) := by decide +kernel
theorem d_N_clockIsCloseTo_5 : decode b_N_clockIsCloseTo 5 = .ok (.getfield 52, 3) := by decide +kernel
theorem d_N_clockIsCloseTo_8 : decode b_N_clockIsCloseTo 8 = .ok (.isub, 1) := by decide +kernel
theorem d_N_clockIsCloseTo_9 : decode b_N_clockIsCloseTo 9 = .ok (.invokestatic 61, 3) := by decide +kernel
theorem d_N_clockIsCloseTo_12 : decode b_N_clockIsCloseTo 12 = .ok (.bipush 10, 2) := by decide +kernel
theorem d_N_clockIsCloseTo_14 : decode b_N_clockIsCloseTo 14 = .ok (.if_icmp .gt 7, 3) := by decide +kernel
theorem d_N_clockIsCloseTo_17 : decode b_N_clockIsCloseTo 17 = .ok (.iconst 1, 1) := by decide +kernel
theorem d_N_clockIsCloseTo_18 : decode b_N_clockIsCloseTo 18 = .ok (.goto 4, 3) := by decide +kernel
theorem d_N_clockIsCloseTo_21 : decode b_N_clockIsCloseTo 21 = .ok (.iconst 0, 1) := by decide +kernel
theorem d_N_clockIsCloseTo_22 : decode b_N_clockIsCloseTo 22 = .ok (.ireturn, 1) := by decide +kernel
theorem d_N_failUp_0 : decode b_N_failUp 0 = .ok (.aload_n 0, 1) := by decide +kernel
theorem d_N_failUp_1 : decode b_N_failUp 1 = .ok (.dup, 1) := by decide +kernel
theorem d_N_failUp_2 : decode b_N_failUp 2 = .ok (.getfield 43, 3) := by decide +kernel
theorem d_N_failUp_5 : decode b_N_failUp 5 = .ok (.iconst 1, 1) := by decide +kernel
theorem d_N_failUp_6 : decode b_N_failUp 6 = .ok (.iadd, 1) := by decide +kernel
theorem d_N_failUp_7 : decode b_N_failUp 7 = .ok (.putfield 43, 3) := by decide +kernel
theorem d_N_failUp_10 : decode b_N_failUp 10 = .ok (.aload_n 0, 1) := by decide +kernel
theorem d_N_failUp_11 : decode b_N_failUp 11 = .ok (.getfield 43, 3) := by decide +kernel
theorem d_N_failUp_14 : decode b_N_failUp 14 = .ok (.iconst 4, 1) := by decide +kernel
theorem d_N_failUp_15 : decode b_N_failUp 15 = .ok (.if_icmp .lt 13, 3) := by decide +kernel
theorem d_N_failUp_18 : decode b_N_failUp 18 = .ok (.aload_n 0, 1) := by decide +kernel
theorem d_N_failUp_19 : decode b_N_failUp 19 = .ok (.iconst 0, 1) := by decide +kernel
theorem d_N_failUp_20 : decode b_N_failUp 20 = .ok (.putfield 43, 3) := by decide +kernel
theorem d_N_failUp_23 : decode b_N_failUp 23 = .ok (.aload_n 0, 1) := by decide +kernel
theorem d_N_failUp_24 : decode b_N_failUp 24 = .ok (.iconst 0, 1) := by decide +kernel
theorem d_N_failUp_25 : decode b_N_failUp 25 = .ok (.putfield 40, 3) := by decide +kernel
theorem d_N_failUp_28 : decode b_N_failUp 28 = .ok (.return_, 1) := by decide +kernel
theorem d_N_failDown_0 : decode b_N_failDown 0 = .ok (.aload_n 0, 1) := by decide +kernel
theorem d_N_failDown_1 : decode b_N_failDown 1 = .ok (.dup, 1) := by decide +kernel
theorem d_N_failDown_2 : decode b_N_failDown 2 = .ok (.getfield 46, 3) := by decide +kernel
theorem d_N_failDown_5 : decode b_N_failDown 5 = .ok (.iconst 1, 1) := by decide +kernel
theorem d_N_failDown_6 : decode b_N_failDown 6 = .ok (.iadd, 1) := by decide +kernel
theorem d_N_failDown_7 : decode b_N_failDown 7 = .ok (.putfield 46, 3) := by decide +kernel
theorem d_N_failDown_10 : decode b_N_failDown 10 = .ok (.aload_n 0, 1) := by decide +kernel
theorem d_N_failDown_11 : decode b_N_failDown 11 = .ok (.getfield 46, 3) := by decide +kernel
theorem d_N_failDown_14 : decode b_N_failDown 14 = .ok (.bipush 6, 2) := by decide +kernel
theorem d_N_failDown_16 : decode b_N_failDown 16 = .ok (.if_icmp .lt 15, 3) := by decide +kernel
theorem d_N_failDown_19 : decode b_N_failDown 19 = .ok (.aload_n 0, 1) := by decide +kernel
theorem d_N_failDown_20 : decode b_N_failDown 20 = .ok (.iconst 0, 1) := by decide +kernel
theorem d_N_failDown_21 : decode b_N_failDown 21 = .ok (.putfield 46, 3) := by decide +kernel
theorem d_N_failDown_24 : decode b_N_failDown 24 = .ok (.aload_n 0, 1) := by decide +kernel
theorem d_N_failDown_25 : decode b_N_failDown 25 = .ok (.getfield 26, 3) := by decide +kernel
theorem d_N_failDown_28 : decode b_N_failDown 28 = .ok (.invokevirtual 67, 3) := by decide +kernel
theorem d_N_failDown_31 : decode b_N_failDown 31 = .ok (.return_, 1) := by decide +kernel
theorem d_P_init_0 : decode b_P_init 0 = .ok (.aload_n 0, 1) := by decide +kernel
theorem d_P_init_1 : decode b_P_init 1 = .ok (.invokespecial 3, 3) := by decide +kernel
theorem d_P_init_4 : decode b_P_init 4 = .ok (.aload_n 0, 1) := by decide +kernel
theorem d_P_init_5 : decode b_P_init 5 = .ok (.iload_n 2, 1) := by decide +kernel
theorem d_P_init_6 : decode b_P_init 6 = .ok (.putfield 9, 3) := by decide +kernel
theorem d_P_init_9 : decode b_P_init 9 = .ok (.aload_n 0, 1) := by decide +kernel
theorem d_P_init_10 : decode b_P_init 10 = .ok (.iload_n 3, 1) := by decide +kernel
theorem d_P_init_11 : decode b_P_init 11 = .ok (.putfield 15, 3) := by decide +kernel
theorem d_P_init_14 : decode b_P_init 14 = .ok (.aload_n 0, 1) := by decide +kernel
theorem d_P_init_15 : decode b_P_init 15 = .ok (.iload_n 1, 1) := by decide +kernel
theorem d_P_init_16 : decode b_P_init 16 = .ok (.newarray .int, 2) := by decide +kernel
theorem d_P_init_18 : decode b_P_init 18 = .ok (.putfield 18, 3) := by decide +kernel
theorem d_P_init_21 : decode b_P_init 21 = .ok (.aload_n 0, 1) := by decide +kernel
theorem d_P_init_22 : decode b_P_init 22 = .ok (.iload_n 1, 1) := by decide +kernel
theorem d_P_init_23 : decode b_P_init 23 = .ok (.newarray .int, 2) := by decide +kernel
theorem d_P_init_25 : decode b_P_init 25 = .ok (.putfield 22, 3) := by decide +kernel
theorem d_P_init_28 : decode b_P_init 28 = .ok (.aload_n 0, 1) := by decide +kernel
theorem d_P_init_29 : decode b_P_init 29 = .ok (.iload_n 1, 1) := by decide +kernel
theorem d_P_init_30 : decode b_P_init 30 = .ok (.newarray .int, 2) := by decide +kernel
theorem d_P_init_32 : decode b_P_init 32 = .ok (.putfield 25, 3) := by decide +kernel
theorem d_P_init_35 : decode b_P_init 35 = .ok (.aload_n 0, 1) := by decide +kernel
theorem d_P_init_36 : decode b_P_init 36 = .ok (.iload_n 1, 1) := by decide +kernel
theorem d_P_init_37 : decode b_P_init 37 = .ok (.newarray .int, 2) := by decide +kernel
theorem d_P_init_39 : decode b_P_init 39 = .ok (.putfield 28, 3) := by decide +kernel
theorem d_P_init_42 : decode b_P_init 42 = .ok (.aload_n 0, 1) := by decide +kernel
theorem d_P_init_43 : decode b_P_init 43 = .ok (.iload_n 2, 1) := by decide +kernel
theorem d_P_init_44 : decode b_P_init 44 = .ok (.iload_n 3, 1) := by decide +kernel
theorem d_P_init_45 : decode b_P_init 45 = .ok (.imul, 1) := by decide +kernel
theorem d_P_init_46 : decode b_P_init 46 = .ok (.newarray .int, 2) := by decide +kernel
theorem d_P_init_48 : decode b_P_init 48 = .ok (.putfield 31, 3) := by decide +kernel
theorem d_P_init_51 : decode b_P_init 51 = .ok (.return_, 1) := by decide +kernel
theorem d_P_kindOf_0 : decode b_P_kindOf 0 = .ok (.iload_n 0, 1) := by decide +kernel
theorem d_P_kindOf_1 : decode b_P_kindOf 1 = .ok (.bipush 100, 2) := by decide +kernel
theorem d_P_kindOf_3 : decode b_P_kindOf 3 = .ok (.idiv, 1) := by decide +kernel
theorem d_P_kindOf_4 : decode b_P_kindOf 4 = .ok (.bipush 100, 2) := by decide +kernel
theorem d_P_kindOf_6 : decode b_P_kindOf 6 = .ok (.imul, 1) := by decide +kernel
theorem d_P_kindOf_7 : decode b_P_kindOf 7 = .ok (.ireturn, 1) := by decide +kernel
theorem d_P_fromOf_0 : decode b_P_fromOf 0 = .ok (.iload_n 0, 1) := by decide +kernel
theorem d_P_fromOf_1 : decode b_P_fromOf 1 = .ok (.bipush 10, 2) := by decide +kernel
theorem d_P_fromOf_3 : decode b_P_fromOf 3 = .ok (.idiv, 1) := by decide +kernel
theorem d_P_fromOf_4 : decode b_P_fromOf 4 = .ok (.bipush 10, 2) := by decide +kernel
theorem d_P_fromOf_6 : decode b_P_fromOf 6 = .ok (.irem, 1) := by decide +kernel
theorem d_P_fromOf_7 : decode b_P_fromOf 7 = .ok (.ireturn, 1) := by decide +kernel
theorem d_P_toOf_0 : decode b_P_toOf 0 = .ok (.iload_n 0, 1) := by decide +kernel
theorem d_P_toOf_1 : decode b_P_toOf 1 = .ok (.bipush 10, 2) := by decide +kernel
theorem d_P_toOf_3 : decode b_P_toOf 3 = .ok (.irem, 1) := by decide +kernel
theorem d_P_toOf_4 : decode b_P_toOf 4 = .ok (.ireturn, 1) := by decide +kernel
theorem d_P_codeAt_0 : decode b_P_codeAt 0 = .ok (.aload_n 0, 1) := by decide +kernel
theorem d_P_codeAt_1 : decode b_P_codeAt 1 = .ok (.getfield 31, 3) := by decide +kernel
theorem d_P_codeAt_4 : decode b_P_codeAt 4 = .ok (.iload_n 1, 1) := by decide +kernel
theorem d_P_codeAt_5 : decode b_P_codeAt 5 = .ok (.aload_n 0, 1) := by decide +kernel
theorem d_P_codeAt_6 : decode b_P_codeAt 6 = .ok (.getfield 15, 3) := by decide +kernel
theorem d_P_codeAt_9 : decode b_P_codeAt 9 = .ok (.imul, 1) := by decide +kernel
theorem d_P_codeAt_10 : decode b_P_codeAt 10 = .ok (.iload_n 2, 1) := by decide +kernel
theorem d_P_codeAt_11 : decode b_P_codeAt 11 = .ok (.iadd, 1) := by decide +kernel
theorem d_P_codeAt_12 : decode b_P_codeAt 12 = .ok (.iaload, 1) := by decide +kernel
theorem d_P_codeAt_13 : decode b_P_codeAt 13 = .ok (.ireturn, 1) := by decide +kernel
theorem d_P_make_0 : decode b_P_make 0 = .ok (.aload_n 0, 1) := by decide +kernel
theorem d_P_make_1 : decode b_P_make 1 = .ok (.iconst 0, 1) := by decide +kernel
theorem d_P_make_2 : decode b_P_make 2 = .ok (.putfield 34, 3) := by decide +kernel
theorem d_P_make_5 : decode b_P_make 5 = .ok (.aload_n 0, 1) := by decide +kernel
theorem d_P_make_6 : decode b_P_make 6 = .ok (.iconst 0, 1) := by decide +kernel
theorem d_P_make_7 : decode b_P_make 7 = .ok (.putfield 38, 3) := by decide +kernel
theorem d_P_make_10 : decode b_P_make 10 = .ok (.aload_n 0, 1) := by decide +kernel
theorem d_P_make_11 : decode b_P_make 11 = .ok (.getfield 31, 3) := by decide +kernel
theorem d_P_make_14 : decode b_P_make 14 = .ok (.iconst 0, 1) := by decide +kernel
theorem d_P_make_15 : decode b_P_make 15 = .ok (.invokestatic 41, 3) := by decide +kernel
theorem d_P_make_18 : decode b_P_make 18 = .ok (.aload_n 0, 1) := by decide +kernel
theorem d_P_make_19 : decode b_P_make 19 = .ok (.aload_n 1, 1) := by decide +kernel
theorem d_P_make_20 : decode b_P_make 20 = .ok (.invokevirtual 47, 3) := by decide +kernel
theorem d_P_make_23 : decode b_P_make 23 = .ok (.ifCond .ne 5, 3) := by decide +kernel
theorem d_P_make_26 : decode b_P_make 26 = .ok (.iconst 0, 1) := by decide +kernel
theorem d_P_make_27 : decode b_P_make 27 = .ok (.ireturn, 1) := by decide +kernel
theorem d_P_make_28 : decode b_P_make 28 = .ok (.aload_n 0, 1) := by decide +kernel
theorem d_P_make_29 : decode b_P_make 29 = .ok (.aload_n 1, 1) := by decide +kernel
theorem d_P_make_30 : decode b_P_make 30 = .ok (.invokevirtual 51, 3) := by decide +kernel
theorem d_P_make_33 : decode b_P_make 33 = .ok (.aload_n 0, 1) := by decide +kernel
theorem d_P_make_34 : decode b_P_make 34 = .ok (.aload_n 0, 1) := by decide +kernel
theorem d_P_make_35 : decode b_P_make 35 = .ok (.invokevirtual 55, 3) := by decide +kernel
theorem d_P_make_38 : decode b_P_make 38 = .ok (.ifCond .eq 14, 3) := by decide +kernel
theorem d_P_make_41 : decode b_P_make 41 = .ok (.aload_n 0, 1) := by decide +kernel
theorem d_P_make_42 : decode b_P_make 42 = .ok (.invokevirtual 59, 3) := by decide +kernel
theorem d_P_make_45 : decode b_P_make 45 = .ok (.ifCond .eq 7, 3) := by decide +kernel
theorem d_P_make_48 : decode b_P_make 48 = .ok (.iconst 1, 1) := by decide +kernel
theorem d_P_make_49 : decode b_P_make 49 = .ok (.goto 4, 3) := by decide +kernel
theorem d_P_make_52 : decode b_P_make 52 = .ok (.iconst 0, 1) := by decide +kernel
theorem d_P_make_53 : decode b_P_make 53 = .ok (.putfield 34, 3) := by decide +kernel
theorem d_P_make_56 : decode b_P_make 56 = .ok (.aload_n 0, 1) := by decide +kernel
theorem d_P_make_57 : decode b_P_make 57 = .ok (.getfield 34, 3) := by decide +kernel
theorem d_P_make_60 : decode b_P_make 60 = .ok (.ireturn, 1) := by decide +kernel
theorem d_P_leadsUp_0 : decode b_P_leadsUp 0 = .ok (.iload_n 1, 1) := by decide +kernel
theorem d_P_leadsUp_1 : decode b_P_leadsUp 1 = .ok (.istore_n 3, 1) := by decide +kernel
theorem d_P_leadsUp_2 : decode b_P_leadsUp 2 = .ok (.iconst 0, 1) := by decide +kernel
theorem d_P_leadsUp_3 : decode b_P_leadsUp 3 = .ok (.istore 4, 2) := by decide +kernel
theorem d_P_leadsUp_5 : decode b_P_leadsUp 5 = .ok (.iload 4, 2) := by decide +kernel
theorem d_P_leadsUp_7 : decode b_P_leadsUp 7 = .ok (.aload_n 0, 1) := by decide +kernel
theorem d_P_leadsUp_8 : decode b_P_leadsUp 8 = .ok (.getfield 22, 3) := by decide +kernel
theorem d_P_leadsUp_11 : decode b_P_leadsUp 11 = .ok (.arraylength, 1) := by decide +kernel
theorem d_P_leadsUp_12 : decode b_P_leadsUp 12 = .ok (.if_icmp .ge 28, 3) := by decide +kernel
theorem d_P_leadsUp_15 : decode b_P_leadsUp 15 = .ok (.iload_n 3, 1) := by decide +kernel
theorem d_P_leadsUp_16 : decode b_P_leadsUp 16 = .ok (.iconst (-1), 1) := by decide +kernel
theorem d_P_leadsUp_17 : decode b_P_leadsUp 17 = .ok (.if_icmp .eq 23, 3) := by decide +kernel
theorem d_P_leadsUp_20 : decode b_P_leadsUp 20 = .ok (.iload_n 3, 1) := by decide +kernel
theorem d_P_leadsUp_21 : decode b_P_leadsUp 21 = .ok (.iload_n 2, 1) := by decide +kernel
theorem d_P_leadsUp_22 : decode b_P_leadsUp 22 = .ok (.if_icmp .ne 5, 3) := by decide +kernel
theorem d_P_leadsUp_25 : decode b_P_leadsUp 25 = .ok (.iconst 1, 1) := by decide +kernel
theorem d_P_leadsUp_26 : decode b_P_leadsUp 26 = .ok (.ireturn, 1) := by decide +kernel
theorem d_P_leadsUp_27 : decode b_P_leadsUp 27 = .ok (.aload_n 0, 1) := by decide +kernel
theorem d_P_leadsUp_28 : decode b_P_leadsUp 28 = .ok (.getfield 22, 3) := by decide +kernel
theorem d_P_leadsUp_31 : decode b_P_leadsUp 31 = .ok (.iload_n 3, 1) := by decide +kernel
theorem d_P_leadsUp_32 : decode b_P_leadsUp 32 = .ok (.iaload, 1) := by decide +kernel
theorem d_P_leadsUp_33 : decode b_P_leadsUp 33 = .ok (.istore_n 3, 1) := by decide +kernel
theorem d_P_leadsUp_34 : decode b_P_leadsUp 34 = .ok (.iinc 4 1, 3) := by decide +kernel
theorem d_P_leadsUp_37 : decode b_P_leadsUp 37 = .ok (.goto (-32), 3) := by decide +kernel
theorem d_P_leadsUp_40 : decode b_P_leadsUp 40 = .ok (.iconst 0, 1) := by decide +kernel
theorem d_P_leadsUp_41 : decode b_P_leadsUp 41 = .ok (.ireturn, 1) := by decide +kernel
theorem d_P_findRanks_0 : decode b_P_findRanks 0 = .ok (.aload_n 0, 1) := by decide +kernel
theorem d_P_findRanks_1 : decode b_P_findRanks 1 = .ok (.getfield 18, 3) := by decide +kernel
theorem d_P_findRanks_4 : decode b_P_findRanks 4 = .ok (.iconst (-1), 1) := by decide +kernel
theorem d_P_findRanks_5 : decode b_P_findRanks 5 = .ok (.invokestatic 41, 3) := by decide +kernel
theorem d_P_findRanks_8 : decode b_P_findRanks 8 = .ok (.aload_n 0, 1) := by decide +kernel
theorem d_P_findRanks_9 : decode b_P_findRanks 9 = .ok (.getfield 18, 3) := by decide +kernel
theorem d_P_findRanks_12 : decode b_P_findRanks 12 = .ok (.iconst 0, 1) := by decide +kernel
theorem d_P_findRanks_13 : decode b_P_findRanks 13 = .ok (.iconst 0, 1) := by decide +kernel
theorem d_P_findRanks_14 : decode b_P_findRanks 14 = .ok (.iastore, 1) := by decide +kernel
theorem d_P_findRanks_15 : decode b_P_findRanks 15 = .ok (.aload_n 0, 1) := by decide +kernel
theorem d_P_findRanks_16 : decode b_P_findRanks 16 = .ok (.getfield 28, 3) := by decide +kernel
theorem d_P_findRanks_19 : decode b_P_findRanks 19 = .ok (.iconst 0, 1) := by decide +kernel
theorem d_P_findRanks_20 : decode b_P_findRanks 20 = .ok (.iconst 0, 1) := by decide +kernel
theorem d_P_findRanks_21 : decode b_P_findRanks 21 = .ok (.iastore, 1) := by decide +kernel
theorem d_P_findRanks_22 : decode b_P_findRanks 22 = .ok (.iconst 1, 1) := by decide +kernel
theorem d_P_findRanks_23 : decode b_P_findRanks 23 = .ok (.istore_n 2, 1) := by decide +kernel
theorem d_P_findRanks_24 : decode b_P_findRanks 24 = .ok (.iconst 1, 1) := by decide +kernel
theorem d_P_findRanks_25 : decode b_P_findRanks 25 = .ok (.istore_n 3, 1) := by decide +kernel
theorem d_P_findRanks_26 : decode b_P_findRanks 26 = .ok (.iload_n 3, 1) := by decide +kernel
theorem d_P_findRanks_27 : decode b_P_findRanks 27 = .ok (.aload_n 1, 1) := by decide +kernel
theorem d_P_findRanks_28 : decode b_P_findRanks 28 = .ok (.arraylength, 1) := by decide +kernel
theorem d_P_findRanks_29 : decode b_P_findRanks 29 = .ok (.if_icmp .ge 71, 3) := by decide +kernel
theorem d_P_findRanks_32 : decode b_P_findRanks 32 = .ok (.iconst 0, 1) := by decide +kernel
theorem d_P_findRanks_33 : decode b_P_findRanks 33 = .ok (.istore 4, 2) := by decide +kernel
theorem d_P_findRanks_35 : decode b_P_findRanks 35 = .ok (.iload 4, 2) := by decide +kernel
theorem d_P_findRanks_37 : decode b_P_findRanks 37 = .ok (.aload_n 1, 1) := by decide +kernel
theorem d_P_findRanks_38 : decode b_P_findRanks 38 = .ok (.arraylength, 1) := by decide +kernel
theorem d_P_findRanks_39 : decode b_P_findRanks 39 = .ok (.if_icmp .ge 55, 3) := by decide +kernel
theorem d_P_findRanks_42 : decode b_P_findRanks 42 = .ok (.aload_n 0, 1) := by decide +kernel
theorem d_P_findRanks_43 : decode b_P_findRanks 43 = .ok (.getfield 18, 3) := by decide +kernel
theorem d_P_findRanks_46 : decode b_P_findRanks 46 = .ok (.iload 4, 2) := by decide +kernel
