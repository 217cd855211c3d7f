theorem dX11_accept_84 : decode cX11_accept 84 = .ok (.dup2, 1) := by decide +kernel
theorem dX11_accept_85 : decode cX11_accept 85 = .ok (.iaload, 1) := by decide +kernel
theorem dX11_accept_86 : decode cX11_accept 86 = .ok (.aload_n 0, 1) := by decide +kernel
theorem dX11_accept_87 : decode cX11_accept 87 = .ok (.getfield 87, 3) := by decide +kernel
theorem dX11_accept_90 : decode cX11_accept 90 = .ok (.iconst 5, 1) := by decide +kernel
theorem dX11_accept_91 : decode cX11_accept 91 = .ok (.iaload, 1) := by decide +kernel
theorem dX11_accept_92 : decode cX11_accept 92 = .ok (.iconst 1, 1) := by decide +kernel
theorem dX11_accept_93 : decode cX11_accept 93 = .ok (.if_icmp .ne 8, 3) := by decide +kernel
theorem dX11_accept_96 : decode cX11_accept 96 = .ok (.iload 5, 2) := by decide +kernel
theorem dX11_accept_98 : decode cX11_accept 98 = .ok (.goto 4, 3) := by decide +kernel
theorem dX11_accept_101 : decode cX11_accept 101 = .ok (.iconst 0, 1) := by decide +kernel
theorem dX11_accept_102 : decode cX11_accept 102 = .ok (.ior, 1) := by decide +kernel
theorem dX11_accept_103 : decode cX11_accept 103 = .ok (.iastore, 1) := by decide +kernel
theorem dX11_accept_104 : decode cX11_accept 104 = .ok (.aload_n 0, 1) := by decide +kernel
theorem dX11_accept_105 : decode cX11_accept 105 = .ok (.getfield 72, 3) := by decide +kernel
theorem dX11_accept_108 : decode cX11_accept 108 = .ok (.iload 6, 2) := by decide +kernel
theorem dX11_accept_110 : decode cX11_accept 110 = .ok (.dup2, 1) := by decide +kernel
theorem dX11_accept_111 : decode cX11_accept 111 = .ok (.iaload, 1) := by decide +kernel
theorem dX11_accept_112 : decode cX11_accept 112 = .ok (.aload_n 0, 1) := by decide +kernel
theorem dX11_accept_113 : decode cX11_accept 113 = .ok (.getfield 87, 3) := by decide +kernel
theorem dX11_accept_116 : decode cX11_accept 116 = .ok (.iconst 5, 1) := by decide +kernel
theorem dX11_accept_117 : decode cX11_accept 117 = .ok (.iaload, 1) := by decide +kernel
theorem dX11_accept_118 : decode cX11_accept 118 = .ok (.iconst 2, 1) := by decide +kernel
theorem dX11_accept_119 : decode cX11_accept 119 = .ok (.if_icmp .ne 8, 3) := by decide +kernel
theorem dX11_accept_122 : decode cX11_accept 122 = .ok (.iload 5, 2) := by decide +kernel
theorem dX11_accept_124 : decode cX11_accept 124 = .ok (.goto 4, 3) := by decide +kernel
theorem dX11_accept_127 : decode cX11_accept 127 = .ok (.iconst 0, 1) := by decide +kernel
theorem dX11_accept_128 : decode cX11_accept 128 = .ok (.ior, 1) := by decide +kernel
theorem dX11_accept_129 : decode cX11_accept 129 = .ok (.iastore, 1) := by decide +kernel
theorem dX11_accept_130 : decode cX11_accept 130 = .ok (.iconst 1, 1) := by decide +kernel
theorem dX11_accept_131 : decode cX11_accept 131 = .ok (.istore 7, 2) := by decide +kernel
theorem dX11_accept_133 : decode cX11_accept 133 = .ok (.iconst 0, 1) := by decide +kernel
theorem dX11_accept_134 : decode cX11_accept 134 = .ok (.istore 8, 2) := by decide +kernel
theorem dX11_accept_136 : decode cX11_accept 136 = .ok (.iconst 0, 1) := by decide +kernel
theorem dX11_accept_137 : decode cX11_accept 137 = .ok (.istore 9, 2) := by decide +kernel
theorem dX11_accept_139 : decode cX11_accept 139 = .ok (.iload 9, 2) := by decide +kernel
theorem dX11_accept_141 : decode cX11_accept 141 = .ok (.aload_n 0, 1) := by decide +kernel
theorem dX11_accept_142 : decode cX11_accept 142 = .ok (.getfield 97, 3) := by decide +kernel
theorem dX11_accept_145 : decode cX11_accept 145 = .ok (.if_icmp .ge 79, 3) := by decide +kernel
theorem dX11_accept_148 : decode cX11_accept 148 = .ok (.aload_n 0, 1) := by decide +kernel
theorem dX11_accept_149 : decode cX11_accept 149 = .ok (.iload_n 2, 1) := by decide +kernel
theorem dX11_accept_150 : decode cX11_accept 150 = .ok (.iload 9, 2) := by decide +kernel
theorem dX11_accept_152 : decode cX11_accept 152 = .ok (.invokevirtual 128, 3) := by decide +kernel
theorem dX11_accept_155 : decode cX11_accept 155 = .ok (.ifCond .eq 63, 3) := by decide +kernel
theorem dX11_accept_158 : decode cX11_accept 158 = .ok (.iload 7, 2) := by decide +kernel
theorem dX11_accept_160 : decode cX11_accept 160 = .ok (.ifCond .eq 25, 3) := by decide +kernel
theorem dX11_accept_163 : decode cX11_accept 163 = .ok (.aload_n 0, 1) := by decide +kernel
theorem dX11_accept_164 : decode cX11_accept 164 = .ok (.aload_n 0, 1) := by decide +kernel
theorem dX11_accept_165 : decode cX11_accept 165 = .ok (.getfield 69, 3) := by decide +kernel
theorem dX11_accept_168 : decode cX11_accept 168 = .ok (.iconst 4, 1) := by decide +kernel
theorem dX11_accept_169 : decode cX11_accept 169 = .ok (.iload_n 3, 1) := by decide +kernel
theorem dX11_accept_170 : decode cX11_accept 170 = .ok (.imul, 1) := by decide +kernel
theorem dX11_accept_171 : decode cX11_accept 171 = .ok (.iload 9, 2) := by decide +kernel
theorem dX11_accept_173 : decode cX11_accept 173 = .ok (.iadd, 1) := by decide +kernel
theorem dX11_accept_174 : decode cX11_accept 174 = .ok (.iaload, 1) := by decide +kernel
theorem dX11_accept_175 : decode cX11_accept 175 = .ok (.invokevirtual 202, 3) := by decide +kernel
theorem dX11_accept_178 : decode cX11_accept 178 = .ok (.ifCond .eq 7, 3) := by decide +kernel
theorem dX11_accept_181 : decode cX11_accept 181 = .ok (.iconst 1, 1) := by decide +kernel
theorem dX11_accept_182 : decode cX11_accept 182 = .ok (.goto 4, 3) := by decide +kernel
theorem dX11_accept_185 : decode cX11_accept 185 = .ok (.iconst 0, 1) := by decide +kernel
theorem dX11_accept_186 : decode cX11_accept 186 = .ok (.istore 7, 2) := by decide +kernel
theorem dX11_accept_188 : decode cX11_accept 188 = .ok (.iload 8, 2) := by decide +kernel
theorem dX11_accept_190 : decode cX11_accept 190 = .ok (.ifCond .ne 21, 3) := by decide +kernel
theorem dX11_accept_193 : decode cX11_accept 193 = .ok (.aload_n 0, 1) := by decide +kernel
theorem dX11_accept_194 : decode cX11_accept 194 = .ok (.aload_n 0, 1) := by decide +kernel
theorem dX11_accept_195 : decode cX11_accept 195 = .ok (.getfield 72, 3) := by decide +kernel
theorem dX11_accept_198 : decode cX11_accept 198 = .ok (.iconst 4, 1) := by decide +kernel
theorem dX11_accept_199 : decode cX11_accept 199 = .ok (.iload_n 3, 1) := by decide +kernel
theorem dX11_accept_200 : decode cX11_accept 200 = .ok (.imul, 1) := by decide +kernel
theorem dX11_accept_201 : decode cX11_accept 201 = .ok (.iload 9, 2) := by decide +kernel
theorem dX11_accept_203 : decode cX11_accept 203 = .ok (.iadd, 1) := by decide +kernel
theorem dX11_accept_204 : decode cX11_accept 204 = .ok (.iaload, 1) := by decide +kernel
theorem dX11_accept_205 : decode cX11_accept 205 = .ok (.invokevirtual 202, 3) := by decide +kernel
theorem dX11_accept_208 : decode cX11_accept 208 = .ok (.ifCond .eq 7, 3) := by decide +kernel
theorem dX11_accept_211 : decode cX11_accept 211 = .ok (.iconst 1, 1) := by decide +kernel
theorem dX11_accept_212 : decode cX11_accept 212 = .ok (.goto 4, 3) := by decide +kernel
theorem dX11_accept_215 : decode cX11_accept 215 = .ok (.iconst 0, 1) := by decide +kernel
theorem dX11_accept_216 : decode cX11_accept 216 = .ok (.istore 8, 2) := by decide +kernel
theorem dX11_accept_218 : decode cX11_accept 218 = .ok (.iinc 9 1, 3) := by decide +kernel
theorem dX11_accept_221 : decode cX11_accept 221 = .ok (.goto (-82), 3) := by decide +kernel
theorem dX11_accept_224 : decode cX11_accept 224 = .ok (.iload 8, 2) := by decide +kernel
theorem dX11_accept_226 : decode cX11_accept 226 = .ok (.ifCond .ne 9, 3) := by decide +kernel
theorem dX11_accept_229 : decode cX11_accept 229 = .ok (.iload 7, 2) := by decide +kernel
theorem dX11_accept_231 : decode cX11_accept 231 = .ok (.ifCond .ne 4, 3) := by decide +kernel
theorem dX11_accept_234 : decode cX11_accept 234 = .ok (.return_, 1) := by decide +kernel
theorem dX11_accept_235 : decode cX11_accept 235 = .ok (.aload_n 0, 1) := by decide +kernel
theorem dX11_accept_236 : decode cX11_accept 236 = .ok (.getfield 57, 3) := by decide +kernel
theorem dX11_accept_239 : decode cX11_accept 239 = .ok (.iload_n 3, 1) := by decide +kernel
theorem dX11_accept_240 : decode cX11_accept 240 = .ok (.iload 8, 2) := by decide +kernel
theorem dX11_accept_242 : decode cX11_accept 242 = .ok (.ifCond .eq 7, 3) := by decide +kernel
theorem dX11_accept_245 : decode cX11_accept 245 = .ok (.iconst 4, 1) := by decide +kernel
theorem dX11_accept_246 : decode cX11_accept 246 = .ok (.goto 4, 3) := by decide +kernel
theorem dX11_accept_249 : decode cX11_accept 249 = .ok (.iconst 3, 1) := by decide +kernel
theorem dX11_accept_250 : decode cX11_accept 250 = .ok (.iastore, 1) := by decide +kernel
theorem dX11_accept_251 : decode cX11_accept 251 = .ok (.iconst 0, 1) := by decide +kernel
theorem dX11_accept_252 : decode cX11_accept 252 = .ok (.istore 9, 2) := by decide +kernel
theorem dX11_accept_254 : decode cX11_accept 254 = .ok (.iload 9, 2) := by decide +kernel
theorem dX11_accept_256 : decode cX11_accept 256 = .ok (.aload_n 0, 1) := by decide +kernel
theorem dX11_accept_257 : decode cX11_accept 257 = .ok (.getfield 97, 3) := by decide +kernel
theorem dX11_accept_260 : decode cX11_accept 260 = .ok (.if_icmp .ge 39, 3) := by decide +kernel
theorem dX11_accept_263 : decode cX11_accept 263 = .ok (.aload_n 0, 1) := by decide +kernel
theorem dX11_accept_264 : decode cX11_accept 264 = .ok (.iload_n 2, 1) := by decide +kernel
theorem dX11_accept_265 : decode cX11_accept 265 = .ok (.iload 9, 2) := by decide +kernel
theorem dX11_accept_267 : decode cX11_accept 267 = .ok (.invokevirtual 128, 3) := by decide +kernel
theorem dX11_accept_270 : decode cX11_accept 270 = .ok (.ifCond .eq 23, 3) := by decide +kernel
theorem dX11_accept_273 : decode cX11_accept 273 = .ok (.aload_n 0, 1) := by decide +kernel
theorem dX11_accept_274 : decode cX11_accept 274 = .ok (.bipush 6, 2) := by decide +kernel
theorem dX11_accept_276 : decode cX11_accept 276 = .ok (.iload 9, 2) := by decide +kernel
theorem dX11_accept_278 : decode cX11_accept 278 = .ok (.iload_n 2, 1) := by decide +kernel
theorem dX11_accept_279 : decode cX11_accept 279 = .ok (.iconst 0, 1) := by decide +kernel
theorem dX11_accept_280 : decode cX11_accept 280 = .ok (.iconst 0, 1) := by decide +kernel
theorem dX11_accept_281 : decode cX11_accept 281 = .ok (.aload_n 0, 1) := by decide +kernel
theorem dX11_accept_282 : decode cX11_accept 282 = .ok (.getfield 57, 3) := by decide +kernel
theorem dX11_accept_285 : decode cX11_accept 285 = .ok (.iload_n 3, 1) := by decide +kernel
theorem dX11_accept_286 : decode cX11_accept 286 = .ok (.iaload, 1) := by decide +kernel
theorem dX11_accept_287 : decode cX11_accept 287 = .ok (.iload_n 1, 1) := by decide +kernel
theorem dX11_accept_288 : decode cX11_accept 288 = .ok (.invokevirtual 146, 3) := by decide +kernel
theorem dX11_accept_291 : decode cX11_accept 291 = .ok (.istore 10, 2) := by decide +kernel
theorem dX11_accept_293 : decode cX11_accept 293 = .ok (.iinc 9 1, 3) := by decide +kernel
theorem dX11_accept_296 : decode cX11_accept 296 = .ok (.goto (-42), 3) := by decide +kernel
theorem dX11_accept_299 : decode cX11_accept 299 = .ok (.aload_n 0, 1) := by decide +kernel
theorem dX11_accept_300 : decode cX11_accept 300 = .ok (.bipush 6, 2) := by decide +kernel
theorem dX11_accept_302 : decode cX11_accept 302 = .ok (.aload_n 0, 1) := by decide +kernel
theorem dX11_accept_303 : decode cX11_accept 303 = .ok (.getfield 97, 3) := by decide +kernel
theorem dX11_accept_306 : decode cX11_accept 306 = .ok (.aload_n 0, 1) := by decide +kernel
theorem dX11_accept_307 : decode cX11_accept 307 = .ok (.getfield 101, 3) := by decide +kernel
theorem dX11_accept_310 : decode cX11_accept 310 = .ok (.iadd, 1) := by decide +kernel
theorem dX11_accept_311 : decode cX11_accept 311 = .ok (.iload_n 2, 1) := by decide +kernel
theorem dX11_accept_312 : decode cX11_accept 312 = .ok (.iconst 0, 1) := by decide +kernel
theorem dX11_accept_313 : decode cX11_accept 313 = .ok (.iconst 0, 1) := by decide +kernel
theorem dX11_accept_314 : decode cX11_accept 314 = .ok (.aload_n 0, 1) := by decide +kernel
theorem dX11_accept_315 : decode cX11_accept 315 = .ok (.getfield 57, 3) := by decide +kernel
theorem dX11_accept_318 : decode cX11_accept 318 = .ok (.iload_n 3, 1) := by decide +kernel
theorem dX11_accept_319 : decode cX11_accept 319 = .ok (.iaload, 1) := by decide +kernel
theorem dX11_accept_320 : decode cX11_accept 320 = .ok (.iload_n 1, 1) := by decide +kernel
theorem dX11_accept_321 : decode cX11_accept 321 = .ok (.invokevirtual 146, 3) := by decide +kernel
theorem dX11_accept_324 : decode cX11_accept 324 = .ok (.istore 9, 2) := by decide +kernel
theorem dX11_accept_326 : decode cX11_accept 326 = .ok (.return_, 1) := by decide +kernel
theorem dX11_answer_0 : decode cX11_answer 0 = .ok (.aload_n 0, 1) := by decide +kernel
theorem dX11_answer_1 : decode cX11_answer 1 = .ok (.getfield 87, 3) := by decide +kernel
theorem dX11_answer_4 : decode cX11_answer 4 = .ok (.iconst 3, 1) := by decide +kernel
theorem dX11_answer_5 : decode cX11_answer 5 = .ok (.iaload, 1) := by decide +kernel
theorem dX11_answer_6 : decode cX11_answer 6 = .ok (.istore 4, 2) := by decide +kernel
theorem dX11_answer_8 : decode cX11_answer 8 = .ok (.iload 4, 2) := by decide +kernel
theorem dX11_answer_10 : decode cX11_answer 10 = .ok (.aload_n 0, 1) := by decide +kernel
theorem dX11_answer_11 : decode cX11_answer 11 = .ok (.getfield 51, 3) := by decide +kernel
theorem dX11_answer_14 : decode cX11_answer 14 = .ok (.iload_n 3, 1) := by decide +kernel
theorem dX11_answer_15 : decode cX11_answer 15 = .ok (.iaload, 1) := by decide +kernel
theorem dX11_answer_16 : decode cX11_answer 16 = .ok (.if_icmp .ge 5, 3) := by decide +kernel
theorem dX11_answer_19 : decode cX11_answer 19 = .ok (.iconst 1, 1) := by decide +kernel
theorem dX11_answer_20 : decode cX11_answer 20 = .ok (.ireturn, 1) := by decide +kernel
theorem dX11_answer_21 : decode cX11_answer 21 = .ok (.iload 4, 2) := by decide +kernel
theorem dX11_answer_23 : decode cX11_answer 23 = .ok (.aload_n 0, 1) := by decide +kernel
theorem dX11_answer_24 : decode cX11_answer 24 = .ok (.getfield 51, 3) := by decide +kernel
theorem dX11_answer_27 : decode cX11_answer 27 = .ok (.iload_n 3, 1) := by decide +kernel
theorem dX11_answer_28 : decode cX11_answer 28 = .ok (.iaload, 1) := by decide +kernel
theorem dX11_answer_29 : decode cX11_answer 29 = .ok (.if_icmp .le 26, 3) := by decide +kernel
theorem dX11_answer_32 : decode cX11_answer 32 = .ok (.aload_n 0, 1) := by decide +kernel
theorem dX11_answer_33 : decode cX11_answer 33 = .ok (.iload_n 1, 1) := by decide +kernel
theorem dX11_answer_34 : decode cX11_answer 34 = .ok (.iconst 3, 1) := by decide +kernel
theorem dX11_answer_35 : decode cX11_answer 35 = .ok (.iload_n 2, 1) := by decide +kernel
theorem dX11_answer_36 : decode cX11_answer 36 = .ok (.iload 4, 2) := by decide +kernel
theorem dX11_answer_38 : decode cX11_answer 38 = .ok (.iconst 0, 1) := by decide +kernel
theorem dX11_answer_39 : decode cX11_answer 39 = .ok (.invokevirtual 194, 3) := by decide +kernel
theorem dX11_answer_42 : decode cX11_answer 42 = .ok (.ifCond .ne 5, 3) := by decide +kernel
theorem dX11_answer_45 : decode cX11_answer 45 = .ok (.iconst 0, 1) := by decide +kernel
theorem dX11_answer_46 : decode cX11_answer 46 = .ok (.ireturn, 1) := by decide +kernel
theorem dX11_answer_47 : decode cX11_answer 47 = .ok (.aload_n 0, 1) := by decide +kernel
theorem dX11_answer_48 : decode cX11_answer 48 = .ok (.getfield 51, 3) := by decide +kernel
theorem dX11_answer_51 : decode cX11_answer 51 = .ok (.iload_n 3, 1) := by decide +kernel
theorem dX11_answer_52 : decode cX11_answer 52 = .ok (.iload 4, 2) := by decide +kernel
theorem dX11_answer_54 : decode cX11_answer 54 = .ok (.iastore, 1) := by decide +kernel
theorem dX11_answer_55 : decode cX11_answer 55 = .ok (.aload_n 0, 1) := by decide +kernel
theorem dX11_answer_56 : decode cX11_answer 56 = .ok (.iconst 5, 1) := by decide +kernel
theorem dX11_answer_57 : decode cX11_answer 57 = .ok (.aload_n 0, 1) := by decide +kernel
theorem dX11_answer_58 : decode cX11_answer 58 = .ok (.getfield 97, 3) := by decide +kernel
theorem dX11_answer_61 : decode cX11_answer 61 = .ok (.iload 4, 2) := by decide +kernel
theorem dX11_answer_63 : decode cX11_answer 63 = .ok (.aload_n 0, 1) := by decide +kernel
theorem dX11_answer_64 : decode cX11_answer 64 = .ok (.getfield 101, 3) := by decide +kernel
theorem dX11_answer_67 : decode cX11_answer 67 = .ok (.irem, 1) := by decide +kernel
theorem dX11_answer_68 : decode cX11_answer 68 = .ok (.iadd, 1) := by decide +kernel
theorem dX11_answer_69 : decode cX11_answer 69 = .ok (.iload_n 2, 1) := by decide +kernel
theorem dX11_answer_70 : decode cX11_answer 70 = .ok (.iload 4, 2) := by decide +kernel
theorem dX11_answer_72 : decode cX11_answer 72 = .ok (.iconst 0, 1) := by decide +kernel
theorem dX11_answer_73 : decode cX11_answer 73 = .ok (.iconst 0, 1) := by decide +kernel
theorem dX11_answer_74 : decode cX11_answer 74 = .ok (.iload_n 1, 1) := by decide +kernel
theorem dX11_answer_75 : decode cX11_answer 75 = .ok (.invokevirtual 146, 3) := by decide +kernel
theorem dX11_answer_78 : decode cX11_answer 78 = .ok (.istore 5, 2) := by decide +kernel
theorem dX11_answer_80 : decode cX11_answer 80 = .ok (.iconst 0, 1) := by decide +kernel
theorem dX11_answer_81 : decode cX11_answer 81 = .ok (.istore 6, 2) := by decide +kernel
theorem dX11_answer_83 : decode cX11_answer 83 = .ok (.iload 6, 2) := by decide +kernel
theorem dX11_answer_85 : decode cX11_answer 85 = .ok (.iconst 4, 1) := by decide +kernel
theorem dX11_answer_86 : decode cX11_answer 86 = .ok (.if_icmp .ge 64, 3) := by decide +kernel
theorem dX11_answer_89 : decode cX11_answer 89 = .ok (.iload 5, 2) := by decide +kernel
theorem dX11_answer_91 : decode cX11_answer 91 = .ok (.ifCond .lt 59, 3) := by decide +kernel
theorem dX11_answer_94 : decode cX11_answer 94 = .ok (.aload_n 0, 1) := by decide +kernel
theorem dX11_answer_95 : decode cX11_answer 95 = .ok (.getfield 84, 3) := by decide +kernel
theorem dX11_answer_98 : decode cX11_answer 98 = .ok (.bipush 8, 2) := by decide +kernel
theorem dX11_answer_100 : decode cX11_answer 100 = .ok (.iload 5, 2) := by decide +kernel
theorem dX11_answer_102 : decode cX11_answer 102 = .ok (.imul, 1) := by decide +kernel
theorem dX11_answer_103 : decode cX11_answer 103 = .ok (.iload 6, 2) := by decide +kernel
theorem dX11_answer_105 : decode cX11_answer 105 = .ok (.iadd, 1) := by decide +kernel
theorem dX11_answer_106 : decode cX11_answer 106 = .ok (.aload_n 0, 1) := by decide +kernel
theorem dX11_answer_107 : decode cX11_answer 107 = .ok (.getfield 63, 3) := by decide +kernel
theorem dX11_answer_110 : decode cX11_answer 110 = .ok (.iconst 4, 1) := by decide +kernel
theorem dX11_answer_111 : decode cX11_answer 111 = .ok (.iload_n 3, 1) := by decide +kernel
theorem dX11_answer_112 : decode cX11_answer 112 = .ok (.imul, 1) := by decide +kernel
theorem dX11_answer_113 : decode cX11_answer 113 = .ok (.iload 6, 2) := by decide +kernel
theorem dX11_answer_115 : decode cX11_answer 115 = .ok (.iadd, 1) := by decide +kernel
theorem dX11_answer_116 : decode cX11_answer 116 = .ok (.iaload, 1) := by decide +kernel
theorem dX11_answer_117 : decode cX11_answer 117 = .ok (.iastore, 1) := by decide +kernel
theorem dX11_answer_118 : decode cX11_answer 118 = .ok (.aload_n 0, 1) := by decide +kernel
theorem dX11_answer_119 : decode cX11_answer 119 = .ok (.getfield 84, 3) := by decide +kernel
theorem dX11_answer_122 : decode cX11_answer 122 = .ok (.bipush 8, 2) := by decide +kernel
theorem dX11_answer_124 : decode cX11_answer 124 = .ok (.iload 5, 2) := by decide +kernel
theorem dX11_answer_126 : decode cX11_answer 126 = .ok (.imul, 1) := by decide +kernel
theorem dX11_answer_127 : decode cX11_answer 127 = .ok (.iconst 4, 1) := by decide +kernel
theorem dX11_answer_128 : decode cX11_answer 128 = .ok (.iadd, 1) := by decide +kernel
theorem dX11_answer_129 : decode cX11_answer 129 = .ok (.iload 6, 2) := by decide +kernel
theorem dX11_answer_131 : decode cX11_answer 131 = .ok (.iadd, 1) := by decide +kernel
theorem dX11_answer_132 : decode cX11_answer 132 = .ok (.aload_n 0, 1) := by decide +kernel
theorem dX11_answer_133 : decode cX11_answer 133 = .ok (.getfield 66, 3) := by decide +kernel
theorem dX11_answer_136 : decode cX11_answer 136 = .ok (.iconst 4, 1) := by decide +kernel
theorem dX11_answer_137 : decode cX11_answer 137 = .ok (.iload_n 3, 1) := by decide +kernel
theorem dX11_answer_138 : decode cX11_answer 138 = .ok (.imul, 1) := by decide +kernel
theorem dX11_answer_139 : decode cX11_answer 139 = .ok (.iload 6, 2) := by decide +kernel
theorem dX11_answer_141 : decode cX11_answer 141 = .ok (.iadd, 1) := by decide +kernel
theorem dX11_answer_142 : decode cX11_answer 142 = .ok (.iaload, 1) := by decide +kernel
theorem dX11_answer_143 : decode cX11_answer 143 = .ok (.iastore, 1) := by decide +kernel
theorem dX11_answer_144 : decode cX11_answer 144 = .ok (.iinc 6 1, 3) := by decide +kernel
theorem dX11_answer_147 : decode cX11_answer 147 = .ok (.goto (-64), 3) := by decide +kernel
theorem dX11_answer_150 : decode cX11_answer 150 = .ok (.iconst 1, 1) := by decide +kernel
theorem dX11_answer_151 : decode cX11_answer 151 = .ok (.ireturn, 1) := by decide +kernel
theorem dX11_promise_0 : decode cX11_promise 0 = .ok (.aload_n 0, 1) := by decide +kernel
theorem dX11_promise_1 : decode cX11_promise 1 = .ok (.getfield 87, 3) := by decide +kernel
theorem dX11_promise_4 : decode cX11_promise 4 = .ok (.iconst 3, 1) := by decide +kernel
theorem dX11_promise_5 : decode cX11_promise 5 = .ok (.iaload, 1) := by decide +kernel
theorem dX11_promise_6 : decode cX11_promise 6 = .ok (.istore 4, 2) := by decide +kernel
theorem dX11_promise_8 : decode cX11_promise 8 = .ok (.aload_n 0, 1) := by decide +kernel
theorem dX11_promise_9 : decode cX11_promise 9 = .ok (.getfield 54, 3) := by decide +kernel
theorem dX11_promise_12 : decode cX11_promise 12 = .ok (.iload_n 3, 1) := by decide +kernel
theorem dX11_promise_13 : decode cX11_promise 13 = .ok (.iaload, 1) := by decide +kernel
theorem dX11_promise_14 : decode cX11_promise 14 = .ok (.iload 4, 2) := by decide +kernel
theorem dX11_promise_16 : decode cX11_promise 16 = .ok (.if_icmp .ne 25, 3) := by decide +kernel
theorem dX11_promise_19 : decode cX11_promise 19 = .ok (.aload_n 0, 1) := by decide +kernel
theorem dX11_promise_20 : decode cX11_promise 20 = .ok (.getfield 57, 3) := by decide +kernel
theorem dX11_promise_23 : decode cX11_promise 23 = .ok (.iload_n 3, 1) := by decide +kernel
theorem dX11_promise_24 : decode cX11_promise 24 = .ok (.iaload, 1) := by decide +kernel
theorem dX11_promise_25 : decode cX11_promise 25 = .ok (.ifCond .ne 16, 3) := by decide +kernel
theorem dX11_promise_28 : decode cX11_promise 28 = .ok (.aload_n 0, 1) := by decide +kernel
theorem dX11_promise_29 : decode cX11_promise 29 = .ok (.aload_n 0, 1) := by decide +kernel
theorem dX11_promise_30 : decode cX11_promise 30 = .ok (.getfield 60, 3) := by decide +kernel
theorem dX11_promise_33 : decode cX11_promise 33 = .ok (.iload_n 3, 1) := by decide +kernel
theorem dX11_promise_34 : decode cX11_promise 34 = .ok (.iaload, 1) := by decide +kernel
theorem dX11_promise_35 : decode cX11_promise 35 = .ok (.invokevirtual 202, 3) := by decide +kernel
theorem dX11_promise_38 : decode cX11_promise 38 = .ok (.ifCond .eq 4, 3) := by decide +kernel
theorem dX11_promise_41 : decode cX11_promise 41 = .ok (.return_, 1) := by decide +kernel
theorem dX11_promise_42 : decode cX11_promise 42 = .ok (.aload_n 0, 1) := by decide +kernel
theorem dX11_promise_43 : decode cX11_promise 43 = .ok (.getfield 60, 3) := by decide +kernel
theorem dX11_promise_46 : decode cX11_promise 46 = .ok (.iload_n 3, 1) := by decide +kernel
theorem dX11_promise_47 : decode cX11_promise 47 = .ok (.dup2, 1) := by decide +kernel
theorem dX11_promise_48 : decode cX11_promise 48 = .ok (.iaload, 1) := by decide +kernel
theorem dX11_promise_49 : decode cX11_promise 49 = .ok (.iconst 1, 1) := by decide +kernel
theorem dX11_promise_50 : decode cX11_promise 50 = .ok (.aload_n 0, 1) := by decide +kernel
theorem dX11_promise_51 : decode cX11_promise 51 = .ok (.getfield 87, 3) := by decide +kernel
theorem dX11_promise_54 : decode cX11_promise 54 = .ok (.bipush 6, 2) := by decide +kernel
theorem dX11_promise_56 : decode cX11_promise 56 = .ok (.iaload, 1) := by decide +kernel
theorem dX11_promise_57 : decode cX11_promise 57 = .ok (.aload_n 0, 1) := by decide +kernel
theorem dX11_promise_58 : decode cX11_promise 58 = .ok (.getfield 97, 3) := by decide +kernel
theorem dX11_promise_61 : decode cX11_promise 61 = .ok (.isub, 1) := by decide +kernel
theorem dX11_promise_62 : decode cX11_promise 62 = .ok (.ishl, 1) := by decide +kernel
theorem dX11_promise_63 : decode cX11_promise 63 = .ok (.ior, 1) := by decide +kernel
theorem dX11_promise_64 : decode cX11_promise 64 = .ok (.iastore, 1) := by decide +kernel
theorem dX11_promise_65 : decode cX11_promise 65 = .ok (.iconst 0, 1) := by decide +kernel
theorem dX11_promise_66 : decode cX11_promise 66 = .ok (.istore 5, 2) := by decide +kernel
theorem dX11_promise_68 : decode cX11_promise 68 = .ok (.iload 5, 2) := by decide +kernel
theorem dX11_promise_70 : decode cX11_promise 70 = .ok (.iconst 4, 1) := by decide +kernel
theorem dX11_promise_71 : decode cX11_promise 71 = .ok (.if_icmp .ge 68, 3) := by decide +kernel
theorem dX11_promise_74 : decode cX11_promise 74 = .ok (.aload_n 0, 1) := by decide +kernel
theorem dX11_promise_75 : decode cX11_promise 75 = .ok (.getfield 90, 3) := by decide +kernel
theorem dX11_promise_78 : decode cX11_promise 78 = .ok (.iload 5, 2) := by decide +kernel
theorem dX11_promise_80 : decode cX11_promise 80 = .ok (.iaload, 1) := by decide +kernel
theorem dX11_promise_81 : decode cX11_promise 81 = .ok (.aload_n 0, 1) := by decide +kernel
theorem dX11_promise_82 : decode cX11_promise 82 = .ok (.getfield 75, 3) := by decide +kernel
theorem dX11_promise_85 : decode cX11_promise 85 = .ok (.iconst 4, 1) := by decide +kernel
theorem dX11_promise_86 : decode cX11_promise 86 = .ok (.iload_n 3, 1) := by decide +kernel
theorem dX11_promise_87 : decode cX11_promise 87 = .ok (.imul, 1) := by decide +kernel
theorem dX11_promise_88 : decode cX11_promise 88 = .ok (.iload 5, 2) := by decide +kernel
theorem dX11_promise_90 : decode cX11_promise 90 = .ok (.iadd, 1) := by decide +kernel
theorem dX11_promise_91 : decode cX11_promise 91 = .ok (.iaload, 1) := by decide +kernel
theorem dX11_promise_92 : decode cX11_promise 92 = .ok (.if_icmp .le 41, 3) := by decide +kernel
theorem dX11_promise_95 : decode cX11_promise 95 = .ok (.aload_n 0, 1) := by decide +kernel
theorem dX11_promise_96 : decode cX11_promise 96 = .ok (.getfield 75, 3) := by decide +kernel
theorem dX11_promise_99 : decode cX11_promise 99 = .ok (.iconst 4, 1) := by decide +kernel
theorem dX11_promise_100 : decode cX11_promise 100 = .ok (.iload_n 3, 1) := by decide +kernel
theorem dX11_promise_101 : decode cX11_promise 101 = .ok (.imul, 1) := by decide +kernel
theorem dX11_promise_102 : decode cX11_promise 102 = .ok (.iload 5, 2) := by decide +kernel
theorem dX11_promise_104 : decode cX11_promise 104 = .ok (.iadd, 1) := by decide +kernel
theorem dX11_promise_105 : decode cX11_promise 105 = .ok (.aload_n 0, 1) := by decide +kernel
theorem dX11_promise_106 : decode cX11_promise 106 = .ok (.getfield 90, 3) := by decide +kernel
theorem dX11_promise_109 : decode cX11_promise 109 = .ok (.iload 5, 2) := by decide +kernel
theorem dX11_promise_111 : decode cX11_promise 111 = .ok (.iaload, 1) := by decide +kernel
theorem dX11_promise_112 : decode cX11_promise 112 = .ok (.iastore, 1) := by decide +kernel
theorem dX11_promise_113 : decode cX11_promise 113 = .ok (.aload_n 0, 1) := by decide +kernel
theorem dX11_promise_114 : decode cX11_promise 114 = .ok (.getfield 78, 3) := by decide +kernel
theorem dX11_promise_117 : decode cX11_promise 117 = .ok (.iconst 4, 1) := by decide +kernel
theorem dX11_promise_118 : decode cX11_promise 118 = .ok (.iload_n 3, 1) := by decide +kernel
theorem dX11_promise_119 : decode cX11_promise 119 = .ok (.imul, 1) := by decide +kernel
theorem dX11_promise_120 : decode cX11_promise 120 = .ok (.iload 5, 2) := by decide +kernel
theorem dX11_promise_122 : decode cX11_promise 122 = .ok (.iadd, 1) := by decide +kernel
theorem dX11_promise_123 : decode cX11_promise 123 = .ok (.aload_n 0, 1) := by decide +kernel
theorem dX11_promise_124 : decode cX11_promise 124 = .ok (.getfield 90, 3) := by decide +kernel
theorem dX11_promise_127 : decode cX11_promise 127 = .ok (.iconst 4, 1) := by decide +kernel
theorem dX11_promise_128 : decode cX11_promise 128 = .ok (.iload 5, 2) := by decide +kernel
theorem dX11_promise_130 : decode cX11_promise 130 = .ok (.iadd, 1) := by decide +kernel
theorem dX11_promise_131 : decode cX11_promise 131 = .ok (.iaload, 1) := by decide +kernel
theorem dX11_promise_132 : decode cX11_promise 132 = .ok (.iastore, 1) := by decide +kernel
theorem dX11_promise_133 : decode cX11_promise 133 = .ok (.iinc 5 1, 3) := by decide +kernel
theorem dX11_promise_136 : decode cX11_promise 136 = .ok (.goto (-68), 3) := by decide +kernel
theorem dX11_promise_139 : decode cX11_promise 139 = .ok (.aload_n 0, 1) := by decide +kernel
theorem dX11_promise_140 : decode cX11_promise 140 = .ok (.aload_n 0, 1) := by decide +kernel
theorem dX11_promise_141 : decode cX11_promise 141 = .ok (.getfield 60, 3) := by decide +kernel
theorem dX11_promise_144 : decode cX11_promise 144 = .ok (.iload_n 3, 1) := by decide +kernel
theorem dX11_promise_145 : decode cX11_promise 145 = .ok (.iaload, 1) := by decide +kernel
theorem dX11_promise_146 : decode cX11_promise 146 = .ok (.invokevirtual 202, 3) := by decide +kernel
theorem dX11_promise_149 : decode cX11_promise 149 = .ok (.ifCond .ne 4, 3) := by decide +kernel
theorem dX11_promise_152 : decode cX11_promise 152 = .ok (.return_, 1) := by decide +kernel
theorem dX11_promise_153 : decode cX11_promise 153 = .ok (.iconst 0, 1) := by decide +kernel
theorem dX11_promise_154 : decode cX11_promise 154 = .ok (.istore 5, 2) := by decide +kernel
theorem dX11_promise_156 : decode cX11_promise 156 = .ok (.iload 5, 2) := by decide +kernel
theorem dX11_promise_158 : decode cX11_promise 158 = .ok (.aload_n 0, 1) := by decide +kernel
theorem dX11_promise_159 : decode cX11_promise 159 = .ok (.getfield 97, 3) := by decide +kernel
theorem dX11_promise_162 : decode cX11_promise 162 = .ok (.if_icmp .ge 59, 3) := by decide +kernel
theorem dX11_promise_165 : decode cX11_promise 165 = .ok (.aload_n 0, 1) := by decide +kernel
theorem dX11_promise_166 : decode cX11_promise 166 = .ok (.iload_n 2, 1) := by decide +kernel
theorem dX11_promise_167 : decode cX11_promise 167 = .ok (.iload 5, 2) := by decide +kernel
theorem dX11_promise_169 : decode cX11_promise 169 = .ok (.invokevirtual 128, 3) := by decide +kernel
theorem dX11_promise_172 : decode cX11_promise 172 = .ok (.ifCond .eq 43, 3) := by decide +kernel
theorem dX11_promise_175 : decode cX11_promise 175 = .ok (.aload_n 0, 1) := by decide +kernel
theorem dX11_promise_176 : decode cX11_promise 176 = .ok (.iconst 2, 1) := by decide +kernel
theorem dX11_promise_177 : decode cX11_promise 177 = .ok (.iload_n 2, 1) := by decide +kernel
theorem dX11_promise_178 : decode cX11_promise 178 = .ok (.iload 4, 2) := by decide +kernel
theorem dX11_promise_180 : decode cX11_promise 180 = .ok (.iload 5, 2) := by decide +kernel
theorem dX11_promise_182 : decode cX11_promise 182 = .ok (.aload_n 0, 1) := by decide +kernel
theorem dX11_promise_183 : decode cX11_promise 183 = .ok (.getfield 75, 3) := by decide +kernel
theorem dX11_promise_186 : decode cX11_promise 186 = .ok (.iconst 4, 1) := by decide +kernel
theorem dX11_promise_187 : decode cX11_promise 187 = .ok (.iload_n 3, 1) := by decide +kernel
theorem dX11_promise_188 : decode cX11_promise 188 = .ok (.imul, 1) := by decide +kernel
theorem dX11_promise_189 : decode cX11_promise 189 = .ok (.iload 5, 2) := by decide +kernel
theorem dX11_promise_191 : decode cX11_promise 191 = .ok (.iadd, 1) := by decide +kernel
theorem dX11_promise_192 : decode cX11_promise 192 = .ok (.iaload, 1) := by decide +kernel
theorem dX11_promise_193 : decode cX11_promise 193 = .ok (.ifCond .ge 7, 3) := by decide +kernel
theorem dX11_promise_196 : decode cX11_promise 196 = .ok (.iconst 2, 1) := by decide +kernel
theorem dX11_promise_197 : decode cX11_promise 197 = .ok (.goto 14, 3) := by decide +kernel
theorem dX11_promise_200 : decode cX11_promise 200 = .ok (.aload_n 0, 1) := by decide +kernel
theorem dX11_promise_201 : decode cX11_promise 201 = .ok (.getfield 78, 3) := by decide +kernel
theorem dX11_promise_204 : decode cX11_promise 204 = .ok (.iconst 4, 1) := by decide +kernel
theorem dX11_promise_205 : decode cX11_promise 205 = .ok (.iload_n 3, 1) := by decide +kernel
theorem dX11_promise_206 : decode cX11_promise 206 = .ok (.imul, 1) := by decide +kernel
theorem dX11_promise_207 : decode cX11_promise 207 = .ok (.iload 5, 2) := by decide +kernel
theorem dX11_promise_209 : decode cX11_promise 209 = .ok (.iadd, 1) := by decide +kernel
theorem dX11_promise_210 : decode cX11_promise 210 = .ok (.iaload, 1) := by decide +kernel
theorem dX11_promise_211 : decode cX11_promise 211 = .ok (.iload_n 1, 1) := by decide +kernel
theorem dX11_promise_212 : decode cX11_promise 212 = .ok (.invokevirtual 198, 3) := by decide +kernel
theorem dX11_promise_215 : decode cX11_promise 215 = .ok (.iinc 5 1, 3) := by decide +kernel
theorem dX11_promise_218 : decode cX11_promise 218 = .ok (.goto (-62), 3) := by decide +kernel
theorem dX11_promise_221 : decode cX11_promise 221 = .ok (.return_, 1) := by decide +kernel
theorem dX11_end_0 : decode cX11_end 0 = .ok (.bipush 16, 2) := by decide +kernel
theorem dX11_end_2 : decode cX11_end 2 = .ok (.iload_n 1, 1) := by decide +kernel
theorem dX11_end_3 : decode cX11_end 3 = .ok (.imul, 1) := by decide +kernel
theorem dX11_end_4 : decode cX11_end 4 = .ok (.iload_n 2, 1) := by decide +kernel
theorem dX11_end_5 : decode cX11_end 5 = .ok (.iadd, 1) := by decide +kernel
theorem dX11_end_6 : decode cX11_end 6 = .ok (.istore_n 3, 1) := by decide +kernel
theorem dX11_end_7 : decode cX11_end 7 = .ok (.aload_n 0, 1) := by decide +kernel
theorem dX11_end_8 : decode cX11_end 8 = .ok (.getfield 48, 3) := by decide +kernel
theorem dX11_end_11 : decode cX11_end 11 = .ok (.iload_n 3, 1) := by decide +kernel
theorem dX11_end_12 : decode cX11_end 12 = .ok (.iaload, 1) := by decide +kernel
theorem dX11_end_13 : decode cX11_end 13 = .ok (.ifCond .eq 5, 3) := by decide +kernel
theorem dX11_end_16 : decode cX11_end 16 = .ok (.iconst 1, 1) := by decide +kernel
theorem dX11_end_17 : decode cX11_end 17 = .ok (.ireturn, 1) := by decide +kernel
theorem dX11_end_18 : decode cX11_end 18 = .ok (.aload_n 0, 1) := by decide +kernel
theorem dX11_end_19 : decode cX11_end 19 = .ok (.iload_n 1, 1) := by decide +kernel
theorem dX11_end_20 : decode cX11_end 20 = .ok (.iconst 2, 1) := by decide +kernel
theorem dX11_end_21 : decode cX11_end 21 = .ok (.iload_n 2, 1) := by decide +kernel
theorem dX11_end_22 : decode cX11_end 22 = .ok (.aload_n 0, 1) := by decide +kernel
theorem dX11_end_23 : decode cX11_end 23 = .ok (.getfield 87, 3) := by decide +kernel
theorem dX11_end_26 : decode cX11_end 26 = .ok (.iconst 5, 1) := by decide +kernel
theorem dX11_end_27 : decode cX11_end 27 = .ok (.iaload, 1) := by decide +kernel
theorem dX11_end_28 : decode cX11_end 28 = .ok (.iconst 0, 1) := by decide +kernel
theorem dX11_end_29 : decode cX11_end 29 = .ok (.invokevirtual 194, 3) := by decide +kernel
theorem dX11_end_32 : decode cX11_end 32 = .ok (.ifCond .ne 5, 3) := by decide +kernel
theorem dX11_end_35 : decode cX11_end 35 = .ok (.iconst 0, 1) := by decide +kernel
theorem dX11_end_36 : decode cX11_end 36 = .ok (.ireturn, 1) := by decide +kernel
theorem dX11_end_37 : decode cX11_end 37 = .ok (.aload_n 0, 1) := by decide +kernel
theorem dX11_end_38 : decode cX11_end 38 = .ok (.getfield 48, 3) := by decide +kernel
theorem dX11_end_41 : decode cX11_end 41 = .ok (.iload_n 3, 1) := by decide +kernel
theorem dX11_end_42 : decode cX11_end 42 = .ok (.aload_n 0, 1) := by decide +kernel
theorem dX11_end_43 : decode cX11_end 43 = .ok (.getfield 87, 3) := by decide +kernel
theorem dX11_end_46 : decode cX11_end 46 = .ok (.iconst 5, 1) := by decide +kernel
theorem dX11_end_47 : decode cX11_end 47 = .ok (.iaload, 1) := by decide +kernel
theorem dX11_end_48 : decode cX11_end 48 = .ok (.iastore, 1) := by decide +kernel
theorem dX11_end_49 : decode cX11_end 49 = .ok (.iload_n 1, 1) := by decide +kernel
theorem dX11_end_50 : decode cX11_end 50 = .ok (.istore 4, 2) := by decide +kernel
theorem dX11_end_52 : decode cX11_end 52 = .ok (.iload 4, 2) := by decide +kernel
theorem dX11_end_54 : decode cX11_end 54 = .ok (.aload_n 0, 1) := by decide +kernel
theorem dX11_end_55 : decode cX11_end 55 = .ok (.getfield 107, 3) := by decide +kernel
theorem dX11_end_58 : decode cX11_end 58 = .ok (.if_icmp .ge 78, 3) := by decide +kernel
theorem dX11_end_61 : decode cX11_end 61 = .ok (.aload_n 0, 1) := by decide +kernel
theorem dX11_end_62 : decode cX11_end 62 = .ok (.getfield 87, 3) := by decide +kernel
theorem dX11_end_65 : decode cX11_end 65 = .ok (.iconst 5, 1) := by decide +kernel
theorem dX11_end_66 : decode cX11_end 66 = .ok (.iaload, 1) := by decide +kernel
theorem dX11_end_67 : decode cX11_end 67 = .ok (.iconst 3, 1) := by decide +kernel
theorem dX11_end_68 : decode cX11_end 68 = .ok (.if_icmp .ne 68, 3) := by decide +kernel
theorem dX11_end_71 : decode cX11_end 71 = .ok (.aload_n 0, 1) := by decide +kernel
theorem dX11_end_72 : decode cX11_end 72 = .ok (.getfield 42, 3) := by decide +kernel
theorem dX11_end_75 : decode cX11_end 75 = .ok (.iload_n 3, 1) := by decide +kernel
theorem dX11_end_76 : decode cX11_end 76 = .ok (.baload, 1) := by decide +kernel
theorem dX11_end_77 : decode cX11_end 77 = .ok (.ifCond .eq 59, 3) := by decide +kernel
theorem dX11_end_80 : decode cX11_end 80 = .ok (.aload_n 0, 1) := by decide +kernel
theorem dX11_end_81 : decode cX11_end 81 = .ok (.getfield 20, 3) := by decide +kernel
theorem dX11_end_84 : decode cX11_end 84 = .ok (.iload 4, 2) := by decide +kernel
theorem dX11_end_86 : decode cX11_end 86 = .ok (.aload_n 0, 1) := by decide +kernel
theorem dX11_end_87 : decode cX11_end 87 = .ok (.getfield 36, 3) := by decide +kernel
theorem dX11_end_90 : decode cX11_end 90 = .ok (.bipush 32, 2) := by decide +kernel
theorem dX11_end_92 : decode cX11_end 92 = .ok (.iload_n 2, 1) := by decide +kernel
theorem dX11_end_93 : decode cX11_end 93 = .ok (.imul, 1) := by decide +kernel
theorem dX11_end_94 : decode cX11_end 94 = .ok (.iload 4, 2) := by decide +kernel
theorem dX11_end_96 : decode cX11_end 96 = .ok (.iadd, 1) := by decide +kernel
theorem dX11_end_97 : decode cX11_end 97 = .ok (.baload, 1) := by decide +kernel
theorem dX11_end_98 : decode cX11_end 98 = .ok (.ifCond .eq 18, 3) := by decide +kernel
theorem dX11_end_101 : decode cX11_end 101 = .ok (.aload_n 0, 1) := by decide +kernel
theorem dX11_end_102 : decode cX11_end 102 = .ok (.getfield 39, 3) := by decide +kernel
theorem dX11_end_105 : decode cX11_end 105 = .ok (.bipush 32, 2) := by decide +kernel
theorem dX11_end_107 : decode cX11_end 107 = .ok (.iload_n 2, 1) := by decide +kernel
theorem dX11_end_108 : decode cX11_end 108 = .ok (.imul, 1) := by decide +kernel
theorem dX11_end_109 : decode cX11_end 109 = .ok (.iload 4, 2) := by decide +kernel
theorem dX11_end_111 : decode cX11_end 111 = .ok (.iadd, 1) := by decide +kernel
theorem dX11_end_112 : decode cX11_end 112 = .ok (.laload, 1) := by decide +kernel
theorem dX11_end_113 : decode cX11_end 113 = .ok (.goto 10, 3) := by decide +kernel
theorem dX11_end_116 : decode cX11_end 116 = .ok (.aload_n 0, 1) := by decide +kernel
theorem dX11_end_117 : decode cX11_end 117 = .ok (.getfield 20, 3) := by decide +kernel
theorem dX11_end_120 : decode cX11_end 120 = .ok (.iload 4, 2) := by decide +kernel
theorem dX11_end_122 : decode cX11_end 122 = .ok (.laload, 1) := by decide +kernel
theorem dX11_end_123 : decode cX11_end 123 = .ok (.lastore, 1) := by decide +kernel
theorem dX11_end_124 : decode cX11_end 124 = .ok (.iload 4, 2) := by decide +kernel
theorem dX11_end_126 : decode cX11_end 126 = .ok (.aload_n 0, 1) := by decide +kernel
theorem dX11_end_127 : decode cX11_end 127 = .ok (.getfield 97, 3) := by decide +kernel
theorem dX11_end_130 : decode cX11_end 130 = .ok (.iadd, 1) := by decide +kernel
theorem dX11_end_131 : decode cX11_end 131 = .ok (.istore 4, 2) := by decide +kernel
theorem dX11_end_133 : decode cX11_end 133 = .ok (.goto (-81), 3) := by decide +kernel
theorem dX11_end_136 : decode cX11_end 136 = .ok (.aload_n 0, 1) := by decide +kernel
theorem dX11_end_137 : decode cX11_end 137 = .ok (.iload_n 1, 1) := by decide +kernel
theorem dX11_end_138 : decode cX11_end 138 = .ok (.iload_n 2, 1) := by decide +kernel
theorem dX11_end_139 : decode cX11_end 139 = .ok (.invokevirtual 150, 3) := by decide +kernel
theorem dX11_end_142 : decode cX11_end 142 = .ok (.iconst 1, 1) := by decide +kernel
theorem dX11_end_143 : decode cX11_end 143 = .ok (.ireturn, 1) := by decide +kernel
theorem dX11_drop_0 : decode cX11_drop 0 = .ok (.aload_n 0, 1) := by decide +kernel
theorem dX11_drop_1 : decode cX11_drop 1 = .ok (.iload_n 1, 1) := by decide +kernel
theorem dX11_drop_2 : decode cX11_drop 2 = .ok (.invokevirtual 163, 3) := by decide +kernel
theorem dX11_drop_5 : decode cX11_drop 5 = .ok (.ifCond .ne 5, 3) := by decide +kernel
theorem dX11_drop_8 : decode cX11_drop 8 = .ok (.iconst (-1), 1) := by decide +kernel
theorem dX11_drop_9 : decode cX11_drop 9 = .ok (.ireturn, 1) := by decide +kernel
theorem dX11_drop_10 : decode cX11_drop 10 = .ok (.aload_n 0, 1) := by decide +kernel
theorem dX11_drop_11 : decode cX11_drop 11 = .ok (.iload_n 1, 1) := by decide +kernel
theorem dX11_drop_12 : decode cX11_drop 12 = .ok (.invokevirtual 166, 3) := by decide +kernel
theorem dX11_drop_15 : decode cX11_drop 15 = .ok (.aload_n 0, 1) := by decide +kernel
theorem dX11_drop_16 : decode cX11_drop 16 = .ok (.getfield 87, 3) := by decide +kernel
theorem dX11_drop_19 : decode cX11_drop 19 = .ok (.iconst 0, 1) := by decide +kernel
theorem dX11_drop_20 : decode cX11_drop 20 = .ok (.iaload, 1) := by decide +kernel
theorem dX11_drop_21 : decode cX11_drop 21 = .ok (.ireturn, 1) := by decide +kernel
theorem dX11_twice_0 : decode cX11_twice 0 = .ok (.aload_n 0, 1) := by decide +kernel
theorem dX11_twice_1 : decode cX11_twice 1 = .ok (.iload_n 1, 1) := by decide +kernel
theorem dX11_twice_2 : decode cX11_twice 2 = .ok (.invokevirtual 163, 3) := by decide +kernel
theorem dX11_twice_5 : decode cX11_twice 5 = .ok (.ifCond .ne 5, 3) := by decide +kernel
theorem dX11_twice_8 : decode cX11_twice 8 = .ok (.iconst (-1), 1) := by decide +kernel
theorem dX11_twice_9 : decode cX11_twice 9 = .ok (.ireturn, 1) := by decide +kernel
theorem dX11_twice_10 : decode cX11_twice 10 = .ok (.bipush 7, 2) := by decide +kernel
theorem dX11_twice_12 : decode cX11_twice 12 = .ok (.iload_n 1, 1) := by decide +kernel
theorem dX11_twice_13 : decode cX11_twice 13 = .ok (.imul, 1) := by decide +kernel
theorem dX11_twice_14 : decode cX11_twice 14 = .ok (.istore_n 2, 1) := by decide +kernel
theorem dX11_twice_15 : decode cX11_twice 15 = .ok (.aload_n 0, 1) := by decide +kernel
theorem dX11_twice_16 : decode cX11_twice 16 = .ok (.aload_n 0, 1) := by decide +kernel
theorem dX11_twice_17 : decode cX11_twice 17 = .ok (.getfield 81, 3) := by decide +kernel
theorem dX11_twice_20 : decode cX11_twice 20 = .ok (.iload_n 2, 1) := by decide +kernel
theorem dX11_twice_21 : decode cX11_twice 21 = .ok (.iaload, 1) := by decide +kernel
theorem dX11_twice_22 : decode cX11_twice 22 = .ok (.aload_n 0, 1) := by decide +kernel
theorem dX11_twice_23 : decode cX11_twice 23 = .ok (.getfield 81, 3) := by decide +kernel
theorem dX11_twice_26 : decode cX11_twice 26 = .ok (.iload_n 2, 1) := by decide +kernel
theorem dX11_twice_27 : decode cX11_twice 27 = .ok (.iconst 1, 1) := by decide +kernel
theorem dX11_twice_28 : decode cX11_twice 28 = .ok (.iadd, 1) := by decide +kernel
theorem dX11_twice_29 : decode cX11_twice 29 = .ok (.iaload, 1) := by decide +kernel
theorem dX11_twice_30 : decode cX11_twice 30 = .ok (.aload_n 0, 1) := by decide +kernel
theorem dX11_twice_31 : decode cX11_twice 31 = .ok (.getfield 81, 3) := by decide +kernel
theorem dX11_twice_34 : decode cX11_twice 34 = .ok (.iload_n 2, 1) := by decide +kernel
theorem dX11_twice_35 : decode cX11_twice 35 = .ok (.iconst 2, 1) := by decide +kernel
theorem dX11_twice_36 : decode cX11_twice 36 = .ok (.iadd, 1) := by decide +kernel
theorem dX11_twice_37 : decode cX11_twice 37 = .ok (.iaload, 1) := by decide +kernel
theorem dX11_twice_38 : decode cX11_twice 38 = .ok (.aload_n 0, 1) := by decide +kernel
theorem dX11_twice_39 : decode cX11_twice 39 = .ok (.getfield 81, 3) := by decide +kernel
theorem dX11_twice_42 : decode cX11_twice 42 = .ok (.iload_n 2, 1) := by decide +kernel
theorem dX11_twice_43 : decode cX11_twice 43 = .ok (.iconst 3, 1) := by decide +kernel
theorem dX11_twice_44 : decode cX11_twice 44 = .ok (.iadd, 1) := by decide +kernel
theorem dX11_twice_45 : decode cX11_twice 45 = .ok (.iaload, 1) := by decide +kernel
theorem dX11_twice_46 : decode cX11_twice 46 = .ok (.aload_n 0, 1) := by decide +kernel
theorem dX11_twice_47 : decode cX11_twice 47 = .ok (.getfield 81, 3) := by decide +kernel
theorem dX11_twice_50 : decode cX11_twice 50 = .ok (.iload_n 2, 1) := by decide +kernel
theorem dX11_twice_51 : decode cX11_twice 51 = .ok (.iconst 4, 1) := by decide +kernel
theorem dX11_twice_52 : decode cX11_twice 52 = .ok (.iadd, 1) := by decide +kernel
theorem dX11_twice_53 : decode cX11_twice 53 = .ok (.iaload, 1) := by decide +kernel
theorem dX11_twice_54 : decode cX11_twice 54 = .ok (.aload_n 0, 1) := by decide +kernel
theorem dX11_twice_55 : decode cX11_twice 55 = .ok (.getfield 81, 3) := by decide +kernel
theorem dX11_twice_58 : decode cX11_twice 58 = .ok (.iload_n 2, 1) := by decide +kernel
theorem dX11_twice_59 : decode cX11_twice 59 = .ok (.iconst 5, 1) := by decide +kernel
theorem dX11_twice_60 : decode cX11_twice 60 = .ok (.iadd, 1) := by decide +kernel
theorem dX11_twice_61 : decode cX11_twice 61 = .ok (.iaload, 1) := by decide +kernel
theorem dX11_twice_62 : decode cX11_twice 62 = .ok (.aload_n 0, 1) := by decide +kernel
theorem dX11_twice_63 : decode cX11_twice 63 = .ok (.getfield 81, 3) := by decide +kernel
theorem dX11_twice_66 : decode cX11_twice 66 = .ok (.iload_n 2, 1) := by decide +kernel
theorem dX11_twice_67 : decode cX11_twice 67 = .ok (.bipush 6, 2) := by decide +kernel
theorem dX11_twice_69 : decode cX11_twice 69 = .ok (.iadd, 1) := by decide +kernel
theorem dX11_twice_70 : decode cX11_twice 70 = .ok (.iaload, 1) := by decide +kernel
theorem dX11_twice_71 : decode cX11_twice 71 = .ok (.invokevirtual 146, 3) := by decide +kernel
theorem dX11_twice_74 : decode cX11_twice 74 = .ok (.istore_n 3, 1) := by decide +kernel
theorem dX11_twice_75 : decode cX11_twice 75 = .ok (.iconst 0, 1) := by decide +kernel
theorem dX11_twice_76 : decode cX11_twice 76 = .ok (.istore 4, 2) := by decide +kernel
theorem dX11_twice_78 : decode cX11_twice 78 = .ok (.iload 4, 2) := by decide +kernel
theorem dX11_twice_80 : decode cX11_twice 80 = .ok (.bipush 8, 2) := by decide +kernel
theorem dX11_twice_82 : decode cX11_twice 82 = .ok (.if_icmp .ge 37, 3) := by decide +kernel
theorem dX11_twice_85 : decode cX11_twice 85 = .ok (.iload_n 3, 1) := by decide +kernel
theorem dX11_twice_86 : decode cX11_twice 86 = .ok (.ifCond .lt 33, 3) := by decide +kernel
theorem dX11_twice_89 : decode cX11_twice 89 = .ok (.aload_n 0, 1) := by decide +kernel
theorem dX11_twice_90 : decode cX11_twice 90 = .ok (.getfield 84, 3) := by decide +kernel
theorem dX11_twice_93 : decode cX11_twice 93 = .ok (.bipush 8, 2) := by decide +kernel
theorem dX11_twice_95 : decode cX11_twice 95 = .ok (.iload_n 3, 1) := by decide +kernel
theorem dX11_twice_96 : decode cX11_twice 96 = .ok (.imul, 1) := by decide +kernel
theorem dX11_twice_97 : decode cX11_twice 97 = .ok (.iload 4, 2) := by decide +kernel
theorem dX11_twice_99 : decode cX11_twice 99 = .ok (.iadd, 1) := by decide +kernel
theorem dX11_twice_100 : decode cX11_twice 100 = .ok (.aload_n 0, 1) := by decide +kernel
theorem dX11_twice_101 : decode cX11_twice 101 = .ok (.getfield 84, 3) := by decide +kernel
theorem dX11_twice_104 : decode cX11_twice 104 = .ok (.bipush 8, 2) := by decide +kernel
theorem dX11_twice_106 : decode cX11_twice 106 = .ok (.iload_n 1, 1) := by decide +kernel
theorem dX11_twice_107 : decode cX11_twice 107 = .ok (.imul, 1) := by decide +kernel
theorem dX11_twice_108 : decode cX11_twice 108 = .ok (.iload 4, 2) := by decide +kernel
theorem dX11_twice_110 : decode cX11_twice 110 = .ok (.iadd, 1) := by decide +kernel
theorem dX11_twice_111 : decode cX11_twice 111 = .ok (.iaload, 1) := by decide +kernel
theorem dX11_twice_112 : decode cX11_twice 112 = .ok (.iastore, 1) := by decide +kernel
theorem dX11_twice_113 : decode cX11_twice 113 = .ok (.iinc 4 1, 3) := by decide +kernel
theorem dX11_twice_116 : decode cX11_twice 116 = .ok (.goto (-38), 3) := by decide +kernel
theorem dX11_twice_119 : decode cX11_twice 119 = .ok (.iload_n 3, 1) := by decide +kernel
theorem dX11_twice_120 : decode cX11_twice 120 = .ok (.ifCond .ge 7, 3) := by decide +kernel
theorem dX11_twice_123 : decode cX11_twice 123 = .ok (.iconst 0, 1) := by decide +kernel
theorem dX11_twice_124 : decode cX11_twice 124 = .ok (.goto 7, 3) := by decide +kernel
theorem dX11_twice_127 : decode cX11_twice 127 = .ok (.aload_n 0, 1) := by decide +kernel
theorem dX11_twice_128 : decode cX11_twice 128 = .ok (.getfield 157, 3) := by decide +kernel
theorem dX11_twice_131 : decode cX11_twice 131 = .ok (.ireturn, 1) := by decide +kernel
theorem dX11_begins_0 : decode cX11_begins 0 = .ok (.aload_n 0, 1) := by decide +kernel
theorem dX11_begins_1 : decode cX11_begins 1 = .ok (.getfield 60, 3) := by decide +kernel
theorem dX11_begins_4 : decode cX11_begins 4 = .ok (.iload_n 1, 1) := by decide +kernel
theorem dX11_begins_5 : decode cX11_begins 5 = .ok (.iconst 0, 1) := by decide +kernel
theorem dX11_begins_6 : decode cX11_begins 6 = .ok (.iastore, 1) := by decide +kernel
theorem dX11_begins_7 : decode cX11_begins 7 = .ok (.iconst 4, 1) := by decide +kernel
theorem dX11_begins_8 : decode cX11_begins 8 = .ok (.iload_n 1, 1) := by decide +kernel
theorem dX11_begins_9 : decode cX11_begins 9 = .ok (.imul, 1) := by decide +kernel
theorem dX11_begins_10 : decode cX11_begins 10 = .ok (.istore_n 2, 1) := by decide +kernel
theorem dX11_begins_11 : decode cX11_begins 11 = .ok (.iload_n 2, 1) := by decide +kernel
theorem dX11_begins_12 : decode cX11_begins 12 = .ok (.iconst 4, 1) := by decide +kernel
theorem dX11_begins_13 : decode cX11_begins 13 = .ok (.iload_n 1, 1) := by decide +kernel
theorem dX11_begins_14 : decode cX11_begins 14 = .ok (.imul, 1) := by decide +kernel
theorem dX11_begins_15 : decode cX11_begins 15 = .ok (.iconst 4, 1) := by decide +kernel
theorem dX11_begins_16 : decode cX11_begins 16 = .ok (.iadd, 1) := by decide +kernel
theorem dX11_begins_17 : decode cX11_begins 17 = .ok (.if_icmp .ge 37, 3) := by decide +kernel
theorem dX11_begins_20 : decode cX11_begins 20 = .ok (.aload_n 0, 1) := by decide +kernel
theorem dX11_begins_21 : decode cX11_begins 21 = .ok (.getfield 69, 3) := by decide +kernel
theorem dX11_begins_24 : decode cX11_begins 24 = .ok (.iload_n 2, 1) := by decide +kernel
theorem dX11_begins_25 : decode cX11_begins 25 = .ok (.iconst 0, 1) := by decide +kernel
theorem dX11_begins_26 : decode cX11_begins 26 = .ok (.iastore, 1) := by decide +kernel
theorem dX11_begins_27 : decode cX11_begins 27 = .ok (.aload_n 0, 1) := by decide +kernel
theorem dX11_begins_28 : decode cX11_begins 28 = .ok (.getfield 72, 3) := by decide +kernel
theorem dX11_begins_31 : decode cX11_begins 31 = .ok (.iload_n 2, 1) := by decide +kernel
theorem dX11_begins_32 : decode cX11_begins 32 = .ok (.iconst 0, 1) := by decide +kernel
theorem dX11_begins_33 : decode cX11_begins 33 = .ok (.iastore, 1) := by decide +kernel
theorem dX11_begins_34 : decode cX11_begins 34 = .ok (.aload_n 0, 1) := by decide +kernel
theorem dX11_begins_35 : decode cX11_begins 35 = .ok (.getfield 75, 3) := by decide +kernel
theorem dX11_begins_38 : decode cX11_begins 38 = .ok (.iload_n 2, 1) := by decide +kernel
theorem dX11_begins_39 : decode cX11_begins 39 = .ok (.iconst (-1), 1) := by decide +kernel
theorem dX11_begins_40 : decode cX11_begins 40 = .ok (.iastore, 1) := by decide +kernel
theorem dX11_begins_41 : decode cX11_begins 41 = .ok (.aload_n 0, 1) := by decide +kernel
theorem dX11_begins_42 : decode cX11_begins 42 = .ok (.getfield 78, 3) := by decide +kernel
theorem dX11_begins_45 : decode cX11_begins 45 = .ok (.iload_n 2, 1) := by decide +kernel
theorem dX11_begins_46 : decode cX11_begins 46 = .ok (.iconst 0, 1) := by decide +kernel
theorem dX11_begins_47 : decode cX11_begins 47 = .ok (.iastore, 1) := by decide +kernel
theorem dX11_begins_48 : decode cX11_begins 48 = .ok (.iinc 2 1, 3) := by decide +kernel
theorem dX11_begins_51 : decode cX11_begins 51 = .ok (.goto (-40), 3) := by decide +kernel
theorem dX11_begins_54 : decode cX11_begins 54 = .ok (.return_, 1) := by decide +kernel
theorem dX11_forget_0 : decode cX11_forget 0 = .ok (.bipush 16, 2) := by decide +kernel
theorem dX11_forget_2 : decode cX11_forget 2 = .ok (.iload_n 1, 1) := by decide +kernel
theorem dX11_forget_3 : decode cX11_forget 3 = .ok (.imul, 1) := by decide +kernel
theorem dX11_forget_4 : decode cX11_forget 4 = .ok (.istore_n 2, 1) := by decide +kernel
theorem dX11_forget_5 : decode cX11_forget 5 = .ok (.iload_n 2, 1) := by decide +kernel
theorem dX11_forget_6 : decode cX11_forget 6 = .ok (.bipush 16, 2) := by decide +kernel
theorem dX11_forget_8 : decode cX11_forget 8 = .ok (.iload_n 1, 1) := by decide +kernel
theorem dX11_forget_9 : decode cX11_forget 9 = .ok (.imul, 1) := by decide +kernel
theorem dX11_forget_10 : decode cX11_forget 10 = .ok (.bipush 16, 2) := by decide +kernel
theorem dX11_forget_12 : decode cX11_forget 12 = .ok (.iadd, 1) := by decide +kernel
theorem dX11_forget_13 : decode cX11_forget 13 = .ok (.if_icmp .ge 36, 3) := by decide +kernel
theorem dX11_forget_16 : decode cX11_forget 16 = .ok (.aload_n 0, 1) := by decide +kernel
theorem dX11_forget_17 : decode cX11_forget 17 = .ok (.iload_n 2, 1) := by decide +kernel
theorem dX11_forget_18 : decode cX11_forget 18 = .ok (.invokevirtual 205, 3) := by decide +kernel
theorem dX11_forget_21 : decode cX11_forget 21 = .ok (.aload_n 0, 1) := by decide +kernel
theorem dX11_forget_22 : decode cX11_forget 22 = .ok (.getfield 57, 3) := by decide +kernel
theorem dX11_forget_25 : decode cX11_forget 25 = .ok (.iload_n 2, 1) := by decide +kernel
theorem dX11_forget_26 : decode cX11_forget 26 = .ok (.iconst 0, 1) := by decide +kernel
theorem dX11_forget_27 : decode cX11_forget 27 = .ok (.iastore, 1) := by decide +kernel
theorem dX11_forget_28 : decode cX11_forget 28 = .ok (.aload_n 0, 1) := by decide +kernel
theorem dX11_forget_29 : decode cX11_forget 29 = .ok (.getfield 54, 3) := by decide +kernel
theorem dX11_forget_32 : decode cX11_forget 32 = .ok (.iload_n 2, 1) := by decide +kernel
theorem dX11_forget_33 : decode cX11_forget 33 = .ok (.iload_n 1, 1) := by decide +kernel
theorem dX11_forget_34 : decode cX11_forget 34 = .ok (.ifCond .ne 7, 3) := by decide +kernel
theorem dX11_forget_37 : decode cX11_forget 37 = .ok (.iconst 0, 1) := by decide +kernel
theorem dX11_forget_38 : decode cX11_forget 38 = .ok (.goto 4, 3) := by decide +kernel
theorem dX11_forget_41 : decode cX11_forget 41 = .ok (.iconst (-1), 1) := by decide +kernel
theorem dX11_forget_42 : decode cX11_forget 42 = .ok (.iastore, 1) := by decide +kernel
theorem dX11_forget_43 : decode cX11_forget 43 = .ok (.iinc 2 1, 3) := by decide +kernel
theorem dX11_forget_46 : decode cX11_forget 46 = .ok (.goto (-41), 3) := by decide +kernel
theorem dX11_forget_49 : decode cX11_forget 49 = .ok (.return_, 1) := by decide +kernel
theorem dX11_timeout_0 : decode cX11_timeout 0 = .ok (.aload_n 0, 1) := by decide +kernel
theorem dX11_timeout_1 : decode cX11_timeout 1 = .ok (.iload_n 1, 1) := by decide +kernel
theorem dX11_timeout_2 : decode cX11_timeout 2 = .ok (.invokevirtual 208, 3) := by decide +kernel
theorem dX11_timeout_5 : decode cX11_timeout 5 = .ok (.ifCond .eq 11, 3) := by decide +kernel
theorem dX11_timeout_8 : decode cX11_timeout 8 = .ok (.aload_n 0, 1) := by decide +kernel
theorem dX11_timeout_9 : decode cX11_timeout 9 = .ok (.iload_n 2, 1) := by decide +kernel
theorem dX11_timeout_10 : decode cX11_timeout 10 = .ok (.invokevirtual 132, 3) := by decide +kernel
theorem dX11_timeout_13 : decode cX11_timeout 13 = .ok (.ifCond .ne 5, 3) := by decide +kernel
theorem dX11_timeout_16 : decode cX11_timeout 16 = .ok (.iconst (-1), 1) := by decide +kernel
theorem dX11_timeout_17 : decode cX11_timeout 17 = .ok (.ireturn, 1) := by decide +kernel
theorem dX11_timeout_18 : decode cX11_timeout 18 = .ok (.bipush 16, 2) := by decide +kernel
theorem dX11_timeout_20 : decode cX11_timeout 20 = .ok (.iload_n 1, 1) := by decide +kernel
theorem dX11_timeout_21 : decode cX11_timeout 21 = .ok (.aload_n 0, 1) := by decide +kernel
theorem dX11_timeout_22 : decode cX11_timeout 22 = .ok (.getfield 97, 3) := by decide +kernel
theorem dX11_timeout_25 : decode cX11_timeout 25 = .ok (.isub, 1) := by decide +kernel
theorem dX11_timeout_26 : decode cX11_timeout 26 = .ok (.imul, 1) := by decide +kernel
theorem dX11_timeout_27 : decode cX11_timeout 27 = .ok (.iload_n 2, 1) := by decide +kernel
theorem dX11_timeout_28 : decode cX11_timeout 28 = .ok (.iadd, 1) := by decide +kernel
theorem dX11_timeout_29 : decode cX11_timeout 29 = .ok (.istore_n 3, 1) := by decide +kernel
theorem dX11_timeout_30 : decode cX11_timeout 30 = .ok (.aload_n 0, 1) := by decide +kernel
theorem dX11_timeout_31 : decode cX11_timeout 31 = .ok (.getfield 7, 3) := by decide +kernel
theorem dX11_timeout_34 : decode cX11_timeout 34 = .ok (.iload_n 1, 1) := by decide +kernel
theorem dX11_timeout_35 : decode cX11_timeout 35 = .ok (.baload, 1) := by decide +kernel
theorem dX11_timeout_36 : decode cX11_timeout 36 = .ok (.ifCond .eq 40, 3) := by decide +kernel
theorem dX11_timeout_39 : decode cX11_timeout 39 = .ok (.aload_n 0, 1) := by decide +kernel
theorem dX11_timeout_40 : decode cX11_timeout 40 = .ok (.getfield 57, 3) := by decide +kernel
theorem dX11_timeout_43 : decode cX11_timeout 43 = .ok (.iload_n 3, 1) := by decide +kernel
theorem dX11_timeout_44 : decode cX11_timeout 44 = .ok (.iaload, 1) := by decide +kernel
theorem dX11_timeout_45 : decode cX11_timeout 45 = .ok (.ifCond .ne 31, 3) := by decide +kernel
theorem dX11_timeout_48 : decode cX11_timeout 48 = .ok (.aload_n 0, 1) := by decide +kernel
theorem dX11_timeout_49 : decode cX11_timeout 49 = .ok (.getfield 30, 3) := by decide +kernel
theorem dX11_timeout_52 : decode cX11_timeout 52 = .ok (.iload_n 2, 1) := by decide +kernel
theorem dX11_timeout_53 : decode cX11_timeout 53 = .ok (.iaload, 1) := by decide +kernel
theorem dX11_timeout_54 : decode cX11_timeout 54 = .ok (.ifCond .eq 22, 3) := by decide +kernel
theorem dX11_timeout_57 : decode cX11_timeout 57 = .ok (.aload_n 0, 1) := by decide +kernel
theorem dX11_timeout_58 : decode cX11_timeout 58 = .ok (.getfield 30, 3) := by decide +kernel
theorem dX11_timeout_61 : decode cX11_timeout 61 = .ok (.iload_n 2, 1) := by decide +kernel
theorem dX11_timeout_62 : decode cX11_timeout 62 = .ok (.iaload, 1) := by decide +kernel
theorem dX11_timeout_63 : decode cX11_timeout 63 = .ok (.iconst 1, 1) := by decide +kernel
theorem dX11_timeout_64 : decode cX11_timeout 64 = .ok (.if_icmp .eq 12, 3) := by decide +kernel
theorem dX11_timeout_67 : decode cX11_timeout 67 = .ok (.aload_n 0, 1) := by decide +kernel
theorem dX11_timeout_68 : decode cX11_timeout 68 = .ok (.getfield 33, 3) := by decide +kernel
theorem dX11_timeout_71 : decode cX11_timeout 71 = .ok (.iload_n 2, 1) := by decide +kernel
theorem dX11_timeout_72 : decode cX11_timeout 72 = .ok (.iaload, 1) := by decide +kernel
theorem dX11_timeout_73 : decode cX11_timeout 73 = .ok (.ifCond .ne 5, 3) := by decide +kernel
theorem dX11_timeout_76 : decode cX11_timeout 76 = .ok (.iconst 0, 1) := by decide +kernel
theorem dX11_timeout_77 : decode cX11_timeout 77 = .ok (.ireturn, 1) := by decide +kernel
theorem dX11_timeout_78 : decode cX11_timeout 78 = .ok (.aload_n 0, 1) := by decide +kernel
theorem dX11_timeout_79 : decode cX11_timeout 79 = .ok (.getfield 54, 3) := by decide +kernel
theorem dX11_timeout_82 : decode cX11_timeout 82 = .ok (.iload_n 3, 1) := by decide +kernel
theorem dX11_timeout_83 : decode cX11_timeout 83 = .ok (.iaload, 1) := by decide +kernel
theorem dX11_timeout_84 : decode cX11_timeout 84 = .ok (.aload_n 0, 1) := by decide +kernel
theorem dX11_timeout_85 : decode cX11_timeout 85 = .ok (.getfield 51, 3) := by decide +kernel
theorem dX11_timeout_88 : decode cX11_timeout 88 = .ok (.iload_n 3, 1) := by decide +kernel
theorem dX11_timeout_89 : decode cX11_timeout 89 = .ok (.iaload, 1) := by decide +kernel
theorem dX11_timeout_90 : decode cX11_timeout 90 = .ok (.if_icmp .le 12, 3) := by decide +kernel
theorem dX11_timeout_93 : decode cX11_timeout 93 = .ok (.aload_n 0, 1) := by decide +kernel
theorem dX11_timeout_94 : decode cX11_timeout 94 = .ok (.getfield 54, 3) := by decide +kernel
theorem dX11_timeout_97 : decode cX11_timeout 97 = .ok (.iload_n 3, 1) := by decide +kernel
theorem dX11_timeout_98 : decode cX11_timeout 98 = .ok (.iaload, 1) := by decide +kernel
theorem dX11_timeout_99 : decode cX11_timeout 99 = .ok (.goto 9, 3) := by decide +kernel
theorem dX11_timeout_102 : decode cX11_timeout 102 = .ok (.aload_n 0, 1) := by decide +kernel
theorem dX11_timeout_103 : decode cX11_timeout 103 = .ok (.getfield 51, 3) := by decide +kernel
theorem dX11_timeout_106 : decode cX11_timeout 106 = .ok (.iload_n 3, 1) := by decide +kernel
theorem dX11_timeout_107 : decode cX11_timeout 107 = .ok (.iaload, 1) := by decide +kernel
theorem dX11_timeout_108 : decode cX11_timeout 108 = .ok (.istore 4, 2) := by decide +kernel
theorem dX11_timeout_110 : decode cX11_timeout 110 = .ok (.iload_n 1, 1) := by decide +kernel
theorem dX11_timeout_111 : decode cX11_timeout 111 = .ok (.aload_n 0, 1) := by decide +kernel
theorem dX11_timeout_112 : decode cX11_timeout 112 = .ok (.getfield 97, 3) := by decide +kernel
theorem dX11_timeout_115 : decode cX11_timeout 115 = .ok (.isub, 1) := by decide +kernel
theorem dX11_timeout_116 : decode cX11_timeout 116 = .ok (.istore 5, 2) := by decide +kernel
theorem dX11_timeout_118 : decode cX11_timeout 118 = .ok (.iload 5, 2) := by decide +kernel
theorem dX11_timeout_120 : decode cX11_timeout 120 = .ok (.iload 4, 2) := by decide +kernel
theorem dX11_timeout_122 : decode cX11_timeout 122 = .ok (.if_icmp .le 8, 3) := by decide +kernel
theorem dX11_timeout_125 : decode cX11_timeout 125 = .ok (.iload 5, 2) := by decide +kernel
theorem dX11_timeout_127 : decode cX11_timeout 127 = .ok (.ifCond .gt 15, 3) := by decide +kernel
theorem dX11_timeout_130 : decode cX11_timeout 130 = .ok (.iload 5, 2) := by decide +kernel
theorem dX11_timeout_132 : decode cX11_timeout 132 = .ok (.aload_n 0, 1) := by decide +kernel
theorem dX11_timeout_133 : decode cX11_timeout 133 = .ok (.getfield 101, 3) := by decide +kernel
theorem dX11_timeout_136 : decode cX11_timeout 136 = .ok (.iadd, 1) := by decide +kernel
theorem dX11_timeout_137 : decode cX11_timeout 137 = .ok (.istore 5, 2) := by decide +kernel
theorem dX11_timeout_139 : decode cX11_timeout 139 = .ok (.goto (-21), 3) := by decide +kernel
theorem dX11_timeout_142 : decode cX11_timeout 142 = .ok (.aload_n 0, 1) := by decide +kernel
theorem dX11_timeout_143 : decode cX11_timeout 143 = .ok (.iload_n 1, 1) := by decide +kernel
theorem dX11_timeout_144 : decode cX11_timeout 144 = .ok (.iconst 3, 1) := by decide +kernel
theorem dX11_timeout_145 : decode cX11_timeout 145 = .ok (.iload_n 2, 1) := by decide +kernel
theorem dX11_timeout_146 : decode cX11_timeout 146 = .ok (.iload 5, 2) := by decide +kernel
theorem dX11_timeout_148 : decode cX11_timeout 148 = .ok (.iconst 0, 1) := by decide +kernel
theorem dX11_timeout_149 : decode cX11_timeout 149 = .ok (.invokevirtual 194, 3) := by decide +kernel
theorem dX11_timeout_152 : decode cX11_timeout 152 = .ok (.ifCond .ne 5, 3) := by decide +kernel
theorem dX11_timeout_155 : decode cX11_timeout 155 = .ok (.iconst 0, 1) := by decide +kernel
theorem dX11_timeout_156 : decode cX11_timeout 156 = .ok (.ireturn, 1) := by decide +kernel
theorem dX11_timeout_157 : decode cX11_timeout 157 = .ok (.aload_n 0, 1) := by decide +kernel
theorem dX11_timeout_158 : decode cX11_timeout 158 = .ok (.getfield 51, 3) := by decide +kernel
theorem dX11_timeout_161 : decode cX11_timeout 161 = .ok (.iload_n 3, 1) := by decide +kernel
theorem dX11_timeout_162 : decode cX11_timeout 162 = .ok (.iload 5, 2) := by decide +kernel
theorem dX11_timeout_164 : decode cX11_timeout 164 = .ok (.iastore, 1) := by decide +kernel
theorem dX11_timeout_165 : decode cX11_timeout 165 = .ok (.aload_n 0, 1) := by decide +kernel
theorem dX11_timeout_166 : decode cX11_timeout 166 = .ok (.getfield 54, 3) := by decide +kernel
theorem dX11_timeout_169 : decode cX11_timeout 169 = .ok (.iload_n 3, 1) := by decide +kernel
theorem dX11_timeout_170 : decode cX11_timeout 170 = .ok (.iload 5, 2) := by decide +kernel
theorem dX11_timeout_172 : decode cX11_timeout 172 = .ok (.iastore, 1) := by decide +kernel
theorem dX11_timeout_173 : decode cX11_timeout 173 = .ok (.aload_n 0, 1) := by decide +kernel
theorem dX11_timeout_174 : decode cX11_timeout 174 = .ok (.iload_n 3, 1) := by decide +kernel
theorem dX11_timeout_175 : decode cX11_timeout 175 = .ok (.invokevirtual 205, 3) := by decide +kernel
theorem dX11_timeout_178 : decode cX11_timeout 178 = .ok (.aload_n 0, 1) := by decide +kernel
theorem dX11_timeout_179 : decode cX11_timeout 179 = .ok (.iconst 4, 1) := by decide +kernel
theorem dX11_timeout_180 : decode cX11_timeout 180 = .ok (.iload_n 2, 1) := by decide +kernel
theorem dX11_timeout_181 : decode cX11_timeout 181 = .ok (.iload 5, 2) := by decide +kernel
theorem dX11_timeout_183 : decode cX11_timeout 183 = .ok (.iconst 0, 1) := by decide +kernel
theorem dX11_timeout_184 : decode cX11_timeout 184 = .ok (.iconst 0, 1) := by decide +kernel
theorem dX11_timeout_185 : decode cX11_timeout 185 = .ok (.iload_n 1, 1) := by decide +kernel
theorem dX11_timeout_186 : decode cX11_timeout 186 = .ok (.invokevirtual 198, 3) := by decide +kernel
theorem dX11_timeout_189 : decode cX11_timeout 189 = .ok (.iload 5, 2) := by decide +kernel
theorem dX11_timeout_191 : decode cX11_timeout 191 = .ok (.ireturn, 1) := by decide +kernel
theorem dX11_crash_0 : decode cX11_crash 0 = .ok (.aload_n 0, 1) := by decide +kernel
theorem dX11_crash_1 : decode cX11_crash 1 = .ok (.iload_n 1, 1) := by decide +kernel
theorem dX11_crash_2 : decode cX11_crash 2 = .ok (.invokevirtual 211, 3) := by decide +kernel
theorem dX11_crash_5 : decode cX11_crash 5 = .ok (.ifCond .ne 5, 3) := by decide +kernel
theorem dX11_crash_8 : decode cX11_crash 8 = .ok (.iconst (-1), 1) := by decide +kernel
theorem dX11_crash_9 : decode cX11_crash 9 = .ok (.ireturn, 1) := by decide +kernel
theorem dX11_crash_10 : decode cX11_crash 10 = .ok (.aload_n 0, 1) := by decide +kernel
theorem dX11_crash_11 : decode cX11_crash 11 = .ok (.getfield 7, 3) := by decide +kernel
theorem dX11_crash_14 : decode cX11_crash 14 = .ok (.iload_n 1, 1) := by decide +kernel
theorem dX11_crash_15 : decode cX11_crash 15 = .ok (.baload, 1) := by decide +kernel
theorem dX11_crash_16 : decode cX11_crash 16 = .ok (.ifCond .ne 5, 3) := by decide +kernel
theorem dX11_crash_19 : decode cX11_crash 19 = .ok (.iconst 0, 1) := by decide +kernel
theorem dX11_crash_20 : decode cX11_crash 20 = .ok (.ireturn, 1) := by decide +kernel
theorem dX11_crash_21 : decode cX11_crash 21 = .ok (.aload_n 0, 1) := by decide +kernel
theorem dX11_crash_22 : decode cX11_crash 22 = .ok (.getfield 7, 3) := by decide +kernel
theorem dX11_crash_25 : decode cX11_crash 25 = .ok (.iload_n 1, 1) := by decide +kernel
theorem dX11_crash_26 : decode cX11_crash 26 = .ok (.iconst 0, 1) := by decide +kernel
theorem dX11_crash_27 : decode cX11_crash 27 = .ok (.bastore, 1) := by decide +kernel
theorem dX11_crash_28 : decode cX11_crash 28 = .ok (.iload_n 1, 1) := by decide +kernel
theorem dX11_crash_29 : decode cX11_crash 29 = .ok (.aload_n 0, 1) := by decide +kernel
theorem dX11_crash_30 : decode cX11_crash 30 = .ok (.getfield 97, 3) := by decide +kernel
theorem dX11_crash_33 : decode cX11_crash 33 = .ok (.if_icmp .lt 15, 3) := by decide +kernel
theorem dX11_crash_36 : decode cX11_crash 36 = .ok (.aload_n 0, 1) := by decide +kernel
theorem dX11_crash_37 : decode cX11_crash 37 = .ok (.iload_n 1, 1) := by decide +kernel
theorem dX11_crash_38 : decode cX11_crash 38 = .ok (.aload_n 0, 1) := by decide +kernel
theorem dX11_crash_39 : decode cX11_crash 39 = .ok (.getfield 97, 3) := by decide +kernel
theorem dX11_crash_42 : decode cX11_crash 42 = .ok (.isub, 1) := by decide +kernel
theorem dX11_crash_43 : decode cX11_crash 43 = .ok (.invokevirtual 116, 3) := by decide +kernel
theorem dX11_crash_46 : decode cX11_crash 46 = .ok (.iconst 1, 1) := by decide +kernel
theorem dX11_crash_47 : decode cX11_crash 47 = .ok (.ireturn, 1) := by decide +kernel
theorem dX11_crash_48 : decode cX11_crash 48 = .ok (.iconst 0, 1) := by decide +kernel
theorem dX11_crash_49 : decode cX11_crash 49 = .ok (.istore_n 2, 1) := by decide +kernel
theorem dX11_crash_50 : decode cX11_crash 50 = .ok (.iload_n 2, 1) := by decide +kernel
theorem dX11_crash_51 : decode cX11_crash 51 = .ok (.aload_n 0, 1) := by decide +kernel
theorem dX11_crash_52 : decode cX11_crash 52 = .ok (.getfield 104, 3) := by decide +kernel
theorem dX11_crash_55 : decode cX11_crash 55 = .ok (.if_icmp .ge 50, 3) := by decide +kernel
theorem dX11_crash_58 : decode cX11_crash 58 = .ok (.bipush 16, 2) := by decide +kernel
theorem dX11_crash_60 : decode cX11_crash 60 = .ok (.iload_n 1, 1) := by decide +kernel
theorem dX11_crash_61 : decode cX11_crash 61 = .ok (.imul, 1) := by decide +kernel
theorem dX11_crash_62 : decode cX11_crash 62 = .ok (.iload_n 2, 1) := by decide +kernel
theorem dX11_crash_63 : decode cX11_crash 63 = .ok (.iadd, 1) := by decide +kernel
theorem dX11_crash_64 : decode cX11_crash 64 = .ok (.istore_n 3, 1) := by decide +kernel
theorem dX11_crash_65 : decode cX11_crash 65 = .ok (.aload_n 0, 1) := by decide +kernel
theorem dX11_crash_66 : decode cX11_crash 66 = .ok (.getfield 42, 3) := by decide +kernel
theorem dX11_crash_69 : decode cX11_crash 69 = .ok (.iload_n 3, 1) := by decide +kernel
theorem dX11_crash_70 : decode cX11_crash 70 = .ok (.baload, 1) := by decide +kernel
theorem dX11_crash_71 : decode cX11_crash 71 = .ok (.ifCond .eq 28, 3) := by decide +kernel
theorem dX11_crash_74 : decode cX11_crash 74 = .ok (.aload_n 0, 1) := by decide +kernel
theorem dX11_crash_75 : decode cX11_crash 75 = .ok (.getfield 45, 3) := by decide +kernel
theorem dX11_crash_78 : decode cX11_crash 78 = .ok (.iload_n 3, 1) := by decide +kernel
theorem dX11_crash_79 : decode cX11_crash 79 = .ok (.iaload, 1) := by decide +kernel
theorem dX11_crash_80 : decode cX11_crash 80 = .ok (.iconst 1, 1) := by decide +kernel
theorem dX11_crash_81 : decode cX11_crash 81 = .ok (.if_icmp .ne 12, 3) := by decide +kernel
theorem dX11_crash_84 : decode cX11_crash 84 = .ok (.aload_n 0, 1) := by decide +kernel
theorem dX11_crash_85 : decode cX11_crash 85 = .ok (.getfield 48, 3) := by decide +kernel
theorem dX11_crash_88 : decode cX11_crash 88 = .ok (.iload_n 3, 1) := by decide +kernel
theorem dX11_crash_89 : decode cX11_crash 89 = .ok (.iaload, 1) := by decide +kernel
theorem dX11_crash_90 : decode cX11_crash 90 = .ok (.ifCond .eq 9, 3) := by decide +kernel
theorem dX11_crash_93 : decode cX11_crash 93 = .ok (.aload_n 0, 1) := by decide +kernel
theorem dX11_crash_94 : decode cX11_crash 94 = .ok (.iload_n 1, 1) := by decide +kernel
theorem dX11_crash_95 : decode cX11_crash 95 = .ok (.iload_n 2, 1) := by decide +kernel
theorem dX11_crash_96 : decode cX11_crash 96 = .ok (.invokevirtual 150, 3) := by decide +kernel
theorem dX11_crash_99 : decode cX11_crash 99 = .ok (.iinc 2 1, 3) := by decide +kernel
theorem dX11_crash_102 : decode cX11_crash 102 = .ok (.goto (-52), 3) := by decide +kernel
theorem dX11_crash_105 : decode cX11_crash 105 = .ok (.iconst 1, 1) := by decide +kernel
theorem dX11_crash_106 : decode cX11_crash 106 = .ok (.ireturn, 1) := by decide +kernel
theorem dX11_restart_0 : decode cX11_restart 0 = .ok (.aload_n 0, 1) := by decide +kernel
theorem dX11_restart_1 : decode cX11_restart 1 = .ok (.iload_n 1, 1) := by decide +kernel
theorem dX11_restart_2 : decode cX11_restart 2 = .ok (.invokevirtual 211, 3) := by decide +kernel
theorem dX11_restart_5 : decode cX11_restart 5 = .ok (.ifCond .ne 5, 3) := by decide +kernel
theorem dX11_restart_8 : decode cX11_restart 8 = .ok (.iconst (-1), 1) := by decide +kernel
theorem dX11_restart_9 : decode cX11_restart 9 = .ok (.ireturn, 1) := by decide +kernel
theorem dX11_restart_10 : decode cX11_restart 10 = .ok (.aload_n 0, 1) := by decide +kernel
theorem dX11_restart_11 : decode cX11_restart 11 = .ok (.getfield 7, 3) := by decide +kernel
theorem dX11_restart_14 : decode cX11_restart 14 = .ok (.iload_n 1, 1) := by decide +kernel
theorem dX11_restart_15 : decode cX11_restart 15 = .ok (.baload, 1) := by decide +kernel
theorem dX11_restart_16 : decode cX11_restart 16 = .ok (.ifCond .eq 7, 3) := by decide +kernel
theorem dX11_restart_19 : decode cX11_restart 19 = .ok (.iconst 0, 1) := by decide +kernel
theorem dX11_restart_20 : decode cX11_restart 20 = .ok (.goto 4, 3) := by decide +kernel
theorem dX11_restart_23 : decode cX11_restart 23 = .ok (.iconst 1, 1) := by decide +kernel
theorem dX11_restart_24 : decode cX11_restart 24 = .ok (.istore_n 2, 1) := by decide +kernel
theorem dX11_restart_25 : decode cX11_restart 25 = .ok (.aload_n 0, 1) := by decide +kernel
theorem dX11_restart_26 : decode cX11_restart 26 = .ok (.getfield 7, 3) := by decide +kernel
theorem dX11_restart_29 : decode cX11_restart 29 = .ok (.iload_n 1, 1) := by decide +kernel
theorem dX11_restart_30 : decode cX11_restart 30 = .ok (.iconst 1, 1) := by decide +kernel
theorem dX11_restart_31 : decode cX11_restart 31 = .ok (.bastore, 1) := by decide +kernel
theorem dX11_restart_32 : decode cX11_restart 32 = .ok (.iload_n 2, 1) := by decide +kernel
theorem dX11_restart_33 : decode cX11_restart 33 = .ok (.ireturn, 1) := by decide +kernel
theorem dX11_pending_0 : decode cX11_pending 0 = .ok (.aload_n 0, 1) := by decide +kernel
theorem dX11_pending_1 : decode cX11_pending 1 = .ok (.getfield 157, 3) := by decide +kernel
theorem dX11_pending_4 : decode cX11_pending 4 = .ok (.ireturn, 1) := by decide +kernel
theorem dX11_play_0 : decode cX11_play 0 = .ok (.iload_n 3, 1) := by decide +kernel
theorem dX11_play_1 : decode cX11_play 1 = .ok (.iconst 0, 1) := by decide +kernel
theorem dX11_play_2 : decode cX11_play 2 = .ok (.sipush 400, 3) := by decide +kernel
theorem dX11_play_5 : decode cX11_play 5 = .ok (.invokestatic 120, 3) := by decide +kernel
theorem dX11_play_8 : decode cX11_play 8 = .ok (.ifCond .ne 5, 3) := by decide +kernel
theorem dX11_play_11 : decode cX11_play 11 = .ok (.iconst (-1), 1) := by decide +kernel
theorem dX11_play_12 : decode cX11_play 12 = .ok (.ireturn, 1) := by decide +kernel
theorem dX11_play_13 : decode cX11_play 13 = .ok (.lload_n 1, 1) := by decide +kernel
theorem dX11_play_14 : decode cX11_play 14 = .ok (.lstore 4, 2) := by decide +kernel
theorem dX11_play_16 : decode cX11_play 16 = .ok (.iconst 0, 1) := by decide +kernel
theorem dX11_play_17 : decode cX11_play 17 = .ok (.istore 6, 2) := by decide +kernel
theorem dX11_play_19 : decode cX11_play 19 = .ok (.iload 6, 2) := by decide +kernel
theorem dX11_play_21 : decode cX11_play 21 = .ok (.iload_n 3, 1) := by decide +kernel
theorem dX11_play_22 : decode cX11_play 22 = .ok (.if_icmp .ge 52, 3) := by decide +kernel
theorem dX11_play_25 : decode cX11_play 25 = .ok (.aload_n 0, 1) := by decide +kernel
theorem dX11_play_26 : decode cX11_play 26 = .ok (.getfield 157, 3) := by decide +kernel
theorem dX11_play_29 : decode cX11_play 29 = .ok (.ifCond .le 45, 3) := by decide +kernel
theorem dX11_play_32 : decode cX11_play 32 = .ok (.lload 4, 2) := by decide +kernel
theorem dX11_play_34 : decode cX11_play 34 = .ok (.ldc2_w 214, 3) := by decide +kernel
theorem dX11_play_37 : decode cX11_play 37 = .ok (.lmul, 1) := by decide +kernel
theorem dX11_play_38 : decode cX11_play 38 = .ok (.ldc2_w 216, 3) := by decide +kernel
theorem dX11_play_41 : decode cX11_play 41 = .ok (.ladd, 1) := by decide +kernel
theorem dX11_play_42 : decode cX11_play 42 = .ok (.lstore 4, 2) := by decide +kernel
theorem dX11_play_44 : decode cX11_play 44 = .ok (.lload 4, 2) := by decide +kernel
theorem dX11_play_46 : decode cX11_play 46 = .ok (.bipush 32, 2) := by decide +kernel
theorem dX11_play_48 : decode cX11_play 48 = .ok (.lushr, 1) := by decide +kernel
theorem dX11_play_49 : decode cX11_play 49 = .ok (.l2i, 1) := by decide +kernel
theorem dX11_play_50 : decode cX11_play 50 = .ok (.ldc 218, 2) := by decide +kernel
theorem dX11_play_52 : decode cX11_play 52 = .ok (.iand, 1) := by decide +kernel
theorem dX11_play_53 : decode cX11_play 53 = .ok (.istore 7, 2) := by decide +kernel
theorem dX11_play_55 : decode cX11_play 55 = .ok (.aload_n 0, 1) := by decide +kernel
theorem dX11_play_56 : decode cX11_play 56 = .ok (.iload 7, 2) := by decide +kernel
theorem dX11_play_58 : decode cX11_play 58 = .ok (.aload_n 0, 1) := by decide +kernel
theorem dX11_play_59 : decode cX11_play 59 = .ok (.getfield 157, 3) := by decide +kernel
theorem dX11_play_62 : decode cX11_play 62 = .ok (.irem, 1) := by decide +kernel
theorem dX11_play_63 : decode cX11_play 63 = .ok (.invokevirtual 219, 3) := by decide +kernel
theorem dX11_play_66 : decode cX11_play 66 = .ok (.istore 8, 2) := by decide +kernel
theorem dX11_play_68 : decode cX11_play 68 = .ok (.iinc 6 1, 3) := by decide +kernel
theorem dX11_play_71 : decode cX11_play 71 = .ok (.goto (-52), 3) := by decide +kernel
theorem dX11_play_74 : decode cX11_play 74 = .ok (.iload 6, 2) := by decide +kernel
theorem dX11_play_76 : decode cX11_play 76 = .ok (.ireturn, 1) := by decide +kernel
theorem dX11_message_0 : decode cX11_message 0 = .ok (.aload_n 0, 1) := by decide +kernel
theorem dX11_message_1 : decode cX11_message 1 = .ok (.iload_n 1, 1) := by decide +kernel
theorem dX11_message_2 : decode cX11_message 2 = .ok (.invokevirtual 163, 3) := by decide +kernel
theorem dX11_message_5 : decode cX11_message 5 = .ok (.ifCond .eq 27, 3) := by decide +kernel
theorem dX11_message_8 : decode cX11_message 8 = .ok (.iload_n 2, 1) := by decide +kernel
theorem dX11_message_9 : decode cX11_message 9 = .ok (.iconst 0, 1) := by decide +kernel
theorem dX11_message_10 : decode cX11_message 10 = .ok (.bipush 6, 2) := by decide +kernel
theorem dX11_message_12 : decode cX11_message 12 = .ok (.invokestatic 120, 3) := by decide +kernel
theorem dX11_message_15 : decode cX11_message 15 = .ok (.ifCond .eq 17, 3) := by decide +kernel
theorem dX11_message_18 : decode cX11_message 18 = .ok (.aload_n 0, 1) := by decide +kernel
theorem dX11_message_19 : decode cX11_message 19 = .ok (.getfield 81, 3) := by decide +kernel
theorem dX11_message_22 : decode cX11_message 22 = .ok (.bipush 7, 2) := by decide +kernel
theorem dX11_message_24 : decode cX11_message 24 = .ok (.iload_n 1, 1) := by decide +kernel
theorem dX11_message_25 : decode cX11_message 25 = .ok (.imul, 1) := by decide +kernel
theorem dX11_message_26 : decode cX11_message 26 = .ok (.iload_n 2, 1) := by decide +kernel
theorem dX11_message_27 : decode cX11_message 27 = .ok (.iadd, 1) := by decide +kernel
theorem dX11_message_28 : decode cX11_message 28 = .ok (.iaload, 1) := by decide +kernel
theorem dX11_message_29 : decode cX11_message 29 = .ok (.goto 4, 3) := by decide +kernel
theorem dX11_message_32 : decode cX11_message 32 = .ok (.iconst (-1), 1) := by decide +kernel
theorem dX11_message_33 : decode cX11_message 33 = .ok (.ireturn, 1) := by decide +kernel
theorem dX11_lock_0 : decode cX11_lock 0 = .ok (.aload_n 0, 1) := by decide +kernel
theorem dX11_lock_1 : decode cX11_lock 1 = .ok (.iload_n 1, 1) := by decide +kernel
theorem dX11_lock_2 : decode cX11_lock 2 = .ok (.invokevirtual 136, 3) := by decide +kernel
theorem dX11_lock_5 : decode cX11_lock 5 = .ok (.ifCond .eq 12, 3) := by decide +kernel
theorem dX11_lock_8 : decode cX11_lock 8 = .ok (.iload_n 2, 1) := by decide +kernel
theorem dX11_lock_9 : decode cX11_lock 9 = .ok (.iconst 0, 1) := by decide +kernel
theorem dX11_lock_10 : decode cX11_lock 10 = .ok (.iconst 2, 1) := by decide +kernel
theorem dX11_lock_11 : decode cX11_lock 11 = .ok (.invokestatic 120, 3) := by decide +kernel
theorem dX11_lock_14 : decode cX11_lock 14 = .ok (.ifCond .ne 5, 3) := by decide +kernel
theorem dX11_lock_17 : decode cX11_lock 17 = .ok (.iconst (-1), 1) := by decide +kernel
theorem dX11_lock_18 : decode cX11_lock 18 = .ok (.ireturn, 1) := by decide +kernel
theorem dX11_lock_19 : decode cX11_lock 19 = .ok (.iload_n 2, 1) := by decide +kernel
theorem dX11_lock_20 : decode cX11_lock 20 = .ok (.ifCond .ne 13, 3) := by decide +kernel
theorem dX11_lock_23 : decode cX11_lock 23 = .ok (.aload_n 0, 1) := by decide +kernel
theorem dX11_lock_24 : decode cX11_lock 24 = .ok (.getfield 24, 3) := by decide +kernel
theorem dX11_lock_27 : decode cX11_lock 27 = .ok (.iload_n 1, 1) := by decide +kernel
theorem dX11_lock_28 : decode cX11_lock 28 = .ok (.iaload, 1) := by decide +kernel
theorem dX11_lock_29 : decode cX11_lock 29 = .ok (.invokestatic 124, 3) := by decide +kernel
theorem dX11_lock_32 : decode cX11_lock 32 = .ok (.ireturn, 1) := by decide +kernel
theorem dX11_lock_33 : decode cX11_lock 33 = .ok (.iload_n 2, 1) := by decide +kernel
theorem dX11_lock_34 : decode cX11_lock 34 = .ok (.iconst 2, 1) := by decide +kernel
theorem dX11_lock_35 : decode cX11_lock 35 = .ok (.if_icmp .ne 18, 3) := by decide +kernel
theorem dX11_lock_38 : decode cX11_lock 38 = .ok (.aload_n 0, 1) := by decide +kernel
theorem dX11_lock_39 : decode cX11_lock 39 = .ok (.getfield 27, 3) := by decide +kernel
theorem dX11_lock_42 : decode cX11_lock 42 = .ok (.iload_n 1, 1) := by decide +kernel
theorem dX11_lock_43 : decode cX11_lock 43 = .ok (.iaload, 1) := by decide +kernel
theorem dX11_lock_44 : decode cX11_lock 44 = .ok (.ifCond .lt 7, 3) := by decide +kernel
theorem dX11_lock_47 : decode cX11_lock 47 = .ok (.iconst 1, 1) := by decide +kernel
theorem dX11_lock_48 : decode cX11_lock 48 = .ok (.goto 4, 3) := by decide +kernel
theorem dX11_lock_51 : decode cX11_lock 51 = .ok (.iconst 0, 1) := by decide +kernel
theorem dX11_lock_52 : decode cX11_lock 52 = .ok (.ireturn, 1) := by decide +kernel
theorem dX11_lock_53 : decode cX11_lock 53 = .ok (.iconst 0, 1) := by decide +kernel
theorem dX11_lock_54 : decode cX11_lock 54 = .ok (.istore_n 3, 1) := by decide +kernel
theorem dX11_lock_55 : decode cX11_lock 55 = .ok (.iload_n 3, 1) := by decide +kernel
theorem dX11_lock_56 : decode cX11_lock 56 = .ok (.bipush 16, 2) := by decide +kernel
theorem dX11_lock_58 : decode cX11_lock 58 = .ok (.if_icmp .ge 22, 3) := by decide +kernel
theorem dX11_lock_61 : decode cX11_lock 61 = .ok (.aload_n 0, 1) := by decide +kernel
theorem dX11_lock_62 : decode cX11_lock 62 = .ok (.getfield 24, 3) := by decide +kernel
theorem dX11_lock_65 : decode cX11_lock 65 = .ok (.iload_n 1, 1) := by decide +kernel
theorem dX11_lock_66 : decode cX11_lock 66 = .ok (.iaload, 1) := by decide +kernel
theorem dX11_lock_67 : decode cX11_lock 67 = .ok (.iload_n 3, 1) := by decide +kernel
theorem dX11_lock_68 : decode cX11_lock 68 = .ok (.ishr, 1) := by decide +kernel
theorem dX11_lock_69 : decode cX11_lock 69 = .ok (.iconst 1, 1) := by decide +kernel
theorem dX11_lock_70 : decode cX11_lock 70 = .ok (.iand, 1) := by decide +kernel
theorem dX11_lock_71 : decode cX11_lock 71 = .ok (.ifCond .ne 9, 3) := by decide +kernel
theorem dX11_lock_74 : decode cX11_lock 74 = .ok (.iinc 3 1, 3) := by decide +kernel
theorem dX11_lock_77 : decode cX11_lock 77 = .ok (.goto (-22), 3) := by decide +kernel
theorem dX11_lock_80 : decode cX11_lock 80 = .ok (.iload_n 3, 1) := by decide +kernel
theorem dX11_lock_81 : decode cX11_lock 81 = .ok (.bipush 16, 2) := by decide +kernel
theorem dX11_lock_83 : decode cX11_lock 83 = .ok (.if_icmp .ge 7, 3) := by decide +kernel
theorem dX11_lock_86 : decode cX11_lock 86 = .ok (.iload_n 3, 1) := by decide +kernel
theorem dX11_lock_87 : decode cX11_lock 87 = .ok (.goto 4, 3) := by decide +kernel
theorem dX11_lock_90 : decode cX11_lock 90 = .ok (.iconst (-1), 1) := by decide +kernel
theorem dX11_lock_91 : decode cX11_lock 91 = .ok (.ireturn, 1) := by decide +kernel
theorem dX11_node_0 : decode cX11_node 0 = .ok (.aload_n 0, 1) := by decide +kernel
theorem dX11_node_1 : decode cX11_node 1 = .ok (.iload_n 1, 1) := by decide +kernel
theorem dX11_node_2 : decode cX11_node 2 = .ok (.invokevirtual 211, 3) := by decide +kernel
theorem dX11_node_5 : decode cX11_node 5 = .ok (.ifCond .eq 38, 3) := by decide +kernel
theorem dX11_node_8 : decode cX11_node 8 = .ok (.iload_n 2, 1) := by decide +kernel
theorem dX11_node_9 : decode cX11_node 9 = .ok (.iconst 0, 1) := by decide +kernel
theorem dX11_node_10 : decode cX11_node 10 = .ok (.iconst 4, 1) := by decide +kernel
theorem dX11_node_11 : decode cX11_node 11 = .ok (.invokestatic 120, 3) := by decide +kernel
theorem dX11_node_14 : decode cX11_node 14 = .ok (.ifCond .eq 29, 3) := by decide +kernel
theorem dX11_node_17 : decode cX11_node 17 = .ok (.iload_n 2, 1) := by decide +kernel
theorem dX11_node_18 : decode cX11_node 18 = .ok (.iconst 2, 1) := by decide +kernel
theorem dX11_node_19 : decode cX11_node 19 = .ok (.if_icmp .ne 11, 3) := by decide +kernel
theorem dX11_node_22 : decode cX11_node 22 = .ok (.iload_n 1, 1) := by decide +kernel
theorem dX11_node_23 : decode cX11_node 23 = .ok (.aload_n 0, 1) := by decide +kernel
theorem dX11_node_24 : decode cX11_node 24 = .ok (.getfield 97, 3) := by decide +kernel
theorem dX11_node_27 : decode cX11_node 27 = .ok (.if_icmp .ge 16, 3) := by decide +kernel
theorem dX11_node_30 : decode cX11_node 30 = .ok (.iload_n 2, 1) := by decide +kernel
theorem dX11_node_31 : decode cX11_node 31 = .ok (.iconst 2, 1) := by decide +kernel
theorem dX11_node_32 : decode cX11_node 32 = .ok (.if_icmp .le 13, 3) := by decide +kernel
theorem dX11_node_35 : decode cX11_node 35 = .ok (.iload_n 1, 1) := by decide +kernel
theorem dX11_node_36 : decode cX11_node 36 = .ok (.aload_n 0, 1) := by decide +kernel
theorem dX11_node_37 : decode cX11_node 37 = .ok (.getfield 97, 3) := by decide +kernel
theorem dX11_node_40 : decode cX11_node 40 = .ok (.if_icmp .ge 5, 3) := by decide +kernel
theorem dX11_node_43 : decode cX11_node 43 = .ok (.iconst (-1), 1) := by decide +kernel
theorem dX11_node_44 : decode cX11_node 44 = .ok (.ireturn, 1) := by decide +kernel
theorem dX11_node_45 : decode cX11_node 45 = .ok (.iload_n 2, 1) := by decide +kernel
theorem dX11_node_46 : decode cX11_node 46 = .ok (.iconst 2, 1) := by decide +kernel
theorem dX11_node_47 : decode cX11_node 47 = .ok (.if_icmp .ge 32, 3) := by decide +kernel
theorem dX11_node_50 : decode cX11_node 50 = .ok (.iload_n 2, 1) := by decide +kernel
theorem dX11_node_51 : decode cX11_node 51 = .ok (.iconst 1, 1) := by decide +kernel
theorem dX11_node_52 : decode cX11_node 52 = .ok (.if_icmp .ne 12, 3) := by decide +kernel
theorem dX11_node_55 : decode cX11_node 55 = .ok (.aload_n 0, 1) := by decide +kernel
theorem dX11_node_56 : decode cX11_node 56 = .ok (.getfield 13, 3) := by decide +kernel
theorem dX11_node_59 : decode cX11_node 59 = .ok (.iload_n 1, 1) := by decide +kernel
theorem dX11_node_60 : decode cX11_node 60 = .ok (.iaload, 1) := by decide +kernel
theorem dX11_node_61 : decode cX11_node 61 = .ok (.goto 17, 3) := by decide +kernel
theorem dX11_node_64 : decode cX11_node 64 = .ok (.aload_n 0, 1) := by decide +kernel
theorem dX11_node_65 : decode cX11_node 65 = .ok (.getfield 7, 3) := by decide +kernel
theorem dX11_node_68 : decode cX11_node 68 = .ok (.iload_n 1, 1) := by decide +kernel
theorem dX11_node_69 : decode cX11_node 69 = .ok (.baload, 1) := by decide +kernel
theorem dX11_node_70 : decode cX11_node 70 = .ok (.ifCond .eq 7, 3) := by decide +kernel
theorem dX11_node_73 : decode cX11_node 73 = .ok (.iconst 1, 1) := by decide +kernel
theorem dX11_node_74 : decode cX11_node 74 = .ok (.goto 4, 3) := by decide +kernel
theorem dX11_node_77 : decode cX11_node 77 = .ok (.iconst 0, 1) := by decide +kernel
theorem dX11_node_78 : decode cX11_node 78 = .ok (.ireturn, 1) := by decide +kernel
theorem dX11_node_79 : decode cX11_node 79 = .ok (.iconst 0, 1) := by decide +kernel
theorem dX11_node_80 : decode cX11_node 80 = .ok (.istore_n 3, 1) := by decide +kernel
theorem dX11_node_81 : decode cX11_node 81 = .ok (.iconst 0, 1) := by decide +kernel
theorem dX11_node_82 : decode cX11_node 82 = .ok (.istore 4, 2) := by decide +kernel
theorem dX11_node_84 : decode cX11_node 84 = .ok (.iload 4, 2) := by decide +kernel
theorem dX11_node_86 : decode cX11_node 86 = .ok (.aload_n 0, 1) := by decide +kernel
theorem dX11_node_87 : decode cX11_node 87 = .ok (.getfield 104, 3) := by decide +kernel
theorem dX11_node_90 : decode cX11_node 90 = .ok (.if_icmp .ge 90, 3) := by decide +kernel
theorem dX11_node_93 : decode cX11_node 93 = .ok (.iload_n 2, 1) := by decide +kernel
theorem dX11_node_94 : decode cX11_node 94 = .ok (.iconst 2, 1) := by decide +kernel
theorem dX11_node_95 : decode cX11_node 95 = .ok (.if_icmp .ne 29, 3) := by decide +kernel
theorem dX11_node_98 : decode cX11_node 98 = .ok (.iload_n 3, 1) := by decide +kernel
theorem dX11_node_99 : decode cX11_node 99 = .ok (.aload_n 0, 1) := by decide +kernel
theorem dX11_node_100 : decode cX11_node 100 = .ok (.getfield 42, 3) := by decide +kernel
theorem dX11_node_103 : decode cX11_node 103 = .ok (.bipush 16, 2) := by decide +kernel
theorem dX11_node_105 : decode cX11_node 105 = .ok (.iload_n 1, 1) := by decide +kernel
theorem dX11_node_106 : decode cX11_node 106 = .ok (.imul, 1) := by decide +kernel
theorem dX11_node_107 : decode cX11_node 107 = .ok (.iload 4, 2) := by decide +kernel
theorem dX11_node_109 : decode cX11_node 109 = .ok (.iadd, 1) := by decide +kernel
theorem dX11_node_110 : decode cX11_node 110 = .ok (.baload, 1) := by decide +kernel
theorem dX11_node_111 : decode cX11_node 111 = .ok (.ifCond .eq 7, 3) := by decide +kernel
theorem dX11_node_114 : decode cX11_node 114 = .ok (.iconst 1, 1) := by decide +kernel
theorem dX11_node_115 : decode cX11_node 115 = .ok (.goto 4, 3) := by decide +kernel
theorem dX11_node_118 : decode cX11_node 118 = .ok (.iconst 0, 1) := by decide +kernel
theorem dX11_node_119 : decode cX11_node 119 = .ok (.iadd, 1) := by decide +kernel
theorem dX11_node_120 : decode cX11_node 120 = .ok (.istore_n 3, 1) := by decide +kernel
theorem dX11_node_121 : decode cX11_node 121 = .ok (.goto 53, 3) := by decide +kernel
theorem dX11_node_124 : decode cX11_node 124 = .ok (.bipush 16, 2) := by decide +kernel
theorem dX11_node_126 : decode cX11_node 126 = .ok (.iload_n 1, 1) := by decide +kernel
theorem dX11_node_127 : decode cX11_node 127 = .ok (.aload_n 0, 1) := by decide +kernel
theorem dX11_node_128 : decode cX11_node 128 = .ok (.getfield 97, 3) := by decide +kernel
theorem dX11_node_131 : decode cX11_node 131 = .ok (.isub, 1) := by decide +kernel
theorem dX11_node_132 : decode cX11_node 132 = .ok (.imul, 1) := by decide +kernel
theorem dX11_node_133 : decode cX11_node 133 = .ok (.iload 4, 2) := by decide +kernel
theorem dX11_node_135 : decode cX11_node 135 = .ok (.iadd, 1) := by decide +kernel
theorem dX11_node_136 : decode cX11_node 136 = .ok (.istore 5, 2) := by decide +kernel
theorem dX11_node_138 : decode cX11_node 138 = .ok (.iload_n 3, 1) := by decide +kernel
theorem dX11_node_139 : decode cX11_node 139 = .ok (.iload_n 2, 1) := by decide +kernel
theorem dX11_node_140 : decode cX11_node 140 = .ok (.iconst 3, 1) := by decide +kernel
theorem dX11_node_141 : decode cX11_node 141 = .ok (.if_icmp .ne 16, 3) := by decide +kernel
theorem dX11_node_144 : decode cX11_node 144 = .ok (.aload_n 0, 1) := by decide +kernel
theorem dX11_node_145 : decode cX11_node 145 = .ok (.getfield 51, 3) := by decide +kernel
theorem dX11_node_148 : decode cX11_node 148 = .ok (.iload 5, 2) := by decide +kernel
theorem dX11_node_150 : decode cX11_node 150 = .ok (.iaload, 1) := by decide +kernel
theorem dX11_node_151 : decode cX11_node 151 = .ok (.ifCond .ne 20, 3) := by decide +kernel
theorem dX11_node_154 : decode cX11_node 154 = .ok (.goto 13, 3) := by decide +kernel
theorem dX11_node_157 : decode cX11_node 157 = .ok (.aload_n 0, 1) := by decide +kernel
theorem dX11_node_158 : decode cX11_node 158 = .ok (.getfield 57, 3) := by decide +kernel
theorem dX11_node_161 : decode cX11_node 161 = .ok (.iload 5, 2) := by decide +kernel
theorem dX11_node_163 : decode cX11_node 163 = .ok (.iaload, 1) := by decide +kernel
theorem dX11_node_164 : decode cX11_node 164 = .ok (.ifCond .eq 7, 3) := by decide +kernel
theorem dX11_node_167 : decode cX11_node 167 = .ok (.iconst 1, 1) := by decide +kernel
theorem dX11_node_168 : decode cX11_node 168 = .ok (.goto 4, 3) := by decide +kernel
theorem dX11_node_171 : decode cX11_node 171 = .ok (.iconst 0, 1) := by decide +kernel
theorem dX11_node_172 : decode cX11_node 172 = .ok (.iadd, 1) := by decide +kernel
theorem dX11_node_173 : decode cX11_node 173 = .ok (.istore_n 3, 1) := by decide +kernel
theorem dX11_node_174 : decode cX11_node 174 = .ok (.iinc 4 1, 3) := by decide +kernel
theorem dX11_node_177 : decode cX11_node 177 = .ok (.goto (-93), 3) := by decide +kernel
theorem dX11_node_180 : decode cX11_node 180 = .ok (.iload_n 3, 1) := by decide +kernel
theorem dX11_node_181 : decode cX11_node 181 = .ok (.ireturn, 1) := by decide +kernel
theorem dX11_entry_0 : decode cX11_entry 0 = .ok (.aload_n 0, 1) := by decide +kernel
theorem dX11_entry_1 : decode cX11_entry 1 = .ok (.iload_n 1, 1) := by decide +kernel
theorem dX11_entry_2 : decode cX11_entry 2 = .ok (.invokevirtual 211, 3) := by decide +kernel
theorem dX11_entry_5 : decode cX11_entry 5 = .ok (.ifCond .eq 47, 3) := by decide +kernel
theorem dX11_entry_8 : decode cX11_entry 8 = .ok (.iload_n 2, 1) := by decide +kernel
theorem dX11_entry_9 : decode cX11_entry 9 = .ok (.iconst 0, 1) := by decide +kernel
theorem dX11_entry_10 : decode cX11_entry 10 = .ok (.aload_n 0, 1) := by decide +kernel
theorem dX11_entry_11 : decode cX11_entry 11 = .ok (.getfield 13, 3) := by decide +kernel
theorem dX11_entry_14 : decode cX11_entry 14 = .ok (.iload_n 1, 1) := by decide +kernel
theorem dX11_entry_15 : decode cX11_entry 15 = .ok (.iaload, 1) := by decide +kernel
theorem dX11_entry_16 : decode cX11_entry 16 = .ok (.iconst 1, 1) := by decide +kernel
theorem dX11_entry_17 : decode cX11_entry 17 = .ok (.isub, 1) := by decide +kernel
theorem dX11_entry_18 : decode cX11_entry 18 = .ok (.invokestatic 120, 3) := by decide +kernel
theorem dX11_entry_21 : decode cX11_entry 21 = .ok (.ifCond .eq 31, 3) := by decide +kernel
theorem dX11_entry_24 : decode cX11_entry 24 = .ok (.iload_n 3, 1) := by decide +kernel
theorem dX11_entry_25 : decode cX11_entry 25 = .ok (.iconst 0, 1) := by decide +kernel
theorem dX11_entry_26 : decode cX11_entry 26 = .ok (.iconst 3, 1) := by decide +kernel
theorem dX11_entry_27 : decode cX11_entry 27 = .ok (.invokestatic 120, 3) := by decide +kernel
theorem dX11_entry_30 : decode cX11_entry 30 = .ok (.ifCond .eq 22, 3) := by decide +kernel
theorem dX11_entry_33 : decode cX11_entry 33 = .ok (.aload_n 0, 1) := by decide +kernel
theorem dX11_entry_34 : decode cX11_entry 34 = .ok (.getfield 17, 3) := by decide +kernel
theorem dX11_entry_37 : decode cX11_entry 37 = .ok (.sipush 800, 3) := by decide +kernel
theorem dX11_entry_40 : decode cX11_entry 40 = .ok (.iload_n 1, 1) := by decide +kernel
theorem dX11_entry_41 : decode cX11_entry 41 = .ok (.imul, 1) := by decide +kernel
theorem dX11_entry_42 : decode cX11_entry 42 = .ok (.iconst 4, 1) := by decide +kernel
theorem dX11_entry_43 : decode cX11_entry 43 = .ok (.iload_n 2, 1) := by decide +kernel
theorem dX11_entry_44 : decode cX11_entry 44 = .ok (.imul, 1) := by decide +kernel
theorem dX11_entry_45 : decode cX11_entry 45 = .ok (.iadd, 1) := by decide +kernel
theorem dX11_entry_46 : decode cX11_entry 46 = .ok (.iload_n 3, 1) := by decide +kernel
theorem dX11_entry_47 : decode cX11_entry 47 = .ok (.iadd, 1) := by decide +kernel
theorem dX11_entry_48 : decode cX11_entry 48 = .ok (.iaload, 1) := by decide +kernel
theorem dX11_entry_49 : decode cX11_entry 49 = .ok (.goto 4, 3) := by decide +kernel
theorem dX11_entry_52 : decode cX11_entry 52 = .ok (.iconst (-1), 1) := by decide +kernel
theorem dX11_entry_53 : decode cX11_entry 53 = .ok (.ireturn, 1) := by decide +kernel
theorem dX11_ballot_0 : decode cX11_ballot 0 = .ok (.aload_n 0, 1) := by decide +kernel
theorem dX11_ballot_1 : decode cX11_ballot 1 = .ok (.iload_n 1, 1) := by decide +kernel
theorem dX11_ballot_2 : decode cX11_ballot 2 = .ok (.invokevirtual 208, 3) := by decide +kernel
theorem dX11_ballot_5 : decode cX11_ballot 5 = .ok (.ifCond .eq 20, 3) := by decide +kernel
theorem dX11_ballot_8 : decode cX11_ballot 8 = .ok (.aload_n 0, 1) := by decide +kernel
theorem dX11_ballot_9 : decode cX11_ballot 9 = .ok (.iload_n 2, 1) := by decide +kernel
theorem dX11_ballot_10 : decode cX11_ballot 10 = .ok (.invokevirtual 132, 3) := by decide +kernel
theorem dX11_ballot_13 : decode cX11_ballot 13 = .ok (.ifCond .eq 12, 3) := by decide +kernel
theorem dX11_ballot_16 : decode cX11_ballot 16 = .ok (.iload_n 3, 1) := by decide +kernel
theorem dX11_ballot_17 : decode cX11_ballot 17 = .ok (.iconst 0, 1) := by decide +kernel
theorem dX11_ballot_18 : decode cX11_ballot 18 = .ok (.iconst 3, 1) := by decide +kernel
theorem dX11_ballot_19 : decode cX11_ballot 19 = .ok (.invokestatic 120, 3) := by decide +kernel
theorem dX11_ballot_22 : decode cX11_ballot 22 = .ok (.ifCond .ne 5, 3) := by decide +kernel
theorem dX11_ballot_25 : decode cX11_ballot 25 = .ok (.iconst (-1), 1) := by decide +kernel
theorem dX11_ballot_26 : decode cX11_ballot 26 = .ok (.ireturn, 1) := by decide +kernel
theorem dX11_ballot_27 : decode cX11_ballot 27 = .ok (.bipush 16, 2) := by decide +kernel
theorem dX11_ballot_29 : decode cX11_ballot 29 = .ok (.iload_n 1, 1) := by decide +kernel
theorem dX11_ballot_30 : decode cX11_ballot 30 = .ok (.aload_n 0, 1) := by decide +kernel
theorem dX11_ballot_31 : decode cX11_ballot 31 = .ok (.getfield 97, 3) := by decide +kernel
theorem dX11_ballot_34 : decode cX11_ballot 34 = .ok (.isub, 1) := by decide +kernel
theorem dX11_ballot_35 : decode cX11_ballot 35 = .ok (.imul, 1) := by decide +kernel
theorem dX11_ballot_36 : decode cX11_ballot 36 = .ok (.iload_n 2, 1) := by decide +kernel
theorem dX11_ballot_37 : decode cX11_ballot 37 = .ok (.iadd, 1) := by decide +kernel
theorem dX11_ballot_38 : decode cX11_ballot 38 = .ok (.istore 4, 2) := by decide +kernel
theorem dX11_ballot_40 : decode cX11_ballot 40 = .ok (.iload_n 3, 1) := by decide +kernel
theorem dX11_ballot_41 : decode cX11_ballot 41 = .ok (.ifCond .ne 13, 3) := by decide +kernel
theorem dX11_ballot_44 : decode cX11_ballot 44 = .ok (.aload_n 0, 1) := by decide +kernel
theorem dX11_ballot_45 : decode cX11_ballot 45 = .ok (.getfield 51, 3) := by decide +kernel
theorem dX11_ballot_48 : decode cX11_ballot 48 = .ok (.iload 4, 2) := by decide +kernel
theorem dX11_ballot_50 : decode cX11_ballot 50 = .ok (.iaload, 1) := by decide +kernel
theorem dX11_ballot_51 : decode cX11_ballot 51 = .ok (.goto 43, 3) := by decide +kernel
theorem dX11_ballot_54 : decode cX11_ballot 54 = .ok (.iload_n 3, 1) := by decide +kernel
theorem dX11_ballot_55 : decode cX11_ballot 55 = .ok (.iconst 1, 1) := by decide +kernel
theorem dX11_ballot_56 : decode cX11_ballot 56 = .ok (.if_icmp .ne 13, 3) := by decide +kernel
theorem dX11_ballot_59 : decode cX11_ballot 59 = .ok (.aload_n 0, 1) := by decide +kernel
theorem dX11_ballot_60 : decode cX11_ballot 60 = .ok (.getfield 54, 3) := by decide +kernel
theorem dX11_ballot_63 : decode cX11_ballot 63 = .ok (.iload 4, 2) := by decide +kernel
theorem dX11_ballot_65 : decode cX11_ballot 65 = .ok (.iaload, 1) := by decide +kernel
theorem dX11_ballot_66 : decode cX11_ballot 66 = .ok (.goto 28, 3) := by decide +kernel
theorem dX11_ballot_69 : decode cX11_ballot 69 = .ok (.iload_n 3, 1) := by decide +kernel
theorem dX11_ballot_70 : decode cX11_ballot 70 = .ok (.iconst 2, 1) := by decide +kernel
theorem dX11_ballot_71 : decode cX11_ballot 71 = .ok (.if_icmp .ne 13, 3) := by decide +kernel
theorem dX11_ballot_74 : decode cX11_ballot 74 = .ok (.aload_n 0, 1) := by decide +kernel
theorem dX11_ballot_75 : decode cX11_ballot 75 = .ok (.getfield 57, 3) := by decide +kernel
theorem dX11_ballot_78 : decode cX11_ballot 78 = .ok (.iload 4, 2) := by decide +kernel
theorem dX11_ballot_80 : decode cX11_ballot 80 = .ok (.iaload, 1) := by decide +kernel
theorem dX11_ballot_81 : decode cX11_ballot 81 = .ok (.goto 13, 3) := by decide +kernel
theorem dX11_ballot_84 : decode cX11_ballot 84 = .ok (.aload_n 0, 1) := by decide +kernel
theorem dX11_ballot_85 : decode cX11_ballot 85 = .ok (.getfield 60, 3) := by decide +kernel
theorem dX11_ballot_88 : decode cX11_ballot 88 = .ok (.iload 4, 2) := by decide +kernel
theorem dX11_ballot_90 : decode cX11_ballot 90 = .ok (.iaload, 1) := by decide +kernel
theorem dX11_ballot_91 : decode cX11_ballot 91 = .ok (.invokestatic 124, 3) := by decide +kernel
theorem dX11_ballot_94 : decode cX11_ballot 94 = .ok (.ireturn, 1) := by decide +kernel
theorem dX11_accepted_0 : decode cX11_accepted 0 = .ok (.aload_n 0, 1) := by decide +kernel
theorem dX11_accepted_1 : decode cX11_accepted 1 = .ok (.iload_n 1, 1) := by decide +kernel
theorem dX11_accepted_2 : decode cX11_accepted 2 = .ok (.invokevirtual 208, 3) := by decide +kernel
theorem dX11_accepted_5 : decode cX11_accepted 5 = .ok (.ifCond .eq 35, 3) := by decide +kernel
theorem dX11_accepted_8 : decode cX11_accepted 8 = .ok (.aload_n 0, 1) := by decide +kernel
theorem dX11_accepted_9 : decode cX11_accepted 9 = .ok (.iload_n 2, 1) := by decide +kernel
theorem dX11_accepted_10 : decode cX11_accepted 10 = .ok (.invokevirtual 132, 3) := by decide +kernel
theorem dX11_accepted_13 : decode cX11_accepted 13 = .ok (.ifCond .eq 27, 3) := by decide +kernel
theorem dX11_accepted_16 : decode cX11_accepted 16 = .ok (.iload_n 3, 1) := by decide +kernel
theorem dX11_accepted_17 : decode cX11_accepted 17 = .ok (.iconst 0, 1) := by decide +kernel
theorem dX11_accepted_18 : decode cX11_accepted 18 = .ok (.aload_n 0, 1) := by decide +kernel
theorem dX11_accepted_19 : decode cX11_accepted 19 = .ok (.getfield 97, 3) := by decide +kernel
theorem dX11_accepted_22 : decode cX11_accepted 22 = .ok (.iconst 1, 1) := by decide +kernel
theorem dX11_accepted_23 : decode cX11_accepted 23 = .ok (.isub, 1) := by decide +kernel
theorem dX11_accepted_24 : decode cX11_accepted 24 = .ok (.invokestatic 120, 3) := by decide +kernel
theorem dX11_accepted_27 : decode cX11_accepted 27 = .ok (.ifCond .eq 13, 3) := by decide +kernel
theorem dX11_accepted_30 : decode cX11_accepted 30 = .ok (.iload 4, 2) := by decide +kernel
theorem dX11_accepted_32 : decode cX11_accepted 32 = .ok (.iconst 0, 1) := by decide +kernel
theorem dX11_accepted_33 : decode cX11_accepted 33 = .ok (.iconst 2, 1) := by decide +kernel
theorem dX11_accepted_34 : decode cX11_accepted 34 = .ok (.invokestatic 120, 3) := by decide +kernel
theorem dX11_accepted_37 : decode cX11_accepted 37 = .ok (.ifCond .ne 5, 3) := by decide +kernel
theorem dX11_accepted_40 : decode cX11_accepted 40 = .ok (.iconst (-1), 1) := by decide +kernel
theorem dX11_accepted_41 : decode cX11_accepted 41 = .ok (.ireturn, 1) := by decide +kernel
theorem dX11_accepted_42 : decode cX11_accepted 42 = .ok (.bipush 64, 2) := by decide +kernel
theorem dX11_accepted_44 : decode cX11_accepted 44 = .ok (.iload_n 1, 1) := by decide +kernel
theorem dX11_accepted_45 : decode cX11_accepted 45 = .ok (.aload_n 0, 1) := by decide +kernel
theorem dX11_accepted_46 : decode cX11_accepted 46 = .ok (.getfield 97, 3) := by decide +kernel
theorem dX11_accepted_49 : decode cX11_accepted 49 = .ok (.isub, 1) := by decide +kernel
theorem dX11_accepted_50 : decode cX11_accepted 50 = .ok (.imul, 1) := by decide +kernel
theorem dX11_accepted_51 : decode cX11_accepted 51 = .ok (.iconst 4, 1) := by decide +kernel
theorem dX11_accepted_52 : decode cX11_accepted 52 = .ok (.iload_n 2, 1) := by decide +kernel
theorem dX11_accepted_53 : decode cX11_accepted 53 = .ok (.imul, 1) := by decide +kernel
theorem dX11_accepted_54 : decode cX11_accepted 54 = .ok (.iadd, 1) := by decide +kernel
theorem dX11_accepted_55 : decode cX11_accepted 55 = .ok (.iload_n 3, 1) := by decide +kernel
theorem dX11_accepted_56 : decode cX11_accepted 56 = .ok (.iadd, 1) := by decide +kernel
theorem dX11_accepted_57 : decode cX11_accepted 57 = .ok (.istore 5, 2) := by decide +kernel
theorem dX11_accepted_59 : decode cX11_accepted 59 = .ok (.iload 4, 2) := by decide +kernel
theorem dX11_accepted_61 : decode cX11_accepted 61 = .ok (.ifCond .ne 13, 3) := by decide +kernel
theorem dX11_accepted_64 : decode cX11_accepted 64 = .ok (.aload_n 0, 1) := by decide +kernel
theorem dX11_accepted_65 : decode cX11_accepted 65 = .ok (.getfield 63, 3) := by decide +kernel
theorem dX11_accepted_68 : decode cX11_accepted 68 = .ok (.iload 5, 2) := by decide +kernel
theorem dX11_accepted_70 : decode cX11_accepted 70 = .ok (.iaload, 1) := by decide +kernel
theorem dX11_accepted_71 : decode cX11_accepted 71 = .ok (.goto 37, 3) := by decide +kernel
theorem dX11_accepted_74 : decode cX11_accepted 74 = .ok (.iload 4, 2) := by decide +kernel
theorem dX11_accepted_76 : decode cX11_accepted 76 = .ok (.iconst 1, 1) := by decide +kernel
theorem dX11_accepted_77 : decode cX11_accepted 77 = .ok (.if_icmp .ne 13, 3) := by decide +kernel
theorem dX11_accepted_80 : decode cX11_accepted 80 = .ok (.aload_n 0, 1) := by decide +kernel
theorem dX11_accepted_81 : decode cX11_accepted 81 = .ok (.getfield 66, 3) := by decide +kernel
theorem dX11_accepted_84 : decode cX11_accepted 84 = .ok (.iload 5, 2) := by decide +kernel
theorem dX11_accepted_86 : decode cX11_accepted 86 = .ok (.iaload, 1) := by decide +kernel
theorem dX11_accepted_87 : decode cX11_accepted 87 = .ok (.goto 21, 3) := by decide +kernel
theorem dX11_accepted_90 : decode cX11_accepted 90 = .ok (.aload_n 0, 1) := by decide +kernel
theorem dX11_accepted_91 : decode cX11_accepted 91 = .ok (.getfield 69, 3) := by decide +kernel
theorem dX11_accepted_94 : decode cX11_accepted 94 = .ok (.iload 5, 2) := by decide +kernel
theorem dX11_accepted_96 : decode cX11_accepted 96 = .ok (.iaload, 1) := by decide +kernel
theorem dX11_accepted_97 : decode cX11_accepted 97 = .ok (.aload_n 0, 1) := by decide +kernel
theorem dX11_accepted_98 : decode cX11_accepted 98 = .ok (.getfield 72, 3) := by decide +kernel
theorem dX11_accepted_101 : decode cX11_accepted 101 = .ok (.iload 5, 2) := by decide +kernel
theorem dX11_accepted_103 : decode cX11_accepted 103 = .ok (.iaload, 1) := by decide +kernel
theorem dX11_accepted_104 : decode cX11_accepted 104 = .ok (.ior, 1) := by decide +kernel
theorem dX11_accepted_105 : decode cX11_accepted 105 = .ok (.invokestatic 124, 3) := by decide +kernel
theorem dX11_accepted_108 : decode cX11_accepted 108 = .ok (.ireturn, 1) := by decide +kernel
theorem dX11_count_0 : decode cX11_count 0 = .ok (.iconst 0, 1) := by decide +kernel
theorem dX11_count_1 : decode cX11_count 1 = .ok (.istore_n 2, 1) := by decide +kernel
theorem dX11_count_2 : decode cX11_count 2 = .ok (.iload_n 1, 1) := by decide +kernel
theorem dX11_count_3 : decode cX11_count 3 = .ok (.tableswitch 120 0 8 #[49, 54, 59, 64, 64, 100, 105, 110, 115], 49) := by decide +kernel
theorem dX11_count_52 : decode cX11_count 52 = .ok (.aload_n 0, 1) := by decide +kernel
theorem dX11_count_53 : decode cX11_count 53 = .ok (.getfield 154, 3) := by decide +kernel
theorem dX11_count_56 : decode cX11_count 56 = .ok (.ireturn, 1) := by decide +kernel
theorem dX11_count_57 : decode cX11_count 57 = .ok (.aload_n 0, 1) := by decide +kernel
theorem dX11_count_58 : decode cX11_count 58 = .ok (.getfield 160, 3) := by decide +kernel
theorem dX11_count_61 : decode cX11_count 61 = .ok (.ireturn, 1) := by decide +kernel
theorem dX11_count_62 : decode cX11_count 62 = .ok (.aload_n 0, 1) := by decide +kernel
theorem dX11_count_63 : decode cX11_count 63 = .ok (.getfield 169, 3) := by decide +kernel
theorem dX11_count_66 : decode cX11_count 66 = .ok (.ireturn, 1) := by decide +kernel
theorem dX11_count_67 : decode cX11_count 67 = .ok (.iconst 0, 1) := by decide +kernel
theorem dX11_count_68 : decode cX11_count 68 = .ok (.istore_n 3, 1) := by decide +kernel
theorem dX11_count_69 : decode cX11_count 69 = .ok (.iload_n 3, 1) := by decide +kernel
theorem dX11_count_70 : decode cX11_count 70 = .ok (.aload_n 0, 1) := by decide +kernel
theorem dX11_count_71 : decode cX11_count 71 = .ok (.getfield 104, 3) := by decide +kernel
theorem dX11_count_74 : decode cX11_count 74 = .ok (.if_icmp .ge 27, 3) := by decide +kernel
theorem dX11_count_77 : decode cX11_count 77 = .ok (.iload_n 2, 1) := by decide +kernel
theorem dX11_count_78 : decode cX11_count 78 = .ok (.aload_n 0, 1) := by decide +kernel
theorem dX11_count_79 : decode cX11_count 79 = .ok (.getfield 30, 3) := by decide +kernel
theorem dX11_count_82 : decode cX11_count 82 = .ok (.iload_n 3, 1) := by decide +kernel
theorem dX11_count_83 : decode cX11_count 83 = .ok (.iaload, 1) := by decide +kernel
theorem dX11_count_84 : decode cX11_count 84 = .ok (.iload_n 1, 1) := by decide +kernel
theorem dX11_count_85 : decode cX11_count 85 = .ok (.if_icmp .ne 7, 3) := by decide +kernel
theorem dX11_count_88 : decode cX11_count 88 = .ok (.iconst 1, 1) := by decide +kernel
theorem dX11_count_89 : decode cX11_count 89 = .ok (.goto 4, 3) := by decide +kernel
theorem dX11_count_92 : decode cX11_count 92 = .ok (.iconst 0, 1) := by decide +kernel
theorem dX11_count_93 : decode cX11_count 93 = .ok (.iadd, 1) := by decide +kernel
theorem dX11_count_94 : decode cX11_count 94 = .ok (.istore_n 2, 1) := by decide +kernel
theorem dX11_count_95 : decode cX11_count 95 = .ok (.iinc 3 1, 3) := by decide +kernel
theorem dX11_count_98 : decode cX11_count 98 = .ok (.goto (-29), 3) := by decide +kernel
theorem dX11_count_101 : decode cX11_count 101 = .ok (.iload_n 2, 1) := by decide +kernel
theorem dX11_count_102 : decode cX11_count 102 = .ok (.ireturn, 1) := by decide +kernel
theorem dX11_count_103 : decode cX11_count 103 = .ok (.aload_n 0, 1) := by decide +kernel
theorem dX11_count_104 : decode cX11_count 104 = .ok (.getfield 97, 3) := by decide +kernel
theorem dX11_count_107 : decode cX11_count 107 = .ok (.ireturn, 1) := by decide +kernel
theorem dX11_count_108 : decode cX11_count 108 = .ok (.aload_n 0, 1) := by decide +kernel
theorem dX11_count_109 : decode cX11_count 109 = .ok (.getfield 101, 3) := by decide +kernel
theorem dX11_count_112 : decode cX11_count 112 = .ok (.ireturn, 1) := by decide +kernel
theorem dX11_count_113 : decode cX11_count 113 = .ok (.aload_n 0, 1) := by decide +kernel
theorem dX11_count_114 : decode cX11_count 114 = .ok (.getfield 104, 3) := by decide +kernel
theorem dX11_count_117 : decode cX11_count 117 = .ok (.ireturn, 1) := by decide +kernel
theorem dX11_count_118 : decode cX11_count 118 = .ok (.aload_n 0, 1) := by decide +kernel
theorem dX11_count_119 : decode cX11_count 119 = .ok (.getfield 107, 3) := by decide +kernel
theorem dX11_count_122 : decode cX11_count 122 = .ok (.ireturn, 1) := by decide +kernel
theorem dX11_count_123 : decode cX11_count 123 = .ok (.iconst (-1), 1) := by decide +kernel
theorem dX11_count_124 : decode cX11_count 124 = .ok (.ireturn, 1) := by decide +kernel
theorem dJ6_bitCount_0f7a4_0 : decode cJ6_bitCount_0f7a4 0 = .ok (.iload_n 0, 1) := by decide +kernel
theorem dJ6_bitCount_0f7a4_1 : decode cJ6_bitCount_0f7a4 1 = .ok (.iload_n 0, 1) := by decide +kernel
theorem dJ6_bitCount_0f7a4_2 : decode cJ6_bitCount_0f7a4 2 = .ok (.iconst 1, 1) := by decide +kernel
theorem dJ6_bitCount_0f7a4_3 : decode cJ6_bitCount_0f7a4 3 = .ok (.iushr, 1) := by decide +kernel
theorem dJ6_bitCount_0f7a4_4 : decode cJ6_bitCount_0f7a4 4 = .ok (.ldc_w 265, 3) := by decide +kernel
theorem dJ6_bitCount_0f7a4_7 : decode cJ6_bitCount_0f7a4 7 = .ok (.iand, 1) := by decide +kernel
theorem dJ6_bitCount_0f7a4_8 : decode cJ6_bitCount_0f7a4 8 = .ok (.isub, 1) := by decide +kernel
theorem dJ6_bitCount_0f7a4_9 : decode cJ6_bitCount_0f7a4 9 = .ok (.istore_n 0, 1) := by decide +kernel
theorem dJ6_bitCount_0f7a4_10 : decode cJ6_bitCount_0f7a4 10 = .ok (.iload_n 0, 1) := by decide +kernel
theorem dJ6_bitCount_0f7a4_11 : decode cJ6_bitCount_0f7a4 11 = .ok (.ldc_w 266, 3) := by decide +kernel
theorem dJ6_bitCount_0f7a4_14 : decode cJ6_bitCount_0f7a4 14 = .ok (.iand, 1) := by decide +kernel
theorem dJ6_bitCount_0f7a4_15 : decode cJ6_bitCount_0f7a4 15 = .ok (.iload_n 0, 1) := by decide +kernel
theorem dJ6_bitCount_0f7a4_16 : decode cJ6_bitCount_0f7a4 16 = .ok (.iconst 2, 1) := by decide +kernel
theorem dJ6_bitCount_0f7a4_17 : decode cJ6_bitCount_0f7a4 17 = .ok (.iushr, 1) := by decide +kernel
theorem dJ6_bitCount_0f7a4_18 : decode cJ6_bitCount_0f7a4 18 = .ok (.ldc_w 266, 3) := by decide +kernel
theorem dJ6_bitCount_0f7a4_21 : decode cJ6_bitCount_0f7a4 21 = .ok (.iand, 1) := by decide +kernel
theorem dJ6_bitCount_0f7a4_22 : decode cJ6_bitCount_0f7a4 22 = .ok (.iadd, 1) := by decide +kernel
theorem dJ6_bitCount_0f7a4_23 : decode cJ6_bitCount_0f7a4 23 = .ok (.istore_n 0, 1) := by decide +kernel
theorem dJ6_bitCount_0f7a4_24 : decode cJ6_bitCount_0f7a4 24 = .ok (.iload_n 0, 1) := by decide +kernel
theorem dJ6_bitCount_0f7a4_25 : decode cJ6_bitCount_0f7a4 25 = .ok (.iload_n 0, 1) := by decide +kernel
theorem dJ6_bitCount_0f7a4_26 : decode cJ6_bitCount_0f7a4 26 = .ok (.iconst 4, 1) := by decide +kernel
theorem dJ6_bitCount_0f7a4_27 : decode cJ6_bitCount_0f7a4 27 = .ok (.iushr, 1) := by decide +kernel
theorem dJ6_bitCount_0f7a4_28 : decode cJ6_bitCount_0f7a4 28 = .ok (.iadd, 1) := by decide +kernel
theorem dJ6_bitCount_0f7a4_29 : decode cJ6_bitCount_0f7a4 29 = .ok (.ldc_w 267, 3) := by decide +kernel
theorem dJ6_bitCount_0f7a4_32 : decode cJ6_bitCount_0f7a4 32 = .ok (.iand, 1) := by decide +kernel
theorem dJ6_bitCount_0f7a4_33 : decode cJ6_bitCount_0f7a4 33 = .ok (.istore_n 0, 1) := by decide +kernel
theorem dJ6_bitCount_0f7a4_34 : decode cJ6_bitCount_0f7a4 34 = .ok (.iload_n 0, 1) := by decide +kernel
theorem dJ6_bitCount_0f7a4_35 : decode cJ6_bitCount_0f7a4 35 = .ok (.iload_n 0, 1) := by decide +kernel
theorem dJ6_bitCount_0f7a4_36 : decode cJ6_bitCount_0f7a4 36 = .ok (.bipush 8, 2) := by decide +kernel
theorem dJ6_bitCount_0f7a4_38 : decode cJ6_bitCount_0f7a4 38 = .ok (.iushr, 1) := by decide +kernel
theorem dJ6_bitCount_0f7a4_39 : decode cJ6_bitCount_0f7a4 39 = .ok (.iadd, 1) := by decide +kernel
theorem dJ6_bitCount_0f7a4_40 : decode cJ6_bitCount_0f7a4 40 = .ok (.istore_n 0, 1) := by decide +kernel
theorem dJ6_bitCount_0f7a4_41 : decode cJ6_bitCount_0f7a4 41 = .ok (.iload_n 0, 1) := by decide +kernel
theorem dJ6_bitCount_0f7a4_42 : decode cJ6_bitCount_0f7a4 42 = .ok (.iload_n 0, 1) := by decide +kernel
theorem dJ6_bitCount_0f7a4_43 : decode cJ6_bitCount_0f7a4 43 = .ok (.bipush 16, 2) := by decide +kernel
theorem dJ6_bitCount_0f7a4_45 : decode cJ6_bitCount_0f7a4 45 = .ok (.iushr, 1) := by decide +kernel
theorem dJ6_bitCount_0f7a4_46 : decode cJ6_bitCount_0f7a4 46 = .ok (.iadd, 1) := by decide +kernel
theorem dJ6_bitCount_0f7a4_47 : decode cJ6_bitCount_0f7a4 47 = .ok (.istore_n 0, 1) := by decide +kernel
theorem dJ6_bitCount_0f7a4_48 : decode cJ6_bitCount_0f7a4 48 = .ok (.iload_n 0, 1) := by decide +kernel
theorem dJ6_bitCount_0f7a4_49 : decode cJ6_bitCount_0f7a4 49 = .ok (.bipush 63, 2) := by decide +kernel
theorem dJ6_bitCount_0f7a4_51 : decode cJ6_bitCount_0f7a4 51 = .ok (.iand, 1) := by decide +kernel
theorem dJ6_bitCount_0f7a4_52 : decode cJ6_bitCount_0f7a4 52 = .ok (.ireturn, 1) := by decide +kernel
theorem dJ9_floorMod_7cf53_0 : decode cJ9_floorMod_7cf53 0 = .ok (.iload_n 0, 1) := by decide +kernel
theorem dJ9_floorMod_7cf53_1 : decode cJ9_floorMod_7cf53 1 = .ok (.iload_n 1, 1) := by decide +kernel
theorem dJ9_floorMod_7cf53_2 : decode cJ9_floorMod_7cf53 2 = .ok (.irem, 1) := by decide +kernel
theorem dJ9_floorMod_7cf53_3 : decode cJ9_floorMod_7cf53 3 = .ok (.istore_n 2, 1) := by decide +kernel
theorem dJ9_floorMod_7cf53_4 : decode cJ9_floorMod_7cf53 4 = .ok (.iload_n 0, 1) := by decide +kernel
theorem dJ9_floorMod_7cf53_5 : decode cJ9_floorMod_7cf53 5 = .ok (.iload_n 1, 1) := by decide +kernel
theorem dJ9_floorMod_7cf53_6 : decode cJ9_floorMod_7cf53 6 = .ok (.ixor, 1) := by decide +kernel
theorem dJ9_floorMod_7cf53_7 : decode cJ9_floorMod_7cf53 7 = .ok (.ifCond .ge 11, 3) := by decide +kernel
theorem dJ9_floorMod_7cf53_10 : decode cJ9_floorMod_7cf53 10 = .ok (.iload_n 2, 1) := by decide +kernel
theorem dJ9_floorMod_7cf53_11 : decode cJ9_floorMod_7cf53 11 = .ok (.ifCond .eq 7, 3) := by decide +kernel
theorem dJ9_floorMod_7cf53_14 : decode cJ9_floorMod_7cf53 14 = .ok (.iload_n 2, 1) := by decide +kernel
theorem dJ9_floorMod_7cf53_15 : decode cJ9_floorMod_7cf53 15 = .ok (.iload_n 1, 1) := by decide +kernel
theorem dJ9_floorMod_7cf53_16 : decode cJ9_floorMod_7cf53 16 = .ok (.iadd, 1) := by decide +kernel
theorem dJ9_floorMod_7cf53_17 : decode cJ9_floorMod_7cf53 17 = .ok (.ireturn, 1) := by decide +kernel
theorem dJ9_floorMod_7cf53_18 : decode cJ9_floorMod_7cf53 18 = .ok (.iload_n 2, 1) := by decide +kernel
theorem dJ9_floorMod_7cf53_19 : decode cJ9_floorMod_7cf53 19 = .ok (.ireturn, 1) := by decide +kernel
theorem dJ9_max_7cf53_0 : decode cJ9_max_7cf53 0 = .ok (.iload_n 0, 1) := by decide +kernel
theorem dJ9_max_7cf53_1 : decode cJ9_max_7cf53 1 = .ok (.iload_n 1, 1) := by decide +kernel
theorem dJ9_max_7cf53_2 : decode cJ9_max_7cf53 2 = .ok (.if_icmp .lt 7, 3) := by decide +kernel
theorem dJ9_max_7cf53_5 : decode cJ9_max_7cf53 5 = .ok (.iload_n 0, 1) := by decide +kernel
theorem dJ9_max_7cf53_6 : decode cJ9_max_7cf53 6 = .ok (.goto 4, 3) := by decide +kernel
theorem dJ9_max_7cf53_9 : decode cJ9_max_7cf53 9 = .ok (.iload_n 1, 1) := by decide +kernel
theorem dJ9_max_7cf53_10 : decode cJ9_max_7cf53 10 = .ok (.ireturn, 1) := by decide +kernel
theorem dJ9_min_7cf53_0 : decode cJ9_min_7cf53 0 = .ok (.iload_n 0, 1) := by decide +kernel
theorem dJ9_min_7cf53_1 : decode cJ9_min_7cf53 1 = .ok (.iload_n 1, 1) := by decide +kernel
theorem dJ9_min_7cf53_2 : decode cJ9_min_7cf53 2 = .ok (.if_icmp .gt 7, 3) := by decide +kernel
theorem dJ9_min_7cf53_5 : decode cJ9_min_7cf53 5 = .ok (.iload_n 0, 1) := by decide +kernel
theorem dJ9_min_7cf53_6 : decode cJ9_min_7cf53 6 = .ok (.goto 4, 3) := by decide +kernel
theorem dJ9_min_7cf53_9 : decode cJ9_min_7cf53 9 = .ok (.iload_n 1, 1) := by decide +kernel
theorem dJ9_min_7cf53_10 : decode cJ9_min_7cf53 10 = .ok (.ireturn, 1) := by decide +kernel
theorem dJ7_fill_53178_0 : decode cJ7_fill_53178 0 = .ok (.iconst 0, 1) := by decide +kernel
theorem dJ7_fill_53178_1 : decode cJ7_fill_53178 1 = .ok (.istore_n 2, 1) := by decide +kernel
theorem dJ7_fill_53178_2 : decode cJ7_fill_53178 2 = .ok (.aload_n 0, 1) := by decide +kernel
theorem dJ7_fill_53178_3 : decode cJ7_fill_53178 3 = .ok (.arraylength, 1) := by decide +kernel
theorem dJ7_fill_53178_4 : decode cJ7_fill_53178 4 = .ok (.istore_n 3, 1) := by decide +kernel
theorem dJ7_fill_53178_5 : decode cJ7_fill_53178 5 = .ok (.iload_n 2, 1) := by decide +kernel
theorem dJ7_fill_53178_6 : decode cJ7_fill_53178 6 = .ok (.iload_n 3, 1) := by decide +kernel
theorem dJ7_fill_53178_7 : decode cJ7_fill_53178 7 = .ok (.if_icmp .ge 13, 3) := by decide +kernel
theorem dJ7_fill_53178_10 : decode cJ7_fill_53178 10 = .ok (.aload_n 0, 1) := by decide +kernel
theorem dJ7_fill_53178_11 : decode cJ7_fill_53178 11 = .ok (.iload_n 2, 1) := by decide +kernel
theorem dJ7_fill_53178_12 : decode cJ7_fill_53178 12 = .ok (.iload_n 1, 1) := by decide +kernel
theorem dJ7_fill_53178_13 : decode cJ7_fill_53178 13 = .ok (.iastore, 1) := by decide +kernel
theorem dJ7_fill_53178_14 : decode cJ7_fill_53178 14 = .ok (.iinc 2 1, 3) := by decide +kernel
theorem dJ7_fill_53178_17 : decode cJ7_fill_53178 17 = .ok (.goto (-12), 3) := by decide +kernel
theorem dJ7_fill_53178_20 : decode cJ7_fill_53178 20 = .ok (.return_, 1) := by decide +kernel
theorem dL_cell_0 : decode cL_cell 0 = .ok (.iload_n 1, 1) := by decide +kernel
theorem dL_cell_1 : decode cL_cell 1 = .ok (.aload_n 0, 1) := by decide +kernel
theorem dL_cell_2 : decode cL_cell 2 = .ok (.arraylength, 1) := by decide +kernel
theorem dL_cell_3 : decode cL_cell 3 = .ok (.if_icmp .ge 9, 3) := by decide +kernel
theorem dL_cell_6 : decode cL_cell 6 = .ok (.aload_n 0, 1) := by decide +kernel
theorem dL_cell_7 : decode cL_cell 7 = .ok (.iload_n 1, 1) := by decide +kernel
theorem dL_cell_8 : decode cL_cell 8 = .ok (.iaload, 1) := by decide +kernel
theorem dL_cell_9 : decode cL_cell 9 = .ok (.goto 4, 3) := by decide +kernel
theorem dL_cell_12 : decode cL_cell 12 = .ok (.iconst 0, 1) := by decide +kernel
theorem dL_cell_13 : decode cL_cell 13 = .ok (.ireturn, 1) := by decide +kernel
theorem dL_law_0 : decode cL_law 0 = .ok (.new 7, 3) := by decide +kernel
theorem dL_law_3 : decode cL_law 3 = .ok (.dup, 1) := by decide +kernel
theorem dL_law_4 : decode cL_law 4 = .ok (.aload_n 0, 1) := by decide +kernel
theorem dL_law_5 : decode cL_law 5 = .ok (.iconst 0, 1) := by decide +kernel
theorem dL_law_6 : decode cL_law 6 = .ok (.invokestatic 9, 3) := by decide +kernel
theorem dL_law_9 : decode cL_law 9 = .ok (.aload_n 0, 1) := by decide +kernel
theorem dL_law_10 : decode cL_law 10 = .ok (.iconst 1, 1) := by decide +kernel
theorem dL_law_11 : decode cL_law 11 = .ok (.invokestatic 9, 3) := by decide +kernel
theorem dL_law_14 : decode cL_law 14 = .ok (.aload_n 0, 1) := by decide +kernel
theorem dL_law_15 : decode cL_law 15 = .ok (.iconst 2, 1) := by decide +kernel
theorem dL_law_16 : decode cL_law 16 = .ok (.invokestatic 9, 3) := by decide +kernel
theorem dL_law_19 : decode cL_law 19 = .ok (.aload_n 0, 1) := by decide +kernel
theorem dL_law_20 : decode cL_law 20 = .ok (.iconst 3, 1) := by decide +kernel
theorem dL_law_21 : decode cL_law 21 = .ok (.invokestatic 9, 3) := by decide +kernel
theorem dL_law_24 : decode cL_law 24 = .ok (.aload_n 0, 1) := by decide +kernel
theorem dL_law_25 : decode cL_law 25 = .ok (.iconst 4, 1) := by decide +kernel
theorem dL_law_26 : decode cL_law 26 = .ok (.invokestatic 9, 3) := by decide +kernel
theorem dL_law_29 : decode cL_law 29 = .ok (.aload_n 0, 1) := by decide +kernel
theorem dL_law_30 : decode cL_law 30 = .ok (.iconst 5, 1) := by decide +kernel
theorem dL_law_31 : decode cL_law 31 = .ok (.invokestatic 9, 3) := by decide +kernel
theorem dL_law_34 : decode cL_law 34 = .ok (.invokespecial 15, 3) := by decide +kernel
theorem dL_law_37 : decode cL_law 37 = .ok (.astore_n 1, 1) := by decide +kernel
theorem dL_law_38 : decode cL_law 38 = .ok (.new 18, 3) := by decide +kernel
theorem dL_law_41 : decode cL_law 41 = .ok (.dup, 1) := by decide +kernel
theorem dL_law_42 : decode cL_law 42 = .ok (.aload_n 0, 1) := by decide +kernel
theorem dL_law_43 : decode cL_law 43 = .ok (.iconst 0, 1) := by decide +kernel
theorem dL_law_44 : decode cL_law 44 = .ok (.invokestatic 9, 3) := by decide +kernel
theorem dL_law_47 : decode cL_law 47 = .ok (.aload_n 0, 1) := by decide +kernel
theorem dL_law_48 : decode cL_law 48 = .ok (.iconst 1, 1) := by decide +kernel
theorem dL_law_49 : decode cL_law 49 = .ok (.invokestatic 9, 3) := by decide +kernel
theorem dL_law_52 : decode cL_law 52 = .ok (.aload_n 0, 1) := by decide +kernel
theorem dL_law_53 : decode cL_law 53 = .ok (.iconst 2, 1) := by decide +kernel
theorem dL_law_54 : decode cL_law 54 = .ok (.invokestatic 9, 3) := by decide +kernel
theorem dL_law_57 : decode cL_law 57 = .ok (.aload_n 0, 1) := by decide +kernel
theorem dL_law_58 : decode cL_law 58 = .ok (.iconst 3, 1) := by decide +kernel
theorem dL_law_59 : decode cL_law 59 = .ok (.invokestatic 9, 3) := by decide +kernel
theorem dL_law_62 : decode cL_law 62 = .ok (.aload_n 0, 1) := by decide +kernel
theorem dL_law_63 : decode cL_law 63 = .ok (.iconst 4, 1) := by decide +kernel
theorem dL_law_64 : decode cL_law 64 = .ok (.invokestatic 9, 3) := by decide +kernel
theorem dL_law_67 : decode cL_law 67 = .ok (.aload_n 0, 1) := by decide +kernel
theorem dL_law_68 : decode cL_law 68 = .ok (.iconst 5, 1) := by decide +kernel
theorem dL_law_69 : decode cL_law 69 = .ok (.invokestatic 9, 3) := by decide +kernel
theorem dL_law_72 : decode cL_law 72 = .ok (.invokespecial 20, 3) := by decide +kernel
theorem dL_law_75 : decode cL_law 75 = .ok (.astore_n 2, 1) := by decide +kernel
theorem dL_law_76 : decode cL_law 76 = .ok (.bipush 6, 2) := by decide +kernel
theorem dL_law_78 : decode cL_law 78 = .ok (.istore_n 3, 1) := by decide +kernel
theorem dL_law_79 : decode cL_law 79 = .ok (.iload_n 3, 1) := by decide +kernel
theorem dL_law_80 : decode cL_law 80 = .ok (.aload_n 0, 1) := by decide +kernel
theorem dL_law_81 : decode cL_law 81 = .ok (.arraylength, 1) := by decide +kernel
theorem dL_law_82 : decode cL_law 82 = .ok (.iconst 5, 1) := by decide +kernel
theorem dL_law_83 : decode cL_law 83 = .ok (.isub, 1) := by decide +kernel
theorem dL_law_84 : decode cL_law 84 = .ok (.if_icmp .gt 843, 3) := by decide +kernel
theorem dL_law_87 : decode cL_law 87 = .ok (.aload_n 0, 1) := by decide +kernel
theorem dL_law_88 : decode cL_law 88 = .ok (.iload_n 3, 1) := by decide +kernel
theorem dL_law_89 : decode cL_law 89 = .ok (.iaload, 1) := by decide +kernel
theorem dL_law_90 : decode cL_law 90 = .ok (.bipush 31, 2) := by decide +kernel
theorem dL_law_92 : decode cL_law 92 = .ok (.iand, 1) := by decide +kernel
theorem dL_law_93 : decode cL_law 93 = .ok (.tableswitch 828 0 22 #[107, 130, 164, 177, 250, 273, 296, 319, 343, 366, 389, 412, 445, 468, 491, 504, 567, 600, 633, 666, 709, 752, 805], 107) := by decide +kernel
theorem dL_law_200 : decode cL_law 200 = .ok (.aload_n 1, 1) := by decide +kernel
theorem dL_law_201 : decode cL_law 201 = .ok (.aload_n 0, 1) := by decide +kernel
theorem dL_law_202 : decode cL_law 202 = .ok (.iload_n 3, 1) := by decide +kernel
theorem dL_law_203 : decode cL_law 203 = .ok (.iconst 1, 1) := by decide +kernel
theorem dL_law_204 : decode cL_law 204 = .ok (.iadd, 1) := by decide +kernel
theorem dL_law_205 : decode cL_law 205 = .ok (.iaload, 1) := by decide +kernel
theorem dL_law_206 : decode cL_law 206 = .ok (.invokevirtual 21, 3) := by decide +kernel
theorem dL_law_209 : decode cL_law 209 = .ok (.aload_n 2, 1) := by decide +kernel
theorem dL_law_210 : decode cL_law 210 = .ok (.aload_n 0, 1) := by decide +kernel
theorem dL_law_211 : decode cL_law 211 = .ok (.iload_n 3, 1) := by decide +kernel
theorem dL_law_212 : decode cL_law 212 = .ok (.iconst 1, 1) := by decide +kernel
theorem dL_law_213 : decode cL_law 213 = .ok (.iadd, 1) := by decide +kernel
theorem dL_law_214 : decode cL_law 214 = .ok (.iaload, 1) := by decide +kernel
theorem dL_law_215 : decode cL_law 215 = .ok (.invokevirtual 25, 3) := by decide +kernel
theorem dL_law_218 : decode cL_law 218 = .ok (.if_icmp .eq 703, 3) := by decide +kernel
theorem dL_law_221 : decode cL_law 221 = .ok (.iconst 0, 1) := by decide +kernel
theorem dL_law_222 : decode cL_law 222 = .ok (.ireturn, 1) := by decide +kernel
theorem dL_law_223 : decode cL_law 223 = .ok (.aload_n 1, 1) := by decide +kernel
theorem dL_law_224 : decode cL_law 224 = .ok (.aload_n 0, 1) := by decide +kernel
theorem dL_law_225 : decode cL_law 225 = .ok (.iload_n 3, 1) := by decide +kernel
theorem dL_law_226 : decode cL_law 226 = .ok (.iconst 1, 1) := by decide +kernel
theorem dL_law_227 : decode cL_law 227 = .ok (.iadd, 1) := by decide +kernel
theorem dL_law_228 : decode cL_law 228 = .ok (.iaload, 1) := by decide +kernel
theorem dL_law_229 : decode cL_law 229 = .ok (.aload_n 0, 1) := by decide +kernel
theorem dL_law_230 : decode cL_law 230 = .ok (.iload_n 3, 1) := by decide +kernel
theorem dL_law_231 : decode cL_law 231 = .ok (.iconst 2, 1) := by decide +kernel
theorem dL_law_232 : decode cL_law 232 = .ok (.iadd, 1) := by decide +kernel
theorem dL_law_233 : decode cL_law 233 = .ok (.iaload, 1) := by decide +kernel
theorem dL_law_234 : decode cL_law 234 = .ok (.invokevirtual 26, 3) := by decide +kernel
theorem dL_law_237 : decode cL_law 237 = .ok (.aload_n 2, 1) := by decide +kernel
theorem dL_law_238 : decode cL_law 238 = .ok (.aload_n 0, 1) := by decide +kernel
theorem dL_law_239 : decode cL_law 239 = .ok (.iload_n 3, 1) := by decide +kernel
theorem dL_law_240 : decode cL_law 240 = .ok (.iconst 1, 1) := by decide +kernel
theorem dL_law_241 : decode cL_law 241 = .ok (.iadd, 1) := by decide +kernel
theorem dL_law_242 : decode cL_law 242 = .ok (.iaload, 1) := by decide +kernel
theorem dL_law_243 : decode cL_law 243 = .ok (.aload_n 0, 1) := by decide +kernel
theorem dL_law_244 : decode cL_law 244 = .ok (.iload_n 3, 1) := by decide +kernel
theorem dL_law_245 : decode cL_law 245 = .ok (.iconst 2, 1) := by decide +kernel
theorem dL_law_246 : decode cL_law 246 = .ok (.iadd, 1) := by decide +kernel
theorem dL_law_247 : decode cL_law 247 = .ok (.iaload, 1) := by decide +kernel
theorem dL_law_248 : decode cL_law 248 = .ok (.invokevirtual 30, 3) := by decide +kernel
theorem dL_law_251 : decode cL_law 251 = .ok (.lcmp, 1) := by decide +kernel
theorem dL_law_252 : decode cL_law 252 = .ok (.ifCond .eq 669, 3) := by decide +kernel
theorem dL_law_255 : decode cL_law 255 = .ok (.iconst 0, 1) := by decide +kernel
theorem dL_law_256 : decode cL_law 256 = .ok (.ireturn, 1) := by decide +kernel
theorem dL_law_257 : decode cL_law 257 = .ok (.aload_n 1, 1) := by decide +kernel
theorem dL_law_258 : decode cL_law 258 = .ok (.invokevirtual 31, 3) := by decide +kernel
theorem dL_law_261 : decode cL_law 261 = .ok (.aload_n 2, 1) := by decide +kernel
theorem dL_law_262 : decode cL_law 262 = .ok (.invokevirtual 35, 3) := by decide +kernel
theorem dL_law_265 : decode cL_law 265 = .ok (.if_icmp .eq 656, 3) := by decide +kernel
theorem dL_law_268 : decode cL_law 268 = .ok (.iconst 0, 1) := by decide +kernel
theorem dL_law_269 : decode cL_law 269 = .ok (.ireturn, 1) := by decide +kernel
theorem dL_law_270 : decode cL_law 270 = .ok (.aload_n 1, 1) := by decide +kernel
theorem dL_law_271 : decode cL_law 271 = .ok (.aload_n 0, 1) := by decide +kernel
theorem dL_law_272 : decode cL_law 272 = .ok (.iload_n 3, 1) := by decide +kernel
theorem dL_law_273 : decode cL_law 273 = .ok (.iconst 1, 1) := by decide +kernel
theorem dL_law_274 : decode cL_law 274 = .ok (.iadd, 1) := by decide +kernel
theorem dL_law_275 : decode cL_law 275 = .ok (.iaload, 1) := by decide +kernel
theorem dL_law_276 : decode cL_law 276 = .ok (.aload_n 0, 1) := by decide +kernel
theorem dL_law_277 : decode cL_law 277 = .ok (.iload_n 3, 1) := by decide +kernel
theorem dL_law_278 : decode cL_law 278 = .ok (.iconst 2, 1) := by decide +kernel
theorem dL_law_279 : decode cL_law 279 = .ok (.iadd, 1) := by decide +kernel
theorem dL_law_280 : decode cL_law 280 = .ok (.iaload, 1) := by decide +kernel
theorem dL_law_281 : decode cL_law 281 = .ok (.aload_n 0, 1) := by decide +kernel
theorem dL_law_282 : decode cL_law 282 = .ok (.iload_n 3, 1) := by decide +kernel
theorem dL_law_283 : decode cL_law 283 = .ok (.iconst 3, 1) := by decide +kernel
theorem dL_law_284 : decode cL_law 284 = .ok (.iadd, 1) := by decide +kernel
theorem dL_law_285 : decode cL_law 285 = .ok (.iaload, 1) := by decide +kernel
theorem dL_law_286 : decode cL_law 286 = .ok (.i2l, 1) := by decide +kernel
theorem dL_law_287 : decode cL_law 287 = .ok (.bipush 32, 2) := by decide +kernel
theorem dL_law_289 : decode cL_law 289 = .ok (.lshl, 1) := by decide +kernel
theorem dL_law_290 : decode cL_law 290 = .ok (.aload_n 0, 1) := by decide +kernel
theorem dL_law_291 : decode cL_law 291 = .ok (.iload_n 3, 1) := by decide +kernel
theorem dL_law_292 : decode cL_law 292 = .ok (.iconst 4, 1) := by decide +kernel
theorem dL_law_293 : decode cL_law 293 = .ok (.iadd, 1) := by decide +kernel
theorem dL_law_294 : decode cL_law 294 = .ok (.iaload, 1) := by decide +kernel
theorem dL_law_295 : decode cL_law 295 = .ok (.i2l, 1) := by decide +kernel
theorem dL_law_296 : decode cL_law 296 = .ok (.ldc2_w 36, 3) := by decide +kernel
theorem dL_law_299 : decode cL_law 299 = .ok (.land, 1) := by decide +kernel
theorem dL_law_300 : decode cL_law 300 = .ok (.lor, 1) := by decide +kernel
theorem dL_law_301 : decode cL_law 301 = .ok (.invokevirtual 38, 3) := by decide +kernel
theorem dL_law_304 : decode cL_law 304 = .ok (.aload_n 2, 1) := by decide +kernel
theorem dL_law_305 : decode cL_law 305 = .ok (.aload_n 0, 1) := by decide +kernel
theorem dL_law_306 : decode cL_law 306 = .ok (.iload_n 3, 1) := by decide +kernel
theorem dL_law_307 : decode cL_law 307 = .ok (.iconst 1, 1) := by decide +kernel
theorem dL_law_308 : decode cL_law 308 = .ok (.iadd, 1) := by decide +kernel
theorem dL_law_309 : decode cL_law 309 = .ok (.iaload, 1) := by decide +kernel
theorem dL_law_310 : decode cL_law 310 = .ok (.aload_n 0, 1) := by decide +kernel
theorem dL_law_311 : decode cL_law 311 = .ok (.iload_n 3, 1) := by decide +kernel
theorem dL_law_312 : decode cL_law 312 = .ok (.iconst 2, 1) := by decide +kernel
theorem dL_law_313 : decode cL_law 313 = .ok (.iadd, 1) := by decide +kernel
theorem dL_law_314 : decode cL_law 314 = .ok (.iaload, 1) := by decide +kernel
theorem dL_law_315 : decode cL_law 315 = .ok (.aload_n 0, 1) := by decide +kernel
theorem dL_law_316 : decode cL_law 316 = .ok (.iload_n 3, 1) := by decide +kernel
theorem dL_law_317 : decode cL_law 317 = .ok (.iconst 3, 1) := by decide +kernel
theorem dL_law_318 : decode cL_law 318 = .ok (.iadd, 1) := by decide +kernel
theorem dL_law_319 : decode cL_law 319 = .ok (.iaload, 1) := by decide +kernel
theorem dL_law_320 : decode cL_law 320 = .ok (.i2l, 1) := by decide +kernel
theorem dL_law_321 : decode cL_law 321 = .ok (.bipush 32, 2) := by decide +kernel
theorem dL_law_323 : decode cL_law 323 = .ok (.lshl, 1) := by decide +kernel
theorem dL_law_324 : decode cL_law 324 = .ok (.aload_n 0, 1) := by decide +kernel
theorem dL_law_325 : decode cL_law 325 = .ok (.iload_n 3, 1) := by decide +kernel
theorem dL_law_326 : decode cL_law 326 = .ok (.iconst 4, 1) := by decide +kernel
theorem dL_law_327 : decode cL_law 327 = .ok (.iadd, 1) := by decide +kernel
theorem dL_law_328 : decode cL_law 328 = .ok (.iaload, 1) := by decide +kernel
theorem dL_law_329 : decode cL_law 329 = .ok (.i2l, 1) := by decide +kernel
theorem dL_law_330 : decode cL_law 330 = .ok (.ldc2_w 36, 3) := by decide +kernel
theorem dL_law_333 : decode cL_law 333 = .ok (.land, 1) := by decide +kernel
theorem dL_law_334 : decode cL_law 334 = .ok (.lor, 1) := by decide +kernel
theorem dL_law_335 : decode cL_law 335 = .ok (.invokevirtual 42, 3) := by decide +kernel
theorem dL_law_338 : decode cL_law 338 = .ok (.if_icmp .eq 583, 3) := by decide +kernel
theorem dL_law_341 : decode cL_law 341 = .ok (.iconst 0, 1) := by decide +kernel
theorem dL_law_342 : decode cL_law 342 = .ok (.ireturn, 1) := by decide +kernel
theorem dL_law_343 : decode cL_law 343 = .ok (.aload_n 1, 1) := by decide +kernel
theorem dL_law_344 : decode cL_law 344 = .ok (.aload_n 0, 1) := by decide +kernel
theorem dL_law_345 : decode cL_law 345 = .ok (.iload_n 3, 1) := by decide +kernel
theorem dL_law_346 : decode cL_law 346 = .ok (.iconst 1, 1) := by decide +kernel
theorem dL_law_347 : decode cL_law 347 = .ok (.iadd, 1) := by decide +kernel
theorem dL_law_348 : decode cL_law 348 = .ok (.iaload, 1) := by decide +kernel
theorem dL_law_349 : decode cL_law 349 = .ok (.invokevirtual 43, 3) := by decide +kernel
theorem dL_law_352 : decode cL_law 352 = .ok (.aload_n 2, 1) := by decide +kernel
theorem dL_law_353 : decode cL_law 353 = .ok (.aload_n 0, 1) := by decide +kernel
theorem dL_law_354 : decode cL_law 354 = .ok (.iload_n 3, 1) := by decide +kernel
theorem dL_law_355 : decode cL_law 355 = .ok (.iconst 1, 1) := by decide +kernel
theorem dL_law_356 : decode cL_law 356 = .ok (.iadd, 1) := by decide +kernel
theorem dL_law_357 : decode cL_law 357 = .ok (.iaload, 1) := by decide +kernel
theorem dL_law_358 : decode cL_law 358 = .ok (.invokevirtual 46, 3) := by decide +kernel
theorem dL_law_361 : decode cL_law 361 = .ok (.if_icmp .eq 560, 3) := by decide +kernel
theorem dL_law_364 : decode cL_law 364 = .ok (.iconst 0, 1) := by decide +kernel
theorem dL_law_365 : decode cL_law 365 = .ok (.ireturn, 1) := by decide +kernel
theorem dL_law_366 : decode cL_law 366 = .ok (.aload_n 1, 1) := by decide +kernel
theorem dL_law_367 : decode cL_law 367 = .ok (.aload_n 0, 1) := by decide +kernel
theorem dL_law_368 : decode cL_law 368 = .ok (.iload_n 3, 1) := by decide +kernel
theorem dL_law_369 : decode cL_law 369 = .ok (.iconst 1, 1) := by decide +kernel
theorem dL_law_370 : decode cL_law 370 = .ok (.iadd, 1) := by decide +kernel
theorem dL_law_371 : decode cL_law 371 = .ok (.iaload, 1) := by decide +kernel
theorem dL_law_372 : decode cL_law 372 = .ok (.invokevirtual 47, 3) := by decide +kernel
theorem dL_law_375 : decode cL_law 375 = .ok (.aload_n 2, 1) := by decide +kernel
theorem dL_law_376 : decode cL_law 376 = .ok (.aload_n 0, 1) := by decide +kernel
theorem dL_law_377 : decode cL_law 377 = .ok (.iload_n 3, 1) := by decide +kernel
theorem dL_law_378 : decode cL_law 378 = .ok (.iconst 1, 1) := by decide +kernel
theorem dL_law_379 : decode cL_law 379 = .ok (.iadd, 1) := by decide +kernel
theorem dL_law_380 : decode cL_law 380 = .ok (.iaload, 1) := by decide +kernel
theorem dL_law_381 : decode cL_law 381 = .ok (.invokevirtual 50, 3) := by decide +kernel
theorem dL_law_384 : decode cL_law 384 = .ok (.if_icmp .eq 537, 3) := by decide +kernel
theorem dL_law_387 : decode cL_law 387 = .ok (.iconst 0, 1) := by decide +kernel
theorem dL_law_388 : decode cL_law 388 = .ok (.ireturn, 1) := by decide +kernel
theorem dL_law_389 : decode cL_law 389 = .ok (.aload_n 1, 1) := by decide +kernel
theorem dL_law_390 : decode cL_law 390 = .ok (.aload_n 0, 1) := by decide +kernel
theorem dL_law_391 : decode cL_law 391 = .ok (.iload_n 3, 1) := by decide +kernel
theorem dL_law_392 : decode cL_law 392 = .ok (.iconst 1, 1) := by decide +kernel
theorem dL_law_393 : decode cL_law 393 = .ok (.iadd, 1) := by decide +kernel
theorem dL_law_394 : decode cL_law 394 = .ok (.iaload, 1) := by decide +kernel
theorem dL_law_395 : decode cL_law 395 = .ok (.invokevirtual 51, 3) := by decide +kernel
theorem dL_law_398 : decode cL_law 398 = .ok (.aload_n 2, 1) := by decide +kernel
theorem dL_law_399 : decode cL_law 399 = .ok (.aload_n 0, 1) := by decide +kernel
theorem dL_law_400 : decode cL_law 400 = .ok (.iload_n 3, 1) := by decide +kernel
theorem dL_law_401 : decode cL_law 401 = .ok (.iconst 1, 1) := by decide +kernel
theorem dL_law_402 : decode cL_law 402 = .ok (.iadd, 1) := by decide +kernel
theorem dL_law_403 : decode cL_law 403 = .ok (.iaload, 1) := by decide +kernel
theorem dL_law_404 : decode cL_law 404 = .ok (.invokevirtual 54, 3) := by decide +kernel
theorem dL_law_407 : decode cL_law 407 = .ok (.if_icmp .eq 514, 3) := by decide +kernel
theorem dL_law_410 : decode cL_law 410 = .ok (.iconst 0, 1) := by decide +kernel
theorem dL_law_411 : decode cL_law 411 = .ok (.ireturn, 1) := by decide +kernel
theorem dL_law_412 : decode cL_law 412 = .ok (.aload_n 1, 1) := by decide +kernel
theorem dL_law_413 : decode cL_law 413 = .ok (.aload_n 0, 1) := by decide +kernel
theorem dL_law_414 : decode cL_law 414 = .ok (.iload_n 3, 1) := by decide +kernel
theorem dL_law_415 : decode cL_law 415 = .ok (.iconst 1, 1) := by decide +kernel
theorem dL_law_416 : decode cL_law 416 = .ok (.iadd, 1) := by decide +kernel
theorem dL_law_417 : decode cL_law 417 = .ok (.iaload, 1) := by decide +kernel
theorem dL_law_418 : decode cL_law 418 = .ok (.invokevirtual 55, 3) := by decide +kernel
theorem dL_law_421 : decode cL_law 421 = .ok (.aload_n 2, 1) := by decide +kernel
theorem dL_law_422 : decode cL_law 422 = .ok (.aload_n 0, 1) := by decide +kernel
theorem dL_law_423 : decode cL_law 423 = .ok (.iload_n 3, 1) := by decide +kernel
theorem dL_law_424 : decode cL_law 424 = .ok (.iconst 1, 1) := by decide +kernel
theorem dL_law_425 : decode cL_law 425 = .ok (.iadd, 1) := by decide +kernel
theorem dL_law_426 : decode cL_law 426 = .ok (.iaload, 1) := by decide +kernel
theorem dL_law_427 : decode cL_law 427 = .ok (.invokevirtual 59, 3) := by decide +kernel
theorem dL_law_430 : decode cL_law 430 = .ok (.lcmp, 1) := by decide +kernel
theorem dL_law_431 : decode cL_law 431 = .ok (.ifCond .eq 490, 3) := by decide +kernel
theorem dL_law_434 : decode cL_law 434 = .ok (.iconst 0, 1) := by decide +kernel
theorem dL_law_435 : decode cL_law 435 = .ok (.ireturn, 1) := by decide +kernel
theorem dL_law_436 : decode cL_law 436 = .ok (.aload_n 1, 1) := by decide +kernel
theorem dL_law_437 : decode cL_law 437 = .ok (.aload_n 0, 1) := by decide +kernel
theorem dL_law_438 : decode cL_law 438 = .ok (.iload_n 3, 1) := by decide +kernel
theorem dL_law_439 : decode cL_law 439 = .ok (.iconst 1, 1) := by decide +kernel
theorem dL_law_440 : decode cL_law 440 = .ok (.iadd, 1) := by decide +kernel
theorem dL_law_441 : decode cL_law 441 = .ok (.iaload, 1) := by decide +kernel
theorem dL_law_442 : decode cL_law 442 = .ok (.invokevirtual 60, 3) := by decide +kernel
theorem dL_law_445 : decode cL_law 445 = .ok (.aload_n 2, 1) := by decide +kernel
theorem dL_law_446 : decode cL_law 446 = .ok (.aload_n 0, 1) := by decide +kernel
theorem dL_law_447 : decode cL_law 447 = .ok (.iload_n 3, 1) := by decide +kernel
theorem dL_law_448 : decode cL_law 448 = .ok (.iconst 1, 1) := by decide +kernel
theorem dL_law_449 : decode cL_law 449 = .ok (.iadd, 1) := by decide +kernel
theorem dL_law_450 : decode cL_law 450 = .ok (.iaload, 1) := by decide +kernel
theorem dL_law_451 : decode cL_law 451 = .ok (.invokevirtual 63, 3) := by decide +kernel
theorem dL_law_454 : decode cL_law 454 = .ok (.if_icmp .eq 467, 3) := by decide +kernel
theorem dL_law_457 : decode cL_law 457 = .ok (.iconst 0, 1) := by decide +kernel
theorem dL_law_458 : decode cL_law 458 = .ok (.ireturn, 1) := by decide +kernel
theorem dL_law_459 : decode cL_law 459 = .ok (.aload_n 1, 1) := by decide +kernel
theorem dL_law_460 : decode cL_law 460 = .ok (.aload_n 0, 1) := by decide +kernel
theorem dL_law_461 : decode cL_law 461 = .ok (.iload_n 3, 1) := by decide +kernel
theorem dL_law_462 : decode cL_law 462 = .ok (.iconst 1, 1) := by decide +kernel
theorem dL_law_463 : decode cL_law 463 = .ok (.iadd, 1) := by decide +kernel
theorem dL_law_464 : decode cL_law 464 = .ok (.iaload, 1) := by decide +kernel
theorem dL_law_465 : decode cL_law 465 = .ok (.invokevirtual 64, 3) := by decide +kernel
theorem dL_law_468 : decode cL_law 468 = .ok (.aload_n 2, 1) := by decide +kernel
theorem dL_law_469 : decode cL_law 469 = .ok (.aload_n 0, 1) := by decide +kernel
theorem dL_law_470 : decode cL_law 470 = .ok (.iload_n 3, 1) := by decide +kernel
theorem dL_law_471 : decode cL_law 471 = .ok (.iconst 1, 1) := by decide +kernel
theorem dL_law_472 : decode cL_law 472 = .ok (.iadd, 1) := by decide +kernel
theorem dL_law_473 : decode cL_law 473 = .ok (.iaload, 1) := by decide +kernel
theorem dL_law_474 : decode cL_law 474 = .ok (.invokevirtual 67, 3) := by decide +kernel
theorem dL_law_477 : decode cL_law 477 = .ok (.if_icmp .eq 444, 3) := by decide +kernel
theorem dL_law_480 : decode cL_law 480 = .ok (.iconst 0, 1) := by decide +kernel
theorem dL_law_481 : decode cL_law 481 = .ok (.ireturn, 1) := by decide +kernel
theorem dL_law_482 : decode cL_law 482 = .ok (.aload_n 1, 1) := by decide +kernel
theorem dL_law_483 : decode cL_law 483 = .ok (.aload_n 0, 1) := by decide +kernel
theorem dL_law_484 : decode cL_law 484 = .ok (.iload_n 3, 1) := by decide +kernel
theorem dL_law_485 : decode cL_law 485 = .ok (.iconst 1, 1) := by decide +kernel
theorem dL_law_486 : decode cL_law 486 = .ok (.iadd, 1) := by decide +kernel
theorem dL_law_487 : decode cL_law 487 = .ok (.iaload, 1) := by decide +kernel
theorem dL_law_488 : decode cL_law 488 = .ok (.invokevirtual 68, 3) := by decide +kernel
theorem dL_law_491 : decode cL_law 491 = .ok (.aload_n 2, 1) := by decide +kernel
theorem dL_law_492 : decode cL_law 492 = .ok (.aload_n 0, 1) := by decide +kernel
theorem dL_law_493 : decode cL_law 493 = .ok (.iload_n 3, 1) := by decide +kernel
theorem dL_law_494 : decode cL_law 494 = .ok (.iconst 1, 1) := by decide +kernel
theorem dL_law_495 : decode cL_law 495 = .ok (.iadd, 1) := by decide +kernel
theorem dL_law_496 : decode cL_law 496 = .ok (.iaload, 1) := by decide +kernel
theorem dL_law_497 : decode cL_law 497 = .ok (.invokevirtual 71, 3) := by decide +kernel
theorem dL_law_500 : decode cL_law 500 = .ok (.if_icmp .eq 421, 3) := by decide +kernel
theorem dL_law_503 : decode cL_law 503 = .ok (.iconst 0, 1) := by decide +kernel
theorem dL_law_504 : decode cL_law 504 = .ok (.ireturn, 1) := by decide +kernel
theorem dL_law_505 : decode cL_law 505 = .ok (.aload_n 1, 1) := by decide +kernel
theorem dL_law_506 : decode cL_law 506 = .ok (.aload_n 0, 1) := by decide +kernel
theorem dL_law_507 : decode cL_law 507 = .ok (.iload_n 3, 1) := by decide +kernel
theorem dL_law_508 : decode cL_law 508 = .ok (.iconst 1, 1) := by decide +kernel
theorem dL_law_509 : decode cL_law 509 = .ok (.iadd, 1) := by decide +kernel
theorem dL_law_510 : decode cL_law 510 = .ok (.iaload, 1) := by decide +kernel
theorem dL_law_511 : decode cL_law 511 = .ok (.aload_n 0, 1) := by decide +kernel
theorem dL_law_512 : decode cL_law 512 = .ok (.iload_n 3, 1) := by decide +kernel
theorem dL_law_513 : decode cL_law 513 = .ok (.iconst 2, 1) := by decide +kernel
theorem dL_law_514 : decode cL_law 514 = .ok (.iadd, 1) := by decide +kernel
theorem dL_law_515 : decode cL_law 515 = .ok (.iaload, 1) := by decide +kernel
theorem dL_law_516 : decode cL_law 516 = .ok (.invokevirtual 72, 3) := by decide +kernel
theorem dL_law_519 : decode cL_law 519 = .ok (.aload_n 2, 1) := by decide +kernel
theorem dL_law_520 : decode cL_law 520 = .ok (.aload_n 0, 1) := by decide +kernel
theorem dL_law_521 : decode cL_law 521 = .ok (.iload_n 3, 1) := by decide +kernel
theorem dL_law_522 : decode cL_law 522 = .ok (.iconst 1, 1) := by decide +kernel
theorem dL_law_523 : decode cL_law 523 = .ok (.iadd, 1) := by decide +kernel
theorem dL_law_524 : decode cL_law 524 = .ok (.iaload, 1) := by decide +kernel
theorem dL_law_525 : decode cL_law 525 = .ok (.aload_n 0, 1) := by decide +kernel
theorem dL_law_526 : decode cL_law 526 = .ok (.iload_n 3, 1) := by decide +kernel
theorem dL_law_527 : decode cL_law 527 = .ok (.iconst 2, 1) := by decide +kernel
theorem dL_law_528 : decode cL_law 528 = .ok (.iadd, 1) := by decide +kernel
theorem dL_law_529 : decode cL_law 529 = .ok (.iaload, 1) := by decide +kernel
theorem dL_law_530 : decode cL_law 530 = .ok (.invokevirtual 76, 3) := by decide +kernel
theorem dL_law_533 : decode cL_law 533 = .ok (.if_icmp .eq 388, 3) := by decide +kernel
theorem dL_law_536 : decode cL_law 536 = .ok (.iconst 0, 1) := by decide +kernel
theorem dL_law_537 : decode cL_law 537 = .ok (.ireturn, 1) := by decide +kernel
theorem dL_law_538 : decode cL_law 538 = .ok (.aload_n 1, 1) := by decide +kernel
theorem dL_law_539 : decode cL_law 539 = .ok (.aload_n 0, 1) := by decide +kernel
theorem dL_law_540 : decode cL_law 540 = .ok (.iload_n 3, 1) := by decide +kernel
theorem dL_law_541 : decode cL_law 541 = .ok (.iconst 1, 1) := by decide +kernel
theorem dL_law_542 : decode cL_law 542 = .ok (.iadd, 1) := by decide +kernel
theorem dL_law_543 : decode cL_law 543 = .ok (.iaload, 1) := by decide +kernel
theorem dL_law_544 : decode cL_law 544 = .ok (.invokevirtual 77, 3) := by decide +kernel
theorem dL_law_547 : decode cL_law 547 = .ok (.aload_n 2, 1) := by decide +kernel
theorem dL_law_548 : decode cL_law 548 = .ok (.aload_n 0, 1) := by decide +kernel
theorem dL_law_549 : decode cL_law 549 = .ok (.iload_n 3, 1) := by decide +kernel
theorem dL_law_550 : decode cL_law 550 = .ok (.iconst 1, 1) := by decide +kernel
theorem dL_law_551 : decode cL_law 551 = .ok (.iadd, 1) := by decide +kernel
theorem dL_law_552 : decode cL_law 552 = .ok (.iaload, 1) := by decide +kernel
theorem dL_law_553 : decode cL_law 553 = .ok (.invokevirtual 80, 3) := by decide +kernel
theorem dL_law_556 : decode cL_law 556 = .ok (.if_icmp .eq 365, 3) := by decide +kernel
theorem dL_law_559 : decode cL_law 559 = .ok (.iconst 0, 1) := by decide +kernel
theorem dL_law_560 : decode cL_law 560 = .ok (.ireturn, 1) := by decide +kernel
theorem dL_law_561 : decode cL_law 561 = .ok (.aload_n 1, 1) := by decide +kernel
theorem dL_law_562 : decode cL_law 562 = .ok (.aload_n 0, 1) := by decide +kernel
theorem dL_law_563 : decode cL_law 563 = .ok (.iload_n 3, 1) := by decide +kernel
theorem dL_law_564 : decode cL_law 564 = .ok (.iconst 1, 1) := by decide +kernel
theorem dL_law_565 : decode cL_law 565 = .ok (.iadd, 1) := by decide +kernel
theorem dL_law_566 : decode cL_law 566 = .ok (.iaload, 1) := by decide +kernel
theorem dL_law_567 : decode cL_law 567 = .ok (.invokevirtual 81, 3) := by decide +kernel
theorem dL_law_570 : decode cL_law 570 = .ok (.aload_n 2, 1) := by decide +kernel
theorem dL_law_571 : decode cL_law 571 = .ok (.aload_n 0, 1) := by decide +kernel
theorem dL_law_572 : decode cL_law 572 = .ok (.iload_n 3, 1) := by decide +kernel
theorem dL_law_573 : decode cL_law 573 = .ok (.iconst 1, 1) := by decide +kernel
theorem dL_law_574 : decode cL_law 574 = .ok (.iadd, 1) := by decide +kernel
theorem dL_law_575 : decode cL_law 575 = .ok (.iaload, 1) := by decide +kernel
theorem dL_law_576 : decode cL_law 576 = .ok (.invokevirtual 84, 3) := by decide +kernel
theorem dL_law_579 : decode cL_law 579 = .ok (.if_icmp .eq 342, 3) := by decide +kernel
theorem dL_law_582 : decode cL_law 582 = .ok (.iconst 0, 1) := by decide +kernel
theorem dL_law_583 : decode cL_law 583 = .ok (.ireturn, 1) := by decide +kernel
theorem dL_law_584 : decode cL_law 584 = .ok (.aload_n 1, 1) := by decide +kernel
theorem dL_law_585 : decode cL_law 585 = .ok (.invokevirtual 85, 3) := by decide +kernel
theorem dL_law_588 : decode cL_law 588 = .ok (.aload_n 2, 1) := by decide +kernel
theorem dL_law_589 : decode cL_law 589 = .ok (.invokevirtual 88, 3) := by decide +kernel
theorem dL_law_592 : decode cL_law 592 = .ok (.if_icmp .eq 329, 3) := by decide +kernel
theorem dL_law_595 : decode cL_law 595 = .ok (.iconst 0, 1) := by decide +kernel
theorem dL_law_596 : decode cL_law 596 = .ok (.ireturn, 1) := by decide +kernel
theorem dL_law_597 : decode cL_law 597 = .ok (.aload_n 1, 1) := by decide +kernel
theorem dL_law_598 : decode cL_law 598 = .ok (.aload_n 0, 1) := by decide +kernel
theorem dL_law_599 : decode cL_law 599 = .ok (.iload_n 3, 1) := by decide +kernel
theorem dL_law_600 : decode cL_law 600 = .ok (.iconst 1, 1) := by decide +kernel
theorem dL_law_601 : decode cL_law 601 = .ok (.iadd, 1) := by decide +kernel
theorem dL_law_602 : decode cL_law 602 = .ok (.iaload, 1) := by decide +kernel
theorem dL_law_603 : decode cL_law 603 = .ok (.i2l, 1) := by decide +kernel
theorem dL_law_604 : decode cL_law 604 = .ok (.bipush 32, 2) := by decide +kernel
theorem dL_law_606 : decode cL_law 606 = .ok (.lshl, 1) := by decide +kernel
theorem dL_law_607 : decode cL_law 607 = .ok (.aload_n 0, 1) := by decide +kernel
theorem dL_law_608 : decode cL_law 608 = .ok (.iload_n 3, 1) := by decide +kernel
theorem dL_law_609 : decode cL_law 609 = .ok (.iconst 2, 1) := by decide +kernel
theorem dL_law_610 : decode cL_law 610 = .ok (.iadd, 1) := by decide +kernel
theorem dL_law_611 : decode cL_law 611 = .ok (.iaload, 1) := by decide +kernel
theorem dL_law_612 : decode cL_law 612 = .ok (.i2l, 1) := by decide +kernel
theorem dL_law_613 : decode cL_law 613 = .ok (.ldc2_w 36, 3) := by decide +kernel
theorem dL_law_616 : decode cL_law 616 = .ok (.land, 1) := by decide +kernel
theorem dL_law_617 : decode cL_law 617 = .ok (.lor, 1) := by decide +kernel
theorem dL_law_618 : decode cL_law 618 = .ok (.aload_n 0, 1) := by decide +kernel
theorem dL_law_619 : decode cL_law 619 = .ok (.iload_n 3, 1) := by decide +kernel
theorem dL_law_620 : decode cL_law 620 = .ok (.iconst 3, 1) := by decide +kernel
theorem dL_law_621 : decode cL_law 621 = .ok (.iadd, 1) := by decide +kernel
theorem dL_law_622 : decode cL_law 622 = .ok (.iaload, 1) := by decide +kernel
theorem dL_law_623 : decode cL_law 623 = .ok (.invokevirtual 89, 3) := by decide +kernel
theorem dL_law_626 : decode cL_law 626 = .ok (.aload_n 2, 1) := by decide +kernel
theorem dL_law_627 : decode cL_law 627 = .ok (.aload_n 0, 1) := by decide +kernel
theorem dL_law_628 : decode cL_law 628 = .ok (.iload_n 3, 1) := by decide +kernel
theorem dL_law_629 : decode cL_law 629 = .ok (.iconst 1, 1) := by decide +kernel
theorem dL_law_630 : decode cL_law 630 = .ok (.iadd, 1) := by decide +kernel
theorem dL_law_631 : decode cL_law 631 = .ok (.iaload, 1) := by decide +kernel
theorem dL_law_632 : decode cL_law 632 = .ok (.i2l, 1) := by decide +kernel
theorem dL_law_633 : decode cL_law 633 = .ok (.bipush 32, 2) := by decide +kernel
theorem dL_law_635 : decode cL_law 635 = .ok (.lshl, 1) := by decide +kernel
theorem dL_law_636 : decode cL_law 636 = .ok (.aload_n 0, 1) := by decide +kernel
theorem dL_law_637 : decode cL_law 637 = .ok (.iload_n 3, 1) := by decide +kernel
theorem dL_law_638 : decode cL_law 638 = .ok (.iconst 2, 1) := by decide +kernel
theorem dL_law_639 : decode cL_law 639 = .ok (.iadd, 1) := by decide +kernel
theorem dL_law_640 : decode cL_law 640 = .ok (.iaload, 1) := by decide +kernel
theorem dL_law_641 : decode cL_law 641 = .ok (.i2l, 1) := by decide +kernel
theorem dL_law_642 : decode cL_law 642 = .ok (.ldc2_w 36, 3) := by decide +kernel
theorem dL_law_645 : decode cL_law 645 = .ok (.land, 1) := by decide +kernel
theorem dL_law_646 : decode cL_law 646 = .ok (.lor, 1) := by decide +kernel
theorem dL_law_647 : decode cL_law 647 = .ok (.aload_n 0, 1) := by decide +kernel
theorem dL_law_648 : decode cL_law 648 = .ok (.iload_n 3, 1) := by decide +kernel
theorem dL_law_649 : decode cL_law 649 = .ok (.iconst 3, 1) := by decide +kernel
theorem dL_law_650 : decode cL_law 650 = .ok (.iadd, 1) := by decide +kernel
theorem dL_law_651 : decode cL_law 651 = .ok (.iaload, 1) := by decide +kernel
theorem dL_law_652 : decode cL_law 652 = .ok (.invokevirtual 93, 3) := by decide +kernel
theorem dL_law_655 : decode cL_law 655 = .ok (.if_icmp .eq 266, 3) := by decide +kernel
theorem dL_law_658 : decode cL_law 658 = .ok (.iconst 0, 1) := by decide +kernel
theorem dL_law_659 : decode cL_law 659 = .ok (.ireturn, 1) := by decide +kernel
theorem dL_law_660 : decode cL_law 660 = .ok (.aload_n 1, 1) := by decide +kernel
theorem dL_law_661 : decode cL_law 661 = .ok (.aload_n 0, 1) := by decide +kernel
theorem dL_law_662 : decode cL_law 662 = .ok (.iload_n 3, 1) := by decide +kernel
theorem dL_law_663 : decode cL_law 663 = .ok (.iconst 1, 1) := by decide +kernel
theorem dL_law_664 : decode cL_law 664 = .ok (.iadd, 1) := by decide +kernel
theorem dL_law_665 : decode cL_law 665 = .ok (.iaload, 1) := by decide +kernel
theorem dL_law_666 : decode cL_law 666 = .ok (.aload_n 0, 1) := by decide +kernel
theorem dL_law_667 : decode cL_law 667 = .ok (.iload_n 3, 1) := by decide +kernel
theorem dL_law_668 : decode cL_law 668 = .ok (.iconst 2, 1) := by decide +kernel
theorem dL_law_669 : decode cL_law 669 = .ok (.iadd, 1) := by decide +kernel
theorem dL_law_670 : decode cL_law 670 = .ok (.iaload, 1) := by decide +kernel
theorem dL_law_671 : decode cL_law 671 = .ok (.invokevirtual 94, 3) := by decide +kernel
theorem dL_law_674 : decode cL_law 674 = .ok (.aload_n 2, 1) := by decide +kernel
theorem dL_law_675 : decode cL_law 675 = .ok (.aload_n 0, 1) := by decide +kernel
theorem dL_law_676 : decode cL_law 676 = .ok (.iload_n 3, 1) := by decide +kernel
theorem dL_law_677 : decode cL_law 677 = .ok (.iconst 1, 1) := by decide +kernel
theorem dL_law_678 : decode cL_law 678 = .ok (.iadd, 1) := by decide +kernel
theorem dL_law_679 : decode cL_law 679 = .ok (.iaload, 1) := by decide +kernel
theorem dL_law_680 : decode cL_law 680 = .ok (.aload_n 0, 1) := by decide +kernel
theorem dL_law_681 : decode cL_law 681 = .ok (.iload_n 3, 1) := by decide +kernel
theorem dL_law_682 : decode cL_law 682 = .ok (.iconst 2, 1) := by decide +kernel
theorem dL_law_683 : decode cL_law 683 = .ok (.iadd, 1) := by decide +kernel
theorem dL_law_684 : decode cL_law 684 = .ok (.iaload, 1) := by decide +kernel
theorem dL_law_685 : decode cL_law 685 = .ok (.invokevirtual 97, 3) := by decide +kernel
theorem dL_law_688 : decode cL_law 688 = .ok (.if_icmp .eq 233, 3) := by decide +kernel
theorem dL_law_691 : decode cL_law 691 = .ok (.iconst 0, 1) := by decide +kernel
theorem dL_law_692 : decode cL_law 692 = .ok (.ireturn, 1) := by decide +kernel
theorem dL_law_693 : decode cL_law 693 = .ok (.aload_n 1, 1) := by decide +kernel
theorem dL_law_694 : decode cL_law 694 = .ok (.aload_n 0, 1) := by decide +kernel
theorem dL_law_695 : decode cL_law 695 = .ok (.iload_n 3, 1) := by decide +kernel
theorem dL_law_696 : decode cL_law 696 = .ok (.iconst 1, 1) := by decide +kernel
theorem dL_law_697 : decode cL_law 697 = .ok (.iadd, 1) := by decide +kernel
theorem dL_law_698 : decode cL_law 698 = .ok (.iaload, 1) := by decide +kernel
theorem dL_law_699 : decode cL_law 699 = .ok (.aload_n 0, 1) := by decide +kernel
theorem dL_law_700 : decode cL_law 700 = .ok (.iload_n 3, 1) := by decide +kernel
theorem dL_law_701 : decode cL_law 701 = .ok (.iconst 2, 1) := by decide +kernel
theorem dL_law_702 : decode cL_law 702 = .ok (.iadd, 1) := by decide +kernel
theorem dL_law_703 : decode cL_law 703 = .ok (.iaload, 1) := by decide +kernel
theorem dL_law_704 : decode cL_law 704 = .ok (.invokevirtual 98, 3) := by decide +kernel
theorem dL_law_707 : decode cL_law 707 = .ok (.aload_n 2, 1) := by decide +kernel
theorem dL_law_708 : decode cL_law 708 = .ok (.aload_n 0, 1) := by decide +kernel
theorem dL_law_709 : decode cL_law 709 = .ok (.iload_n 3, 1) := by decide +kernel
theorem dL_law_710 : decode cL_law 710 = .ok (.iconst 1, 1) := by decide +kernel
theorem dL_law_711 : decode cL_law 711 = .ok (.iadd, 1) := by decide +kernel
theorem dL_law_712 : decode cL_law 712 = .ok (.iaload, 1) := by decide +kernel
theorem dL_law_713 : decode cL_law 713 = .ok (.aload_n 0, 1) := by decide +kernel
theorem dL_law_714 : decode cL_law 714 = .ok (.iload_n 3, 1) := by decide +kernel
theorem dL_law_715 : decode cL_law 715 = .ok (.iconst 2, 1) := by decide +kernel
theorem dL_law_716 : decode cL_law 716 = .ok (.iadd, 1) := by decide +kernel
theorem dL_law_717 : decode cL_law 717 = .ok (.iaload, 1) := by decide +kernel
theorem dL_law_718 : decode cL_law 718 = .ok (.invokevirtual 101, 3) := by decide +kernel
theorem dL_law_721 : decode cL_law 721 = .ok (.if_icmp .eq 200, 3) := by decide +kernel
theorem dL_law_724 : decode cL_law 724 = .ok (.iconst 0, 1) := by decide +kernel
theorem dL_law_725 : decode cL_law 725 = .ok (.ireturn, 1) := by decide +kernel
theorem dL_law_726 : decode cL_law 726 = .ok (.aload_n 1, 1) := by decide +kernel
theorem dL_law_727 : decode cL_law 727 = .ok (.aload_n 0, 1) := by decide +kernel
theorem dL_law_728 : decode cL_law 728 = .ok (.iload_n 3, 1) := by decide +kernel
theorem dL_law_729 : decode cL_law 729 = .ok (.iconst 1, 1) := by decide +kernel
theorem dL_law_730 : decode cL_law 730 = .ok (.iadd, 1) := by decide +kernel
theorem dL_law_731 : decode cL_law 731 = .ok (.iaload, 1) := by decide +kernel
theorem dL_law_732 : decode cL_law 732 = .ok (.aload_n 0, 1) := by decide +kernel
theorem dL_law_733 : decode cL_law 733 = .ok (.iload_n 3, 1) := by decide +kernel
theorem dL_law_734 : decode cL_law 734 = .ok (.iconst 2, 1) := by decide +kernel
theorem dL_law_735 : decode cL_law 735 = .ok (.iadd, 1) := by decide +kernel
theorem dL_law_736 : decode cL_law 736 = .ok (.iaload, 1) := by decide +kernel
theorem dL_law_737 : decode cL_law 737 = .ok (.invokevirtual 102, 3) := by decide +kernel
theorem dL_law_740 : decode cL_law 740 = .ok (.aload_n 2, 1) := by decide +kernel
theorem dL_law_741 : decode cL_law 741 = .ok (.aload_n 0, 1) := by decide +kernel
theorem dL_law_742 : decode cL_law 742 = .ok (.iload_n 3, 1) := by decide +kernel
theorem dL_law_743 : decode cL_law 743 = .ok (.iconst 1, 1) := by decide +kernel
theorem dL_law_744 : decode cL_law 744 = .ok (.iadd, 1) := by decide +kernel
theorem dL_law_745 : decode cL_law 745 = .ok (.iaload, 1) := by decide +kernel
theorem dL_law_746 : decode cL_law 746 = .ok (.aload_n 0, 1) := by decide +kernel
theorem dL_law_747 : decode cL_law 747 = .ok (.iload_n 3, 1) := by decide +kernel
theorem dL_law_748 : decode cL_law 748 = .ok (.iconst 2, 1) := by decide +kernel
theorem dL_law_749 : decode cL_law 749 = .ok (.iadd, 1) := by decide +kernel
theorem dL_law_750 : decode cL_law 750 = .ok (.iaload, 1) := by decide +kernel
theorem dL_law_751 : decode cL_law 751 = .ok (.invokevirtual 105, 3) := by decide +kernel
theorem dL_law_754 : decode cL_law 754 = .ok (.if_icmp .eq 167, 3) := by decide +kernel
theorem dL_law_757 : decode cL_law 757 = .ok (.iconst 0, 1) := by decide +kernel
theorem dL_law_758 : decode cL_law 758 = .ok (.ireturn, 1) := by decide +kernel
theorem dL_law_759 : decode cL_law 759 = .ok (.aload_n 1, 1) := by decide +kernel
theorem dL_law_760 : decode cL_law 760 = .ok (.aload_n 0, 1) := by decide +kernel
theorem dL_law_761 : decode cL_law 761 = .ok (.iload_n 3, 1) := by decide +kernel
theorem dL_law_762 : decode cL_law 762 = .ok (.iconst 1, 1) := by decide +kernel
theorem dL_law_763 : decode cL_law 763 = .ok (.iadd, 1) := by decide +kernel
theorem dL_law_764 : decode cL_law 764 = .ok (.iaload, 1) := by decide +kernel
theorem dL_law_765 : decode cL_law 765 = .ok (.aload_n 0, 1) := by decide +kernel
theorem dL_law_766 : decode cL_law 766 = .ok (.iload_n 3, 1) := by decide +kernel
theorem dL_law_767 : decode cL_law 767 = .ok (.iconst 2, 1) := by decide +kernel
theorem dL_law_768 : decode cL_law 768 = .ok (.iadd, 1) := by decide +kernel
theorem dL_law_769 : decode cL_law 769 = .ok (.iaload, 1) := by decide +kernel
theorem dL_law_770 : decode cL_law 770 = .ok (.aload_n 0, 1) := by decide +kernel
theorem dL_law_771 : decode cL_law 771 = .ok (.iload_n 3, 1) := by decide +kernel
theorem dL_law_772 : decode cL_law 772 = .ok (.iconst 3, 1) := by decide +kernel
theorem dL_law_773 : decode cL_law 773 = .ok (.iadd, 1) := by decide +kernel
theorem dL_law_774 : decode cL_law 774 = .ok (.iaload, 1) := by decide +kernel
theorem dL_law_775 : decode cL_law 775 = .ok (.invokevirtual 106, 3) := by decide +kernel
theorem dL_law_778 : decode cL_law 778 = .ok (.aload_n 2, 1) := by decide +kernel
theorem dL_law_779 : decode cL_law 779 = .ok (.aload_n 0, 1) := by decide +kernel
theorem dL_law_780 : decode cL_law 780 = .ok (.iload_n 3, 1) := by decide +kernel
theorem dL_law_781 : decode cL_law 781 = .ok (.iconst 1, 1) := by decide +kernel
theorem dL_law_782 : decode cL_law 782 = .ok (.iadd, 1) := by decide +kernel
theorem dL_law_783 : decode cL_law 783 = .ok (.iaload, 1) := by decide +kernel
theorem dL_law_784 : decode cL_law 784 = .ok (.aload_n 0, 1) := by decide +kernel
theorem dL_law_785 : decode cL_law 785 = .ok (.iload_n 3, 1) := by decide +kernel
theorem dL_law_786 : decode cL_law 786 = .ok (.iconst 2, 1) := by decide +kernel
theorem dL_law_787 : decode cL_law 787 = .ok (.iadd, 1) := by decide +kernel
theorem dL_law_788 : decode cL_law 788 = .ok (.iaload, 1) := by decide +kernel
theorem dL_law_789 : decode cL_law 789 = .ok (.aload_n 0, 1) := by decide +kernel
theorem dL_law_790 : decode cL_law 790 = .ok (.iload_n 3, 1) := by decide +kernel
theorem dL_law_791 : decode cL_law 791 = .ok (.iconst 3, 1) := by decide +kernel
theorem dL_law_792 : decode cL_law 792 = .ok (.iadd, 1) := by decide +kernel
theorem dL_law_793 : decode cL_law 793 = .ok (.iaload, 1) := by decide +kernel
theorem dL_law_794 : decode cL_law 794 = .ok (.invokevirtual 110, 3) := by decide +kernel
theorem dL_law_797 : decode cL_law 797 = .ok (.if_icmp .eq 124, 3) := by decide +kernel
theorem dL_law_800 : decode cL_law 800 = .ok (.iconst 0, 1) := by decide +kernel
theorem dL_law_801 : decode cL_law 801 = .ok (.ireturn, 1) := by decide +kernel
theorem dL_law_802 : decode cL_law 802 = .ok (.aload_n 1, 1) := by decide +kernel
theorem dL_law_803 : decode cL_law 803 = .ok (.aload_n 0, 1) := by decide +kernel
theorem dL_law_804 : decode cL_law 804 = .ok (.iload_n 3, 1) := by decide +kernel
theorem dL_law_805 : decode cL_law 805 = .ok (.iconst 1, 1) := by decide +kernel
theorem dL_law_806 : decode cL_law 806 = .ok (.iadd, 1) := by decide +kernel
theorem dL_law_807 : decode cL_law 807 = .ok (.iaload, 1) := by decide +kernel
theorem dL_law_808 : decode cL_law 808 = .ok (.aload_n 0, 1) := by decide +kernel
theorem dL_law_809 : decode cL_law 809 = .ok (.iload_n 3, 1) := by decide +kernel
theorem dL_law_810 : decode cL_law 810 = .ok (.iconst 2, 1) := by decide +kernel
theorem dL_law_811 : decode cL_law 811 = .ok (.iadd, 1) := by decide +kernel
theorem dL_law_812 : decode cL_law 812 = .ok (.iaload, 1) := by decide +kernel
theorem dL_law_813 : decode cL_law 813 = .ok (.aload_n 0, 1) := by decide +kernel
theorem dL_law_814 : decode cL_law 814 = .ok (.iload_n 3, 1) := by decide +kernel
theorem dL_law_815 : decode cL_law 815 = .ok (.iconst 3, 1) := by decide +kernel
theorem dL_law_816 : decode cL_law 816 = .ok (.iadd, 1) := by decide +kernel
theorem dL_law_817 : decode cL_law 817 = .ok (.iaload, 1) := by decide +kernel
theorem dL_law_818 : decode cL_law 818 = .ok (.invokevirtual 111, 3) := by decide +kernel
theorem dL_law_821 : decode cL_law 821 = .ok (.aload_n 2, 1) := by decide +kernel
theorem dL_law_822 : decode cL_law 822 = .ok (.aload_n 0, 1) := by decide +kernel
theorem dL_law_823 : decode cL_law 823 = .ok (.iload_n 3, 1) := by decide +kernel
theorem dL_law_824 : decode cL_law 824 = .ok (.iconst 1, 1) := by decide +kernel
theorem dL_law_825 : decode cL_law 825 = .ok (.iadd, 1) := by decide +kernel
theorem dL_law_826 : decode cL_law 826 = .ok (.iaload, 1) := by decide +kernel
theorem dL_law_827 : decode cL_law 827 = .ok (.aload_n 0, 1) := by decide +kernel
theorem dL_law_828 : decode cL_law 828 = .ok (.iload_n 3, 1) := by decide +kernel
theorem dL_law_829 : decode cL_law 829 = .ok (.iconst 2, 1) := by decide +kernel
theorem dL_law_830 : decode cL_law 830 = .ok (.iadd, 1) := by decide +kernel
theorem dL_law_831 : decode cL_law 831 = .ok (.iaload, 1) := by decide +kernel
theorem dL_law_832 : decode cL_law 832 = .ok (.aload_n 0, 1) := by decide +kernel
theorem dL_law_833 : decode cL_law 833 = .ok (.iload_n 3, 1) := by decide +kernel
theorem dL_law_834 : decode cL_law 834 = .ok (.iconst 3, 1) := by decide +kernel
theorem dL_law_835 : decode cL_law 835 = .ok (.iadd, 1) := by decide +kernel
theorem dL_law_836 : decode cL_law 836 = .ok (.iaload, 1) := by decide +kernel
theorem dL_law_837 : decode cL_law 837 = .ok (.invokevirtual 114, 3) := by decide +kernel
theorem dL_law_840 : decode cL_law 840 = .ok (.if_icmp .eq 81, 3) := by decide +kernel
theorem dL_law_843 : decode cL_law 843 = .ok (.iconst 0, 1) := by decide +kernel
theorem dL_law_844 : decode cL_law 844 = .ok (.ireturn, 1) := by decide +kernel
theorem dL_law_845 : decode cL_law 845 = .ok (.aload_n 1, 1) := by decide +kernel
theorem dL_law_846 : decode cL_law 846 = .ok (.aload_n 0, 1) := by decide +kernel
theorem dL_law_847 : decode cL_law 847 = .ok (.iload_n 3, 1) := by decide +kernel
theorem dL_law_848 : decode cL_law 848 = .ok (.iconst 1, 1) := by decide +kernel
theorem dL_law_849 : decode cL_law 849 = .ok (.iadd, 1) := by decide +kernel
theorem dL_law_850 : decode cL_law 850 = .ok (.iaload, 1) := by decide +kernel
theorem dL_law_851 : decode cL_law 851 = .ok (.aload_n 0, 1) := by decide +kernel
theorem dL_law_852 : decode cL_law 852 = .ok (.iload_n 3, 1) := by decide +kernel
theorem dL_law_853 : decode cL_law 853 = .ok (.iconst 2, 1) := by decide +kernel
theorem dL_law_854 : decode cL_law 854 = .ok (.iadd, 1) := by decide +kernel
theorem dL_law_855 : decode cL_law 855 = .ok (.iaload, 1) := by decide +kernel
theorem dL_law_856 : decode cL_law 856 = .ok (.aload_n 0, 1) := by decide +kernel
theorem dL_law_857 : decode cL_law 857 = .ok (.iload_n 3, 1) := by decide +kernel
theorem dL_law_858 : decode cL_law 858 = .ok (.iconst 3, 1) := by decide +kernel
theorem dL_law_859 : decode cL_law 859 = .ok (.iadd, 1) := by decide +kernel
theorem dL_law_860 : decode cL_law 860 = .ok (.iaload, 1) := by decide +kernel
theorem dL_law_861 : decode cL_law 861 = .ok (.aload_n 0, 1) := by decide +kernel
theorem dL_law_862 : decode cL_law 862 = .ok (.iload_n 3, 1) := by decide +kernel
theorem dL_law_863 : decode cL_law 863 = .ok (.iconst 4, 1) := by decide +kernel
theorem dL_law_864 : decode cL_law 864 = .ok (.iadd, 1) := by decide +kernel
theorem dL_law_865 : decode cL_law 865 = .ok (.iaload, 1) := by decide +kernel
theorem dL_law_866 : decode cL_law 866 = .ok (.invokevirtual 115, 3) := by decide +kernel
theorem dL_law_869 : decode cL_law 869 = .ok (.aload_n 2, 1) := by decide +kernel
theorem dL_law_870 : decode cL_law 870 = .ok (.aload_n 0, 1) := by decide +kernel
theorem dL_law_871 : decode cL_law 871 = .ok (.iload_n 3, 1) := by decide +kernel
theorem dL_law_872 : decode cL_law 872 = .ok (.iconst 1, 1) := by decide +kernel
theorem dL_law_873 : decode cL_law 873 = .ok (.iadd, 1) := by decide +kernel
theorem dL_law_874 : decode cL_law 874 = .ok (.iaload, 1) := by decide +kernel
theorem dL_law_875 : decode cL_law 875 = .ok (.aload_n 0, 1) := by decide +kernel
theorem dL_law_876 : decode cL_law 876 = .ok (.iload_n 3, 1) := by decide +kernel
theorem dL_law_877 : decode cL_law 877 = .ok (.iconst 2, 1) := by decide +kernel
theorem dL_law_878 : decode cL_law 878 = .ok (.iadd, 1) := by decide +kernel
theorem dL_law_879 : decode cL_law 879 = .ok (.iaload, 1) := by decide +kernel
theorem dL_law_880 : decode cL_law 880 = .ok (.aload_n 0, 1) := by decide +kernel
theorem dL_law_881 : decode cL_law 881 = .ok (.iload_n 3, 1) := by decide +kernel
theorem dL_law_882 : decode cL_law 882 = .ok (.iconst 3, 1) := by decide +kernel
theorem dL_law_883 : decode cL_law 883 = .ok (.iadd, 1) := by decide +kernel
theorem dL_law_884 : decode cL_law 884 = .ok (.iaload, 1) := by decide +kernel
theorem dL_law_885 : decode cL_law 885 = .ok (.aload_n 0, 1) := by decide +kernel
theorem dL_law_886 : decode cL_law 886 = .ok (.iload_n 3, 1) := by decide +kernel
theorem dL_law_887 : decode cL_law 887 = .ok (.iconst 4, 1) := by decide +kernel
theorem dL_law_888 : decode cL_law 888 = .ok (.iadd, 1) := by decide +kernel
theorem dL_law_889 : decode cL_law 889 = .ok (.iaload, 1) := by decide +kernel
theorem dL_law_890 : decode cL_law 890 = .ok (.invokevirtual 119, 3) := by decide +kernel
theorem dL_law_893 : decode cL_law 893 = .ok (.if_icmp .eq 28, 3) := by decide +kernel
theorem dL_law_896 : decode cL_law 896 = .ok (.iconst 0, 1) := by decide +kernel
theorem dL_law_897 : decode cL_law 897 = .ok (.ireturn, 1) := by decide +kernel
theorem dL_law_898 : decode cL_law 898 = .ok (.aload_n 1, 1) := by decide +kernel
theorem dL_law_899 : decode cL_law 899 = .ok (.aload_n 0, 1) := by decide +kernel
theorem dL_law_900 : decode cL_law 900 = .ok (.iload_n 3, 1) := by decide +kernel
theorem dL_law_901 : decode cL_law 901 = .ok (.iconst 1, 1) := by decide +kernel
theorem dL_law_902 : decode cL_law 902 = .ok (.iadd, 1) := by decide +kernel
theorem dL_law_903 : decode cL_law 903 = .ok (.iaload, 1) := by decide +kernel
theorem dL_law_904 : decode cL_law 904 = .ok (.invokevirtual 120, 3) := by decide +kernel
theorem dL_law_907 : decode cL_law 907 = .ok (.aload_n 2, 1) := by decide +kernel
theorem dL_law_908 : decode cL_law 908 = .ok (.aload_n 0, 1) := by decide +kernel
theorem dL_law_909 : decode cL_law 909 = .ok (.iload_n 3, 1) := by decide +kernel
theorem dL_law_910 : decode cL_law 910 = .ok (.iconst 1, 1) := by decide +kernel
theorem dL_law_911 : decode cL_law 911 = .ok (.iadd, 1) := by decide +kernel
theorem dL_law_912 : decode cL_law 912 = .ok (.iaload, 1) := by decide +kernel
theorem dL_law_913 : decode cL_law 913 = .ok (.invokevirtual 123, 3) := by decide +kernel
theorem dL_law_916 : decode cL_law 916 = .ok (.if_icmp .eq 5, 3) := by decide +kernel
theorem dL_law_919 : decode cL_law 919 = .ok (.iconst 0, 1) := by decide +kernel
theorem dL_law_920 : decode cL_law 920 = .ok (.ireturn, 1) := by decide +kernel
theorem dL_law_921 : decode cL_law 921 = .ok (.iinc 3 5, 3) := by decide +kernel
theorem dL_law_924 : decode cL_law 924 = .ok (.goto (-845), 3) := by decide +kernel
theorem dL_law_927 : decode cL_law 927 = .ok (.iconst 1, 1) := by decide +kernel
theorem dL_law_928 : decode cL_law 928 = .ok (.ireturn, 1) := by decide +kernel
