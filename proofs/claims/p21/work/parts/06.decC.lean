theorem goodIn_one {big : List Cond} {w : Cond} {i : Nat} (h : big[i]? = some w) (hg : goodWord w = true) : GoodIn big [w] := fun v hv => by
  rw [List.mem_singleton.mp hv]
  exact ⟨List.mem_of_getElem? h, good_of_word hg⟩
theorem dJ9_abs_0f7a4_0 : decode cJ9_abs_0f7a4 0 = .ok (.iload_n 0, 1) := by decide +kernel
theorem dJ9_abs_0f7a4_1 : decode cJ9_abs_0f7a4 1 = .ok (.ifCond .ge 8, 3) := by decide +kernel
theorem dJ9_abs_0f7a4_4 : decode cJ9_abs_0f7a4 4 = .ok (.iload_n 0, 1) := by decide +kernel
theorem dJ9_abs_0f7a4_5 : decode cJ9_abs_0f7a4 5 = .ok (.ineg, 1) := by decide +kernel
theorem dJ9_abs_0f7a4_6 : decode cJ9_abs_0f7a4 6 = .ok (.goto 4, 3) := by decide +kernel
theorem dJ9_abs_0f7a4_9 : decode cJ9_abs_0f7a4 9 = .ok (.iload_n 0, 1) := by decide +kernel
theorem dJ9_abs_0f7a4_10 : decode cJ9_abs_0f7a4 10 = .ok (.ireturn, 1) := by decide +kernel
theorem dJ9_max_7cf53_0 : decode cJ9_max_7cf53 0 = .ok (.iload_n 0, 1) := by decide +kernel
theorem dJ9_max_7cf53_1 : decode cJ9_max_7cf53 1 = .ok (.iload_n 1, 1) := by decide +kernel
theorem dJ9_max_7cf53_2 : decode cJ9_max_7cf53 2 = .ok (.if_icmp .lt 7, 3) := by decide +kernel
theorem dJ9_max_7cf53_5 : decode cJ9_max_7cf53 5 = .ok (.iload_n 0, 1) := by decide +kernel
theorem dJ9_max_7cf53_6 : decode cJ9_max_7cf53 6 = .ok (.goto 4, 3) := by decide +kernel
theorem dJ9_max_7cf53_9 : decode cJ9_max_7cf53 9 = .ok (.iload_n 1, 1) := by decide +kernel
theorem dJ9_max_7cf53_10 : decode cJ9_max_7cf53 10 = .ok (.ireturn, 1) := by decide +kernel
theorem dL_cell_0 : decode cL_cell 0 = .ok (.iload_n 1, 1) := by decide +kernel
theorem dL_cell_1 : decode cL_cell 1 = .ok (.aload_n 0, 1) := by decide +kernel
theorem dL_cell_2 : decode cL_cell 2 = .ok (.arraylength, 1) := by decide +kernel
theorem dL_cell_3 : decode cL_cell 3 = .ok (.if_icmp .ge 9, 3) := by decide +kernel
theorem dL_cell_6 : decode cL_cell 6 = .ok (.aload_n 0, 1) := by decide +kernel
theorem dL_cell_7 : decode cL_cell 7 = .ok (.iload_n 1, 1) := by decide +kernel
theorem dL_cell_8 : decode cL_cell 8 = .ok (.iaload, 1) := by decide +kernel
theorem dL_cell_9 : decode cL_cell 9 = .ok (.goto 10, 3) := by decide +kernel
theorem dL_cell_12 : decode cL_cell 12 = .ok (.ldc 7, 2) := by decide +kernel
theorem dL_cell_14 : decode cL_cell 14 = .ok (.iload_n 1, 1) := by decide +kernel
theorem dL_cell_15 : decode cL_cell 15 = .ok (.imul, 1) := by decide +kernel
theorem dL_cell_16 : decode cL_cell 16 = .ok (.ldc 8, 2) := by decide +kernel
theorem dL_cell_18 : decode cL_cell 18 = .ok (.iadd, 1) := by decide +kernel
theorem dL_cell_19 : decode cL_cell 19 = .ok (.ireturn, 1) := by decide +kernel
theorem dL_low_0 : decode cL_low 0 = .ok (.iload_n 0, 1) := by decide +kernel
theorem dL_low_1 : decode cL_low 1 = .ok (.ldc 9, 2) := by decide +kernel
theorem dL_low_3 : decode cL_low 3 = .ok (.iand, 1) := by decide +kernel
theorem dL_low_4 : decode cL_low 4 = .ok (.iload_n 1, 1) := by decide +kernel
theorem dL_low_5 : decode cL_low 5 = .ok (.irem, 1) := by decide +kernel
theorem dL_low_6 : decode cL_low 6 = .ok (.ireturn, 1) := by decide +kernel
theorem dL_pour_0 : decode cL_pour 0 = .ok (.iconst 0, 1) := by decide +kernel
theorem dL_pour_1 : decode cL_pour 1 = .ok (.istore 7, 2) := by decide +kernel
theorem dL_pour_3 : decode cL_pour 3 = .ok (.iconst 0, 1) := by decide +kernel
theorem dL_pour_4 : decode cL_pour 4 = .ok (.istore 8, 2) := by decide +kernel
theorem dL_pour_6 : decode cL_pour 6 = .ok (.iconst 0, 1) := by decide +kernel
theorem dL_pour_7 : decode cL_pour 7 = .ok (.istore 9, 2) := by decide +kernel
theorem dL_pour_9 : decode cL_pour 9 = .ok (.iconst 0, 1) := by decide +kernel
theorem dL_pour_10 : decode cL_pour 10 = .ok (.istore 10, 2) := by decide +kernel
theorem dL_pour_12 : decode cL_pour 12 = .ok (.iconst 1, 1) := by decide +kernel
theorem dL_pour_13 : decode cL_pour 13 = .ok (.istore 11, 2) := by decide +kernel
theorem dL_pour_15 : decode cL_pour 15 = .ok (.iconst 0, 1) := by decide +kernel
theorem dL_pour_16 : decode cL_pour 16 = .ok (.istore 12, 2) := by decide +kernel
theorem dL_pour_18 : decode cL_pour 18 = .ok (.iload 12, 2) := by decide +kernel
theorem dL_pour_20 : decode cL_pour 20 = .ok (.aload 6, 2) := by decide +kernel
theorem dL_pour_22 : decode cL_pour 22 = .ok (.iconst 1, 1) := by decide +kernel
theorem dL_pour_23 : decode cL_pour 23 = .ok (.iaload, 1) := by decide +kernel
theorem dL_pour_24 : decode cL_pour 24 = .ok (.if_icmp .ge 407, 3) := by decide +kernel
theorem dL_pour_27 : decode cL_pour 27 = .ok (.aload 4, 2) := by decide +kernel
theorem dL_pour_29 : decode cL_pour 29 = .ok (.iload 12, 2) := by decide +kernel
theorem dL_pour_31 : decode cL_pour 31 = .ok (.iconst (-1), 1) := by decide +kernel
theorem dL_pour_32 : decode cL_pour 32 = .ok (.iastore, 1) := by decide +kernel
theorem dL_pour_33 : decode cL_pour 33 = .ok (.aload 5, 2) := by decide +kernel
theorem dL_pour_35 : decode cL_pour 35 = .ok (.iload 12, 2) := by decide +kernel
theorem dL_pour_37 : decode cL_pour 37 = .ok (.iconst (-1), 1) := by decide +kernel
theorem dL_pour_38 : decode cL_pour 38 = .ok (.iastore, 1) := by decide +kernel
theorem dL_pour_39 : decode cL_pour 39 = .ok (.aload_n 0, 1) := by decide +kernel
theorem dL_pour_40 : decode cL_pour 40 = .ok (.iload 12, 2) := by decide +kernel
theorem dL_pour_42 : decode cL_pour 42 = .ok (.iaload, 1) := by decide +kernel
theorem dL_pour_43 : decode cL_pour 43 = .ok (.iconst 1, 1) := by decide +kernel
theorem dL_pour_44 : decode cL_pour 44 = .ok (.if_icmp .le 108, 3) := by decide +kernel
theorem dL_pour_47 : decode cL_pour 47 = .ok (.iload 7, 2) := by decide +kernel
theorem dL_pour_49 : decode cL_pour 49 = .ok (.iload 10, 2) := by decide +kernel
theorem dL_pour_51 : decode cL_pour 51 = .ok (.ifCond .eq 7, 3) := by decide +kernel
theorem dL_pour_54 : decode cL_pour 54 = .ok (.iconst 1, 1) := by decide +kernel
theorem dL_pour_55 : decode cL_pour 55 = .ok (.goto 4, 3) := by decide +kernel
theorem dL_pour_58 : decode cL_pour 58 = .ok (.iconst 0, 1) := by decide +kernel
theorem dL_pour_59 : decode cL_pour 59 = .ok (.iadd, 1) := by decide +kernel
theorem dL_pour_60 : decode cL_pour 60 = .ok (.istore 7, 2) := by decide +kernel
theorem dL_pour_62 : decode cL_pour 62 = .ok (.iload 7, 2) := by decide +kernel
theorem dL_pour_64 : decode cL_pour 64 = .ok (.aload_n 0, 1) := by decide +kernel
theorem dL_pour_65 : decode cL_pour 65 = .ok (.iload 12, 2) := by decide +kernel
theorem dL_pour_67 : decode cL_pour 67 = .ok (.iaload, 1) := by decide +kernel
theorem dL_pour_68 : decode cL_pour 68 = .ok (.iconst 3, 1) := by decide +kernel
theorem dL_pour_69 : decode cL_pour 69 = .ok (.if_icmp .ne 15, 3) := by decide +kernel
theorem dL_pour_72 : decode cL_pour 72 = .ok (.iload 7, 2) := by decide +kernel
theorem dL_pour_74 : decode cL_pour 74 = .ok (.iconst 2, 1) := by decide +kernel
theorem dL_pour_75 : decode cL_pour 75 = .ok (.irem, 1) := by decide +kernel
theorem dL_pour_76 : decode cL_pour 76 = .ok (.iconst 1, 1) := by decide +kernel
theorem dL_pour_77 : decode cL_pour 77 = .ok (.if_icmp .ne 7, 3) := by decide +kernel
theorem dL_pour_80 : decode cL_pour 80 = .ok (.iconst 1, 1) := by decide +kernel
theorem dL_pour_81 : decode cL_pour 81 = .ok (.goto 4, 3) := by decide +kernel
theorem dL_pour_84 : decode cL_pour 84 = .ok (.iconst 0, 1) := by decide +kernel
theorem dL_pour_85 : decode cL_pour 85 = .ok (.iadd, 1) := by decide +kernel
theorem dL_pour_86 : decode cL_pour 86 = .ok (.istore 7, 2) := by decide +kernel
theorem dL_pour_88 : decode cL_pour 88 = .ok (.iload 11, 2) := by decide +kernel
theorem dL_pour_90 : decode cL_pour 90 = .ok (.ifCond .eq 21, 3) := by decide +kernel
theorem dL_pour_93 : decode cL_pour 93 = .ok (.iload 7, 2) := by decide +kernel
theorem dL_pour_95 : decode cL_pour 95 = .ok (.aload_n 0, 1) := by decide +kernel
theorem dL_pour_96 : decode cL_pour 96 = .ok (.iload 12, 2) := by decide +kernel
theorem dL_pour_98 : decode cL_pour 98 = .ok (.iaload, 1) := by decide +kernel
theorem dL_pour_99 : decode cL_pour 99 = .ok (.iadd, 1) := by decide +kernel
theorem dL_pour_100 : decode cL_pour 100 = .ok (.iconst 2, 1) := by decide +kernel
theorem dL_pour_101 : decode cL_pour 101 = .ok (.isub, 1) := by decide +kernel
theorem dL_pour_102 : decode cL_pour 102 = .ok (.bipush 16, 2) := by decide +kernel
theorem dL_pour_104 : decode cL_pour 104 = .ok (.if_icmp .ge 7, 3) := by decide +kernel
theorem dL_pour_107 : decode cL_pour 107 = .ok (.iconst 1, 1) := by decide +kernel
theorem dL_pour_108 : decode cL_pour 108 = .ok (.goto 4, 3) := by decide +kernel
theorem dL_pour_111 : decode cL_pour 111 = .ok (.iconst 0, 1) := by decide +kernel
theorem dL_pour_112 : decode cL_pour 112 = .ok (.istore 11, 2) := by decide +kernel
theorem dL_pour_114 : decode cL_pour 114 = .ok (.aload_n 3, 1) := by decide +kernel
theorem dL_pour_115 : decode cL_pour 115 = .ok (.iload 12, 2) := by decide +kernel
theorem dL_pour_117 : decode cL_pour 117 = .ok (.iload 11, 2) := by decide +kernel
theorem dL_pour_119 : decode cL_pour 119 = .ok (.ifCond .eq 8, 3) := by decide +kernel
theorem dL_pour_122 : decode cL_pour 122 = .ok (.iload 7, 2) := by decide +kernel
theorem dL_pour_124 : decode cL_pour 124 = .ok (.goto 4, 3) := by decide +kernel
theorem dL_pour_127 : decode cL_pour 127 = .ok (.iconst (-1), 1) := by decide +kernel
theorem dL_pour_128 : decode cL_pour 128 = .ok (.iastore, 1) := by decide +kernel
theorem dL_pour_129 : decode cL_pour 129 = .ok (.iload 7, 2) := by decide +kernel
theorem dL_pour_131 : decode cL_pour 131 = .ok (.aload_n 0, 1) := by decide +kernel
theorem dL_pour_132 : decode cL_pour 132 = .ok (.iload 12, 2) := by decide +kernel
theorem dL_pour_134 : decode cL_pour 134 = .ok (.iaload, 1) := by decide +kernel
theorem dL_pour_135 : decode cL_pour 135 = .ok (.iconst 1, 1) := by decide +kernel
theorem dL_pour_136 : decode cL_pour 136 = .ok (.isub, 1) := by decide +kernel
theorem dL_pour_137 : decode cL_pour 137 = .ok (.iadd, 1) := by decide +kernel
theorem dL_pour_138 : decode cL_pour 138 = .ok (.istore 7, 2) := by decide +kernel
theorem dL_pour_140 : decode cL_pour 140 = .ok (.iconst 0, 1) := by decide +kernel
theorem dL_pour_141 : decode cL_pour 141 = .ok (.istore 8, 2) := by decide +kernel
theorem dL_pour_143 : decode cL_pour 143 = .ok (.iconst 0, 1) := by decide +kernel
theorem dL_pour_144 : decode cL_pour 144 = .ok (.istore 9, 2) := by decide +kernel
theorem dL_pour_146 : decode cL_pour 146 = .ok (.iconst 0, 1) := by decide +kernel
theorem dL_pour_147 : decode cL_pour 147 = .ok (.istore 10, 2) := by decide +kernel
theorem dL_pour_149 : decode cL_pour 149 = .ok (.goto 276, 3) := by decide +kernel
theorem dL_pour_152 : decode cL_pour 152 = .ok (.iload 10, 2) := by decide +kernel
theorem dL_pour_154 : decode cL_pour 154 = .ok (.ifCond .eq 21, 3) := by decide +kernel
theorem dL_pour_157 : decode cL_pour 157 = .ok (.iload 9, 2) := by decide +kernel
theorem dL_pour_159 : decode cL_pour 159 = .ok (.aload_n 2, 1) := by decide +kernel
theorem dL_pour_160 : decode cL_pour 160 = .ok (.iload 12, 2) := by decide +kernel
theorem dL_pour_162 : decode cL_pour 162 = .ok (.iaload, 1) := by decide +kernel
theorem dL_pour_163 : decode cL_pour 163 = .ok (.iadd, 1) := by decide +kernel
theorem dL_pour_164 : decode cL_pour 164 = .ok (.aload 6, 2) := by decide +kernel
theorem dL_pour_166 : decode cL_pour 166 = .ok (.iconst 0, 1) := by decide +kernel
theorem dL_pour_167 : decode cL_pour 167 = .ok (.iaload, 1) := by decide +kernel
theorem dL_pour_168 : decode cL_pour 168 = .ok (.if_icmp .le 7, 3) := by decide +kernel
theorem dL_pour_171 : decode cL_pour 171 = .ok (.iconst 1, 1) := by decide +kernel
theorem dL_pour_172 : decode cL_pour 172 = .ok (.goto 4, 3) := by decide +kernel
theorem dL_pour_175 : decode cL_pour 175 = .ok (.iconst 0, 1) := by decide +kernel
theorem dL_pour_176 : decode cL_pour 176 = .ok (.istore 13, 2) := by decide +kernel
theorem dL_pour_178 : decode cL_pour 178 = .ok (.iload 13, 2) := by decide +kernel
theorem dL_pour_180 : decode cL_pour 180 = .ok (.ifCond .eq 8, 3) := by decide +kernel
theorem dL_pour_183 : decode cL_pour 183 = .ok (.bipush 24, 2) := by decide +kernel
theorem dL_pour_185 : decode cL_pour 185 = .ok (.goto 5, 3) := by decide +kernel
theorem dL_pour_188 : decode cL_pour 188 = .ok (.iload 8, 2) := by decide +kernel
theorem dL_pour_190 : decode cL_pour 190 = .ok (.istore 8, 2) := by decide +kernel
theorem dL_pour_192 : decode cL_pour 192 = .ok (.bipush 6, 2) := by decide +kernel
theorem dL_pour_194 : decode cL_pour 194 = .ok (.iload 8, 2) := by decide +kernel
theorem dL_pour_196 : decode cL_pour 196 = .ok (.bipush 6, 2) := by decide +kernel
theorem dL_pour_198 : decode cL_pour 198 = .ok (.irem, 1) := by decide +kernel
theorem dL_pour_199 : decode cL_pour 199 = .ok (.isub, 1) := by decide +kernel
theorem dL_pour_200 : decode cL_pour 200 = .ok (.istore 14, 2) := by decide +kernel
theorem dL_pour_202 : decode cL_pour 202 = .ok (.iload 8, 2) := by decide +kernel
theorem dL_pour_204 : decode cL_pour 204 = .ok (.iload 14, 2) := by decide +kernel
theorem dL_pour_206 : decode cL_pour 206 = .ok (.aload_n 1, 1) := by decide +kernel
theorem dL_pour_207 : decode cL_pour 207 = .ok (.iload 12, 2) := by decide +kernel
theorem dL_pour_209 : decode cL_pour 209 = .ok (.iaload, 1) := by decide +kernel
theorem dL_pour_210 : decode cL_pour 210 = .ok (.if_icmp .ge 8, 3) := by decide +kernel
theorem dL_pour_213 : decode cL_pour 213 = .ok (.iload 14, 2) := by decide +kernel
theorem dL_pour_215 : decode cL_pour 215 = .ok (.goto 4, 3) := by decide +kernel
theorem dL_pour_218 : decode cL_pour 218 = .ok (.iconst 0, 1) := by decide +kernel
theorem dL_pour_219 : decode cL_pour 219 = .ok (.iadd, 1) := by decide +kernel
theorem dL_pour_220 : decode cL_pour 220 = .ok (.istore 8, 2) := by decide +kernel
theorem dL_pour_222 : decode cL_pour 222 = .ok (.iconst 0, 1) := by decide +kernel
theorem dL_pour_223 : decode cL_pour 223 = .ok (.istore 15, 2) := by decide +kernel
theorem dL_pour_225 : decode cL_pour 225 = .ok (.iload 15, 2) := by decide +kernel
theorem dL_pour_227 : decode cL_pour 227 = .ok (.iconst 2, 1) := by decide +kernel
theorem dL_pour_228 : decode cL_pour 228 = .ok (.if_icmp .ge 65, 3) := by decide +kernel
theorem dL_pour_231 : decode cL_pour 231 = .ok (.iload 8, 2) := by decide +kernel
theorem dL_pour_233 : decode cL_pour 233 = .ok (.bipush 24, 2) := by decide +kernel
theorem dL_pour_235 : decode cL_pour 235 = .ok (.if_icmp .ne 12, 3) := by decide +kernel
theorem dL_pour_238 : decode cL_pour 238 = .ok (.iinc 7 1, 3) := by decide +kernel
theorem dL_pour_241 : decode cL_pour 241 = .ok (.iconst 0, 1) := by decide +kernel
theorem dL_pour_242 : decode cL_pour 242 = .ok (.istore 8, 2) := by decide +kernel
theorem dL_pour_244 : decode cL_pour 244 = .ok (.iconst 0, 1) := by decide +kernel
theorem dL_pour_245 : decode cL_pour 245 = .ok (.istore 9, 2) := by decide +kernel
theorem dL_pour_247 : decode cL_pour 247 = .ok (.iload 8, 2) := by decide +kernel
theorem dL_pour_249 : decode cL_pour 249 = .ok (.aload_n 0, 1) := by decide +kernel
theorem dL_pour_250 : decode cL_pour 250 = .ok (.iload 12, 2) := by decide +kernel
theorem dL_pour_252 : decode cL_pour 252 = .ok (.iaload, 1) := by decide +kernel
theorem dL_pour_253 : decode cL_pour 253 = .ok (.iconst 1, 1) := by decide +kernel
theorem dL_pour_254 : decode cL_pour 254 = .ok (.if_icmp .ne 29, 3) := by decide +kernel
theorem dL_pour_257 : decode cL_pour 257 = .ok (.iload 7, 2) := by decide +kernel
theorem dL_pour_259 : decode cL_pour 259 = .ok (.iconst 2, 1) := by decide +kernel
theorem dL_pour_260 : decode cL_pour 260 = .ok (.irem, 1) := by decide +kernel
theorem dL_pour_261 : decode cL_pour 261 = .ok (.ifCond .ne 22, 3) := by decide +kernel
theorem dL_pour_264 : decode cL_pour 264 = .ok (.iload 8, 2) := by decide +kernel
theorem dL_pour_266 : decode cL_pour 266 = .ok (.bipush 6, 2) := by decide +kernel
theorem dL_pour_268 : decode cL_pour 268 = .ok (.irem, 1) := by decide +kernel
theorem dL_pour_269 : decode cL_pour 269 = .ok (.ifCond .le 14, 3) := by decide +kernel
theorem dL_pour_272 : decode cL_pour 272 = .ok (.bipush 6, 2) := by decide +kernel
theorem dL_pour_274 : decode cL_pour 274 = .ok (.iload 8, 2) := by decide +kernel
theorem dL_pour_276 : decode cL_pour 276 = .ok (.bipush 6, 2) := by decide +kernel
theorem dL_pour_278 : decode cL_pour 278 = .ok (.irem, 1) := by decide +kernel
theorem dL_pour_279 : decode cL_pour 279 = .ok (.isub, 1) := by decide +kernel
theorem dL_pour_280 : decode cL_pour 280 = .ok (.goto 4, 3) := by decide +kernel
theorem dL_pour_283 : decode cL_pour 283 = .ok (.iconst 0, 1) := by decide +kernel
theorem dL_pour_284 : decode cL_pour 284 = .ok (.iadd, 1) := by decide +kernel
theorem dL_pour_285 : decode cL_pour 285 = .ok (.istore 8, 2) := by decide +kernel
theorem dL_pour_287 : decode cL_pour 287 = .ok (.iinc 15 1, 3) := by decide +kernel
theorem dL_pour_290 : decode cL_pour 290 = .ok (.goto (-65), 3) := by decide +kernel
theorem dL_pour_293 : decode cL_pour 293 = .ok (.aload_n 0, 1) := by decide +kernel
theorem dL_pour_294 : decode cL_pour 294 = .ok (.iload 12, 2) := by decide +kernel
theorem dL_pour_296 : decode cL_pour 296 = .ok (.iaload, 1) := by decide +kernel
theorem dL_pour_297 : decode cL_pour 297 = .ok (.iconst 1, 1) := by decide +kernel
theorem dL_pour_298 : decode cL_pour 298 = .ok (.if_icmp .ne 30, 3) := by decide +kernel
theorem dL_pour_301 : decode cL_pour 301 = .ok (.iload 7, 2) := by decide +kernel
theorem dL_pour_303 : decode cL_pour 303 = .ok (.iconst 2, 1) := by decide +kernel
theorem dL_pour_304 : decode cL_pour 304 = .ok (.irem, 1) := by decide +kernel
theorem dL_pour_305 : decode cL_pour 305 = .ok (.iconst 1, 1) := by decide +kernel
theorem dL_pour_306 : decode cL_pour 306 = .ok (.if_icmp .ne 22, 3) := by decide +kernel
theorem dL_pour_309 : decode cL_pour 309 = .ok (.iload 8, 2) := by decide +kernel
theorem dL_pour_311 : decode cL_pour 311 = .ok (.bipush 6, 2) := by decide +kernel
theorem dL_pour_313 : decode cL_pour 313 = .ok (.idiv, 1) := by decide +kernel
theorem dL_pour_314 : decode cL_pour 314 = .ok (.bipush 6, 2) := by decide +kernel
theorem dL_pour_316 : decode cL_pour 316 = .ok (.imul, 1) := by decide +kernel
theorem dL_pour_317 : decode cL_pour 317 = .ok (.bipush 6, 2) := by decide +kernel
theorem dL_pour_319 : decode cL_pour 319 = .ok (.iadd, 1) := by decide +kernel
theorem dL_pour_320 : decode cL_pour 320 = .ok (.aload_n 1, 1) := by decide +kernel
theorem dL_pour_321 : decode cL_pour 321 = .ok (.iload 12, 2) := by decide +kernel
theorem dL_pour_323 : decode cL_pour 323 = .ok (.iaload, 1) := by decide +kernel
theorem dL_pour_324 : decode cL_pour 324 = .ok (.isub, 1) := by decide +kernel
theorem dL_pour_325 : decode cL_pour 325 = .ok (.goto 5, 3) := by decide +kernel
theorem dL_pour_328 : decode cL_pour 328 = .ok (.iload 8, 2) := by decide +kernel
theorem dL_pour_330 : decode cL_pour 330 = .ok (.istore 8, 2) := by decide +kernel
theorem dL_pour_332 : decode cL_pour 332 = .ok (.iload 11, 2) := by decide +kernel
theorem dL_pour_334 : decode cL_pour 334 = .ok (.ifCond .eq 14, 3) := by decide +kernel
theorem dL_pour_337 : decode cL_pour 337 = .ok (.iload 7, 2) := by decide +kernel
theorem dL_pour_339 : decode cL_pour 339 = .ok (.bipush 16, 2) := by decide +kernel
theorem dL_pour_341 : decode cL_pour 341 = .ok (.if_icmp .ge 7, 3) := by decide +kernel
theorem dL_pour_344 : decode cL_pour 344 = .ok (.iconst 1, 1) := by decide +kernel
theorem dL_pour_345 : decode cL_pour 345 = .ok (.goto 4, 3) := by decide +kernel
theorem dL_pour_348 : decode cL_pour 348 = .ok (.iconst 0, 1) := by decide +kernel
theorem dL_pour_349 : decode cL_pour 349 = .ok (.istore 11, 2) := by decide +kernel
theorem dL_pour_351 : decode cL_pour 351 = .ok (.aload_n 3, 1) := by decide +kernel
theorem dL_pour_352 : decode cL_pour 352 = .ok (.iload 12, 2) := by decide +kernel
theorem dL_pour_354 : decode cL_pour 354 = .ok (.iload 11, 2) := by decide +kernel
theorem dL_pour_356 : decode cL_pour 356 = .ok (.ifCond .eq 8, 3) := by decide +kernel
theorem dL_pour_359 : decode cL_pour 359 = .ok (.iload 7, 2) := by decide +kernel
theorem dL_pour_361 : decode cL_pour 361 = .ok (.goto 4, 3) := by decide +kernel
theorem dL_pour_364 : decode cL_pour 364 = .ok (.iconst (-1), 1) := by decide +kernel
theorem dL_pour_365 : decode cL_pour 365 = .ok (.iastore, 1) := by decide +kernel
theorem dL_pour_366 : decode cL_pour 366 = .ok (.aload 4, 2) := by decide +kernel
theorem dL_pour_368 : decode cL_pour 368 = .ok (.iload 12, 2) := by decide +kernel
theorem dL_pour_370 : decode cL_pour 370 = .ok (.iload 11, 2) := by decide +kernel
theorem dL_pour_372 : decode cL_pour 372 = .ok (.ifCond .eq 11, 3) := by decide +kernel
theorem dL_pour_375 : decode cL_pour 375 = .ok (.iload 8, 2) := by decide +kernel
theorem dL_pour_377 : decode cL_pour 377 = .ok (.bipush 6, 2) := by decide +kernel
theorem dL_pour_379 : decode cL_pour 379 = .ok (.idiv, 1) := by decide +kernel
theorem dL_pour_380 : decode cL_pour 380 = .ok (.goto 4, 3) := by decide +kernel
theorem dL_pour_383 : decode cL_pour 383 = .ok (.iconst (-1), 1) := by decide +kernel
theorem dL_pour_384 : decode cL_pour 384 = .ok (.iastore, 1) := by decide +kernel
theorem dL_pour_385 : decode cL_pour 385 = .ok (.aload 5, 2) := by decide +kernel
theorem dL_pour_387 : decode cL_pour 387 = .ok (.iload 12, 2) := by decide +kernel
theorem dL_pour_389 : decode cL_pour 389 = .ok (.iload 11, 2) := by decide +kernel
theorem dL_pour_391 : decode cL_pour 391 = .ok (.ifCond .eq 11, 3) := by decide +kernel
theorem dL_pour_394 : decode cL_pour 394 = .ok (.iload 8, 2) := by decide +kernel
theorem dL_pour_396 : decode cL_pour 396 = .ok (.bipush 6, 2) := by decide +kernel
theorem dL_pour_398 : decode cL_pour 398 = .ok (.irem, 1) := by decide +kernel
theorem dL_pour_399 : decode cL_pour 399 = .ok (.goto 4, 3) := by decide +kernel
theorem dL_pour_402 : decode cL_pour 402 = .ok (.iconst (-1), 1) := by decide +kernel
theorem dL_pour_403 : decode cL_pour 403 = .ok (.iastore, 1) := by decide +kernel
theorem dL_pour_404 : decode cL_pour 404 = .ok (.iload 8, 2) := by decide +kernel
theorem dL_pour_406 : decode cL_pour 406 = .ok (.aload_n 1, 1) := by decide +kernel
theorem dL_pour_407 : decode cL_pour 407 = .ok (.iload 12, 2) := by decide +kernel
theorem dL_pour_409 : decode cL_pour 409 = .ok (.iaload, 1) := by decide +kernel
theorem dL_pour_410 : decode cL_pour 410 = .ok (.iadd, 1) := by decide +kernel
theorem dL_pour_411 : decode cL_pour 411 = .ok (.istore 8, 2) := by decide +kernel
theorem dL_pour_413 : decode cL_pour 413 = .ok (.iload 9, 2) := by decide +kernel
theorem dL_pour_415 : decode cL_pour 415 = .ok (.aload_n 2, 1) := by decide +kernel
theorem dL_pour_416 : decode cL_pour 416 = .ok (.iload 12, 2) := by decide +kernel
theorem dL_pour_418 : decode cL_pour 418 = .ok (.iaload, 1) := by decide +kernel
theorem dL_pour_419 : decode cL_pour 419 = .ok (.iadd, 1) := by decide +kernel
theorem dL_pour_420 : decode cL_pour 420 = .ok (.istore 9, 2) := by decide +kernel
theorem dL_pour_422 : decode cL_pour 422 = .ok (.iconst 1, 1) := by decide +kernel
theorem dL_pour_423 : decode cL_pour 423 = .ok (.istore 10, 2) := by decide +kernel
theorem dL_pour_425 : decode cL_pour 425 = .ok (.iinc 12 1, 3) := by decide +kernel
theorem dL_pour_428 : decode cL_pour 428 = .ok (.goto (-410), 3) := by decide +kernel
theorem dL_pour_431 : decode cL_pour 431 = .ok (.return_, 1) := by decide +kernel
theorem dL_takes_0 : decode cL_takes 0 = .ok (.aload_n 2, 1) := by decide +kernel
theorem dL_takes_1 : decode cL_takes 1 = .ok (.iload 5, 2) := by decide +kernel
theorem dL_takes_3 : decode cL_takes 3 = .ok (.iaload, 1) := by decide +kernel
theorem dL_takes_4 : decode cL_takes 4 = .ok (.ifCond .ge 5, 3) := by decide +kernel
theorem dL_takes_7 : decode cL_takes 7 = .ok (.iconst 0, 1) := by decide +kernel
theorem dL_takes_8 : decode cL_takes 8 = .ok (.ireturn, 1) := by decide +kernel
theorem dL_takes_9 : decode cL_takes 9 = .ok (.aload_n 0, 1) := by decide +kernel
theorem dL_takes_10 : decode cL_takes 10 = .ok (.iload 5, 2) := by decide +kernel
theorem dL_takes_12 : decode cL_takes 12 = .ok (.iaload, 1) := by decide +kernel
theorem dL_takes_13 : decode cL_takes 13 = .ok (.iconst 1, 1) := by decide +kernel
theorem dL_takes_14 : decode cL_takes 14 = .ok (.if_icmp .le 37, 3) := by decide +kernel
theorem dL_takes_17 : decode cL_takes 17 = .ok (.iload 6, 2) := by decide +kernel
theorem dL_takes_19 : decode cL_takes 19 = .ok (.aload_n 2, 1) := by decide +kernel
theorem dL_takes_20 : decode cL_takes 20 = .ok (.iload 5, 2) := by decide +kernel
theorem dL_takes_22 : decode cL_takes 22 = .ok (.iaload, 1) := by decide +kernel
theorem dL_takes_23 : decode cL_takes 23 = .ok (.if_icmp .eq 22, 3) := by decide +kernel
theorem dL_takes_26 : decode cL_takes 26 = .ok (.aload_n 0, 1) := by decide +kernel
theorem dL_takes_27 : decode cL_takes 27 = .ok (.iload 5, 2) := by decide +kernel
theorem dL_takes_29 : decode cL_takes 29 = .ok (.iaload, 1) := by decide +kernel
theorem dL_takes_30 : decode cL_takes 30 = .ok (.iconst 3, 1) := by decide +kernel
theorem dL_takes_31 : decode cL_takes 31 = .ok (.if_icmp .ne 18, 3) := by decide +kernel
theorem dL_takes_34 : decode cL_takes 34 = .ok (.iload 6, 2) := by decide +kernel
theorem dL_takes_36 : decode cL_takes 36 = .ok (.aload_n 2, 1) := by decide +kernel
theorem dL_takes_37 : decode cL_takes 37 = .ok (.iload 5, 2) := by decide +kernel
theorem dL_takes_39 : decode cL_takes 39 = .ok (.iaload, 1) := by decide +kernel
theorem dL_takes_40 : decode cL_takes 40 = .ok (.iconst 1, 1) := by decide +kernel
theorem dL_takes_41 : decode cL_takes 41 = .ok (.iadd, 1) := by decide +kernel
theorem dL_takes_42 : decode cL_takes 42 = .ok (.if_icmp .ne 7, 3) := by decide +kernel
theorem dL_takes_45 : decode cL_takes 45 = .ok (.iconst 1, 1) := by decide +kernel
theorem dL_takes_46 : decode cL_takes 46 = .ok (.goto 4, 3) := by decide +kernel
theorem dL_takes_49 : decode cL_takes 49 = .ok (.iconst 0, 1) := by decide +kernel
theorem dL_takes_50 : decode cL_takes 50 = .ok (.ireturn, 1) := by decide +kernel
theorem dL_takes_51 : decode cL_takes 51 = .ok (.iload 6, 2) := by decide +kernel
theorem dL_takes_53 : decode cL_takes 53 = .ok (.aload_n 2, 1) := by decide +kernel
theorem dL_takes_54 : decode cL_takes 54 = .ok (.iload 5, 2) := by decide +kernel
theorem dL_takes_56 : decode cL_takes 56 = .ok (.iaload, 1) := by decide +kernel
theorem dL_takes_57 : decode cL_takes 57 = .ok (.if_icmp .ne 50, 3) := by decide +kernel
theorem dL_takes_60 : decode cL_takes 60 = .ok (.iload 7, 2) := by decide +kernel
theorem dL_takes_62 : decode cL_takes 62 = .ok (.bipush 6, 2) := by decide +kernel
theorem dL_takes_64 : decode cL_takes 64 = .ok (.idiv, 1) := by decide +kernel
theorem dL_takes_65 : decode cL_takes 65 = .ok (.aload_n 3, 1) := by decide +kernel
theorem dL_takes_66 : decode cL_takes 66 = .ok (.iload 5, 2) := by decide +kernel
theorem dL_takes_68 : decode cL_takes 68 = .ok (.iaload, 1) := by decide +kernel
theorem dL_takes_69 : decode cL_takes 69 = .ok (.if_icmp .ne 38, 3) := by decide +kernel
theorem dL_takes_72 : decode cL_takes 72 = .ok (.iload 7, 2) := by decide +kernel
theorem dL_takes_74 : decode cL_takes 74 = .ok (.bipush 6, 2) := by decide +kernel
theorem dL_takes_76 : decode cL_takes 76 = .ok (.irem, 1) := by decide +kernel
theorem dL_takes_77 : decode cL_takes 77 = .ok (.aload 4, 2) := by decide +kernel
theorem dL_takes_79 : decode cL_takes 79 = .ok (.iload 5, 2) := by decide +kernel
theorem dL_takes_81 : decode cL_takes 81 = .ok (.iaload, 1) := by decide +kernel
theorem dL_takes_82 : decode cL_takes 82 = .ok (.if_icmp .lt 25, 3) := by decide +kernel
theorem dL_takes_85 : decode cL_takes 85 = .ok (.iload 7, 2) := by decide +kernel
theorem dL_takes_87 : decode cL_takes 87 = .ok (.bipush 6, 2) := by decide +kernel
theorem dL_takes_89 : decode cL_takes 89 = .ok (.irem, 1) := by decide +kernel
theorem dL_takes_90 : decode cL_takes 90 = .ok (.aload 4, 2) := by decide +kernel
theorem dL_takes_92 : decode cL_takes 92 = .ok (.iload 5, 2) := by decide +kernel
theorem dL_takes_94 : decode cL_takes 94 = .ok (.iaload, 1) := by decide +kernel
theorem dL_takes_95 : decode cL_takes 95 = .ok (.aload_n 1, 1) := by decide +kernel
theorem dL_takes_96 : decode cL_takes 96 = .ok (.iload 5, 2) := by decide +kernel
theorem dL_takes_98 : decode cL_takes 98 = .ok (.iaload, 1) := by decide +kernel
theorem dL_takes_99 : decode cL_takes 99 = .ok (.iadd, 1) := by decide +kernel
theorem dL_takes_100 : decode cL_takes 100 = .ok (.if_icmp .ge 7, 3) := by decide +kernel
theorem dL_takes_103 : decode cL_takes 103 = .ok (.iconst 1, 1) := by decide +kernel
theorem dL_takes_104 : decode cL_takes 104 = .ok (.goto 4, 3) := by decide +kernel
theorem dL_takes_107 : decode cL_takes 107 = .ok (.iconst 0, 1) := by decide +kernel
theorem dL_takes_108 : decode cL_takes 108 = .ok (.ireturn, 1) := by decide +kernel
theorem dL_whole_0 : decode cL_whole 0 = .ok (.iconst 0, 1) := by decide +kernel
theorem dL_whole_1 : decode cL_whole 1 = .ok (.istore 4, 2) := by decide +kernel
theorem dL_whole_3 : decode cL_whole 3 = .ok (.iconst 0, 1) := by decide +kernel
theorem dL_whole_4 : decode cL_whole 4 = .ok (.istore 5, 2) := by decide +kernel
theorem dL_whole_6 : decode cL_whole 6 = .ok (.iconst 0, 1) := by decide +kernel
theorem dL_whole_7 : decode cL_whole 7 = .ok (.istore 6, 2) := by decide +kernel
theorem dL_whole_9 : decode cL_whole 9 = .ok (.iconst 0, 1) := by decide +kernel
theorem dL_whole_10 : decode cL_whole 10 = .ok (.istore 7, 2) := by decide +kernel
theorem dL_whole_12 : decode cL_whole 12 = .ok (.iconst 0, 1) := by decide +kernel
theorem dL_whole_13 : decode cL_whole 13 = .ok (.istore 8, 2) := by decide +kernel
theorem dL_whole_15 : decode cL_whole 15 = .ok (.iload 8, 2) := by decide +kernel
theorem dL_whole_17 : decode cL_whole 17 = .ok (.aload_n 3, 1) := by decide +kernel
theorem dL_whole_18 : decode cL_whole 18 = .ok (.iconst 1, 1) := by decide +kernel
theorem dL_whole_19 : decode cL_whole 19 = .ok (.iaload, 1) := by decide +kernel
theorem dL_whole_20 : decode cL_whole 20 = .ok (.if_icmp .ge 127, 3) := by decide +kernel
theorem dL_whole_23 : decode cL_whole 23 = .ok (.iload 4, 2) := by decide +kernel
theorem dL_whole_25 : decode cL_whole 25 = .ok (.aload_n 2, 1) := by decide +kernel
theorem dL_whole_26 : decode cL_whole 26 = .ok (.iload 8, 2) := by decide +kernel
theorem dL_whole_28 : decode cL_whole 28 = .ok (.iaload, 1) := by decide +kernel
theorem dL_whole_29 : decode cL_whole 29 = .ok (.ifCond .ge 7, 3) := by decide +kernel
theorem dL_whole_32 : decode cL_whole 32 = .ok (.iconst 1, 1) := by decide +kernel
theorem dL_whole_33 : decode cL_whole 33 = .ok (.goto 4, 3) := by decide +kernel
theorem dL_whole_36 : decode cL_whole 36 = .ok (.iconst 0, 1) := by decide +kernel
theorem dL_whole_37 : decode cL_whole 37 = .ok (.iadd, 1) := by decide +kernel
theorem dL_whole_38 : decode cL_whole 38 = .ok (.istore 4, 2) := by decide +kernel
theorem dL_whole_40 : decode cL_whole 40 = .ok (.aload_n 2, 1) := by decide +kernel
theorem dL_whole_41 : decode cL_whole 41 = .ok (.iload 8, 2) := by decide +kernel
theorem dL_whole_43 : decode cL_whole 43 = .ok (.iaload, 1) := by decide +kernel
theorem dL_whole_44 : decode cL_whole 44 = .ok (.ifCond .lt 97, 3) := by decide +kernel
theorem dL_whole_47 : decode cL_whole 47 = .ok (.aload_n 0, 1) := by decide +kernel
theorem dL_whole_48 : decode cL_whole 48 = .ok (.iload 8, 2) := by decide +kernel
theorem dL_whole_50 : decode cL_whole 50 = .ok (.iaload, 1) := by decide +kernel
theorem dL_whole_51 : decode cL_whole 51 = .ok (.iconst 3, 1) := by decide +kernel
theorem dL_whole_52 : decode cL_whole 52 = .ok (.if_icmp .ne 12, 3) := by decide +kernel
theorem dL_whole_55 : decode cL_whole 55 = .ok (.aload_n 2, 1) := by decide +kernel
theorem dL_whole_56 : decode cL_whole 56 = .ok (.iload 8, 2) := by decide +kernel
theorem dL_whole_58 : decode cL_whole 58 = .ok (.iaload, 1) := by decide +kernel
theorem dL_whole_59 : decode cL_whole 59 = .ok (.iconst 1, 1) := by decide +kernel
theorem dL_whole_60 : decode cL_whole 60 = .ok (.iadd, 1) := by decide +kernel
theorem dL_whole_61 : decode cL_whole 61 = .ok (.goto 7, 3) := by decide +kernel
theorem dL_whole_64 : decode cL_whole 64 = .ok (.aload_n 2, 1) := by decide +kernel
theorem dL_whole_65 : decode cL_whole 65 = .ok (.iload 8, 2) := by decide +kernel
theorem dL_whole_67 : decode cL_whole 67 = .ok (.iaload, 1) := by decide +kernel
theorem dL_whole_68 : decode cL_whole 68 = .ok (.istore 9, 2) := by decide +kernel
theorem dL_whole_70 : decode cL_whole 70 = .ok (.iload 9, 2) := by decide +kernel
theorem dL_whole_72 : decode cL_whole 72 = .ok (.iconst 1, 1) := by decide +kernel
theorem dL_whole_73 : decode cL_whole 73 = .ok (.iadd, 1) := by decide +kernel
theorem dL_whole_74 : decode cL_whole 74 = .ok (.iload 5, 2) := by decide +kernel
theorem dL_whole_76 : decode cL_whole 76 = .ok (.if_icmp .le 10, 3) := by decide +kernel
theorem dL_whole_79 : decode cL_whole 79 = .ok (.iload 9, 2) := by decide +kernel
theorem dL_whole_81 : decode cL_whole 81 = .ok (.iconst 1, 1) := by decide +kernel
theorem dL_whole_82 : decode cL_whole 82 = .ok (.iadd, 1) := by decide +kernel
theorem dL_whole_83 : decode cL_whole 83 = .ok (.goto 5, 3) := by decide +kernel
theorem dL_whole_86 : decode cL_whole 86 = .ok (.iload 5, 2) := by decide +kernel
theorem dL_whole_88 : decode cL_whole 88 = .ok (.istore 5, 2) := by decide +kernel
theorem dL_whole_90 : decode cL_whole 90 = .ok (.iload 6, 2) := by decide +kernel
theorem dL_whole_92 : decode cL_whole 92 = .ok (.iconst 1, 1) := by decide +kernel
theorem dL_whole_93 : decode cL_whole 93 = .ok (.aload_n 2, 1) := by decide +kernel
theorem dL_whole_94 : decode cL_whole 94 = .ok (.iload 8, 2) := by decide +kernel
theorem dL_whole_96 : decode cL_whole 96 = .ok (.iaload, 1) := by decide +kernel
theorem dL_whole_97 : decode cL_whole 97 = .ok (.ishl, 1) := by decide +kernel
theorem dL_whole_98 : decode cL_whole 98 = .ok (.iconst 1, 1) := by decide +kernel
theorem dL_whole_99 : decode cL_whole 99 = .ok (.iload 9, 2) := by decide +kernel
theorem dL_whole_101 : decode cL_whole 101 = .ok (.ishl, 1) := by decide +kernel
theorem dL_whole_102 : decode cL_whole 102 = .ok (.ior, 1) := by decide +kernel
theorem dL_whole_103 : decode cL_whole 103 = .ok (.ior, 1) := by decide +kernel
theorem dL_whole_104 : decode cL_whole 104 = .ok (.istore 6, 2) := by decide +kernel
theorem dL_whole_106 : decode cL_whole 106 = .ok (.iload 7, 2) := by decide +kernel
theorem dL_whole_108 : decode cL_whole 108 = .ok (.aload_n 0, 1) := by decide +kernel
theorem dL_whole_109 : decode cL_whole 109 = .ok (.iload 8, 2) := by decide +kernel
theorem dL_whole_111 : decode cL_whole 111 = .ok (.iaload, 1) := by decide +kernel
theorem dL_whole_112 : decode cL_whole 112 = .ok (.iconst 2, 1) := by decide +kernel
theorem dL_whole_113 : decode cL_whole 113 = .ok (.if_icmp .ne 8, 3) := by decide +kernel
theorem dL_whole_116 : decode cL_whole 116 = .ok (.bipush 24, 2) := by decide +kernel
theorem dL_whole_118 : decode cL_whole 118 = .ok (.goto 20, 3) := by decide +kernel
theorem dL_whole_121 : decode cL_whole 121 = .ok (.aload_n 0, 1) := by decide +kernel
theorem dL_whole_122 : decode cL_whole 122 = .ok (.iload 8, 2) := by decide +kernel
theorem dL_whole_124 : decode cL_whole 124 = .ok (.iaload, 1) := by decide +kernel
theorem dL_whole_125 : decode cL_whole 125 = .ok (.iconst 3, 1) := by decide +kernel
theorem dL_whole_126 : decode cL_whole 126 = .ok (.if_icmp .ne 8, 3) := by decide +kernel
theorem dL_whole_129 : decode cL_whole 129 = .ok (.bipush 48, 2) := by decide +kernel
theorem dL_whole_131 : decode cL_whole 131 = .ok (.goto 7, 3) := by decide +kernel
theorem dL_whole_134 : decode cL_whole 134 = .ok (.aload_n 1, 1) := by decide +kernel
theorem dL_whole_135 : decode cL_whole 135 = .ok (.iload 8, 2) := by decide +kernel
theorem dL_whole_137 : decode cL_whole 137 = .ok (.iaload, 1) := by decide +kernel
theorem dL_whole_138 : decode cL_whole 138 = .ok (.iadd, 1) := by decide +kernel
theorem dL_whole_139 : decode cL_whole 139 = .ok (.istore 7, 2) := by decide +kernel
theorem dL_whole_141 : decode cL_whole 141 = .ok (.iinc 8 1, 3) := by decide +kernel
theorem dL_whole_144 : decode cL_whole 144 = .ok (.goto (-129), 3) := by decide +kernel
theorem dL_whole_147 : decode cL_whole 147 = .ok (.iconst 0, 1) := by decide +kernel
theorem dL_whole_148 : decode cL_whole 148 = .ok (.istore 8, 2) := by decide +kernel
theorem dL_whole_150 : decode cL_whole 150 = .ok (.iconst 0, 1) := by decide +kernel
theorem dL_whole_151 : decode cL_whole 151 = .ok (.istore 9, 2) := by decide +kernel
theorem dL_whole_153 : decode cL_whole 153 = .ok (.iload 9, 2) := by decide +kernel
theorem dL_whole_155 : decode cL_whole 155 = .ok (.bipush 16, 2) := by decide +kernel
theorem dL_whole_157 : decode cL_whole 157 = .ok (.if_icmp .ge 21, 3) := by decide +kernel
theorem dL_whole_160 : decode cL_whole 160 = .ok (.iload 8, 2) := by decide +kernel
theorem dL_whole_162 : decode cL_whole 162 = .ok (.iload 6, 2) := by decide +kernel
theorem dL_whole_164 : decode cL_whole 164 = .ok (.iload 9, 2) := by decide +kernel
theorem dL_whole_166 : decode cL_whole 166 = .ok (.ishr, 1) := by decide +kernel
theorem dL_whole_167 : decode cL_whole 167 = .ok (.iconst 1, 1) := by decide +kernel
theorem dL_whole_168 : decode cL_whole 168 = .ok (.iand, 1) := by decide +kernel
theorem dL_whole_169 : decode cL_whole 169 = .ok (.iadd, 1) := by decide +kernel
theorem dL_whole_170 : decode cL_whole 170 = .ok (.istore 8, 2) := by decide +kernel
theorem dL_whole_172 : decode cL_whole 172 = .ok (.iinc 9 1, 3) := by decide +kernel
theorem dL_whole_175 : decode cL_whole 175 = .ok (.goto (-22), 3) := by decide +kernel
theorem dL_whole_178 : decode cL_whole 178 = .ok (.ldc 10, 2) := by decide +kernel
theorem dL_whole_180 : decode cL_whole 180 = .ok (.iload 4, 2) := by decide +kernel
theorem dL_whole_182 : decode cL_whole 182 = .ok (.imul, 1) := by decide +kernel
theorem dL_whole_183 : decode cL_whole 183 = .ok (.sipush 1000, 3) := by decide +kernel
theorem dL_whole_186 : decode cL_whole 186 = .ok (.iload 5, 2) := by decide +kernel
theorem dL_whole_188 : decode cL_whole 188 = .ok (.imul, 1) := by decide +kernel
theorem dL_whole_189 : decode cL_whole 189 = .ok (.iadd, 1) := by decide +kernel
theorem dL_whole_190 : decode cL_whole 190 = .ok (.bipush 24, 2) := by decide +kernel
theorem dL_whole_192 : decode cL_whole 192 = .ok (.iload 8, 2) := by decide +kernel
theorem dL_whole_194 : decode cL_whole 194 = .ok (.imul, 1) := by decide +kernel
theorem dL_whole_195 : decode cL_whole 195 = .ok (.iadd, 1) := by decide +kernel
theorem dL_whole_196 : decode cL_whole 196 = .ok (.iload 7, 2) := by decide +kernel
theorem dL_whole_198 : decode cL_whole 198 = .ok (.isub, 1) := by decide +kernel
theorem dL_whole_199 : decode cL_whole 199 = .ok (.ireturn, 1) := by decide +kernel
set_option maxRecDepth 20000 in
theorem ggL_pages_L_whole : GoodIn wsL_pages wsL_whole := goodIn_r _ [5, 1] (by decide +kernel) (by decide +kernel)
set_option maxRecDepth 20000 in
theorem gL_pages_L_whole : GoodIn wsL_pages (va_wsS RL 11 yL_whole wsL_whole) := goodIn_app (goodIn_of _ (by decide +kernel)) ggL_pages_L_whole
set_option maxRecDepth 20000 in
theorem ggL_pages_X4_page : GoodIn wsL_pages wsX4_page := goodIn_ca (goodIn_ca (goodIn_r _ [10, 11, 12, 13, 14, 15, 16, 17, 9, 18, 19, 20, 21, 22, 23, 24, 25, 26, 27, 28, 29, 30, 31, 32, 33, 34, 71, 72, 73, 74, 75, 76, 77, 78, 79, 80, 81, 82, 83, 84, 85, 86, 87, 88, 89, 90, 91] (by decide +kernel) (by decide +kernel)) (goodIn_sub (fun _ h => List.mem_cons_of_mem _ (List.mem_append_left _ (List.mem_append_right _ h))) (by decide +kernel))) (goodIn_sub (fun _ h => List.mem_cons_of_mem _ (List.mem_append_right _ h)) (by decide +kernel))
set_option maxRecDepth 20000 in
theorem gL_pages_X4_page : GoodIn wsL_pages (wsV RL 19 RX4 yX4_page wsX4_page) := goodIn_app (goodIn_of _ (by decide +kernel)) ggL_pages_X4_page
set_option maxRecDepth 20000 in
theorem ggL_pages_X4_count : GoodIn wsL_pages wsX4_count := goodIn_ca (goodIn_r _ [38, 13, 14, 16, 17, 9, 18, 39, 40, 41, 42, 43, 15, 44, 45, 20, 46, 47, 24, 48, 49, 50, 51, 52, 53, 54, 55, 56, 57, 58, 59, 60, 61, 62, 71, 72, 73, 74, 75, 76, 92, 93, 94, 95, 96, 77, 78, 79, 80, 81, 82, 83, 84, 85, 86, 87, 88, 89, 90, 91, 97, 98] (by decide +kernel) (by decide +kernel)) (goodIn_sub (fun _ h => List.mem_cons_of_mem _ (List.mem_append_right _ h)) (by decide +kernel))
set_option maxRecDepth 20000 in
theorem gL_pages_X4_count : GoodIn wsL_pages (wsV RL 23 RX4 yX4_count wsX4_count) := goodIn_app (goodIn_of _ (by decide +kernel)) ggL_pages_X4_count
set_option maxRecDepth 20000 in
theorem ggL_pages_X4_fullness : GoodIn wsL_pages wsX4_fullness := goodIn_r _ [66, 67, 68, 69, 9, 70, 15, 71, 72, 73, 74, 75, 76, 77, 78, 79, 80, 81, 82, 83, 84, 85, 86, 87, 88, 89, 90, 91] (by decide +kernel) (by decide +kernel)
set_option maxRecDepth 20000 in
theorem gL_pages_X4_fullness : GoodIn wsL_pages (wsV RL 27 RX4 yX4_fullness wsX4_fullness) := goodIn_app (goodIn_of _ (by decide +kernel)) ggL_pages_X4_fullness
theorem dL_pages_0 : decode cL_pages 0 = .ok (.iconst 0, 1) := by decide +kernel
theorem dL_pages_1 : decode cL_pages 1 = .ok (.istore 8, 2) := by decide +kernel
theorem dL_pages_3 : decode cL_pages 3 = .ok (.iconst 0, 1) := by decide +kernel
theorem dL_pages_4 : decode cL_pages 4 = .ok (.istore 9, 2) := by decide +kernel
theorem dL_pages_6 : decode cL_pages 6 = .ok (.iconst 0, 1) := by decide +kernel
theorem dL_pages_7 : decode cL_pages 7 = .ok (.istore 10, 2) := by decide +kernel
theorem dL_pages_9 : decode cL_pages 9 = .ok (.iconst 0, 1) := by decide +kernel
theorem dL_pages_10 : decode cL_pages 10 = .ok (.istore 11, 2) := by decide +kernel
theorem dL_pages_12 : decode cL_pages 12 = .ok (.iconst 0, 1) := by decide +kernel
theorem dL_pages_13 : decode cL_pages 13 = .ok (.istore 12, 2) := by decide +kernel
theorem dL_pages_15 : decode cL_pages 15 = .ok (.aload_n 1, 1) := by decide +kernel
theorem dL_pages_16 : decode cL_pages 16 = .ok (.aload_n 2, 1) := by decide +kernel
theorem dL_pages_17 : decode cL_pages 17 = .ok (.aload 4, 2) := by decide +kernel
theorem dL_pages_19 : decode cL_pages 19 = .ok (.aload 7, 2) := by decide +kernel
theorem dL_pages_21 : decode cL_pages 21 = .ok (.invokestatic 11, 3) := by decide +kernel
theorem dL_pages_24 : decode cL_pages 24 = .ok (.sipush 1000, 3) := by decide +kernel
theorem dL_pages_27 : decode cL_pages 27 = .ok (.idiv, 1) := by decide +kernel
theorem dL_pages_28 : decode cL_pages 28 = .ok (.bipush 100, 2) := by decide +kernel
theorem dL_pages_30 : decode cL_pages 30 = .ok (.irem, 1) := by decide +kernel
theorem dL_pages_31 : decode cL_pages 31 = .ok (.istore 13, 2) := by decide +kernel
theorem dL_pages_33 : decode cL_pages 33 = .ok (.iconst 0, 1) := by decide +kernel
theorem dL_pages_34 : decode cL_pages 34 = .ok (.istore 14, 2) := by decide +kernel
theorem dL_pages_36 : decode cL_pages 36 = .ok (.iconst 0, 1) := by decide +kernel
theorem dL_pages_37 : decode cL_pages 37 = .ok (.istore 15, 2) := by decide +kernel
theorem dL_pages_39 : decode cL_pages 39 = .ok (.iload 15, 2) := by decide +kernel
theorem dL_pages_41 : decode cL_pages 41 = .ok (.bipush 16, 2) := by decide +kernel
theorem dL_pages_43 : decode cL_pages 43 = .ok (.if_icmp .ge 423, 3) := by decide +kernel
theorem dL_pages_46 : decode cL_pages 46 = .ok (.iconst 0, 1) := by decide +kernel
theorem dL_pages_47 : decode cL_pages 47 = .ok (.istore 16, 2) := by decide +kernel
theorem dL_pages_49 : decode cL_pages 49 = .ok (.iconst 0, 1) := by decide +kernel
theorem dL_pages_50 : decode cL_pages 50 = .ok (.istore 17, 2) := by decide +kernel
theorem dL_pages_52 : decode cL_pages 52 = .ok (.iconst (-1), 1) := by decide +kernel
theorem dL_pages_53 : decode cL_pages 53 = .ok (.istore 18, 2) := by decide +kernel
theorem dL_pages_55 : decode cL_pages 55 = .ok (.iconst 0, 1) := by decide +kernel
theorem dL_pages_56 : decode cL_pages 56 = .ok (.istore 19, 2) := by decide +kernel
theorem dL_pages_58 : decode cL_pages 58 = .ok (.iconst 0, 1) := by decide +kernel
theorem dL_pages_59 : decode cL_pages 59 = .ok (.istore 20, 2) := by decide +kernel
theorem dL_pages_61 : decode cL_pages 61 = .ok (.aload 7, 2) := by decide +kernel
theorem dL_pages_63 : decode cL_pages 63 = .ok (.iconst 1, 1) := by decide +kernel
theorem dL_pages_64 : decode cL_pages 64 = .ok (.iaload, 1) := by decide +kernel
theorem dL_pages_65 : decode cL_pages 65 = .ok (.iconst 1, 1) := by decide +kernel
theorem dL_pages_66 : decode cL_pages 66 = .ok (.isub, 1) := by decide +kernel
theorem dL_pages_67 : decode cL_pages 67 = .ok (.istore 21, 2) := by decide +kernel
theorem dL_pages_69 : decode cL_pages 69 = .ok (.iload 21, 2) := by decide +kernel
theorem dL_pages_71 : decode cL_pages 71 = .ok (.ifCond .lt 160, 3) := by decide +kernel
theorem dL_pages_74 : decode cL_pages 74 = .ok (.aload 4, 2) := by decide +kernel
theorem dL_pages_76 : decode cL_pages 76 = .ok (.iload 21, 2) := by decide +kernel
theorem dL_pages_78 : decode cL_pages 78 = .ok (.iaload, 1) := by decide +kernel
theorem dL_pages_79 : decode cL_pages 79 = .ok (.iload 15, 2) := by decide +kernel
theorem dL_pages_81 : decode cL_pages 81 = .ok (.if_icmp .eq 31, 3) := by decide +kernel
theorem dL_pages_84 : decode cL_pages 84 = .ok (.aload_n 1, 1) := by decide +kernel
theorem dL_pages_85 : decode cL_pages 85 = .ok (.iload 21, 2) := by decide +kernel
theorem dL_pages_87 : decode cL_pages 87 = .ok (.iaload, 1) := by decide +kernel
theorem dL_pages_88 : decode cL_pages 88 = .ok (.iconst 3, 1) := by decide +kernel
theorem dL_pages_89 : decode cL_pages 89 = .ok (.if_icmp .ne 27, 3) := by decide +kernel
theorem dL_pages_92 : decode cL_pages 92 = .ok (.aload 4, 2) := by decide +kernel
theorem dL_pages_94 : decode cL_pages 94 = .ok (.iload 21, 2) := by decide +kernel
theorem dL_pages_96 : decode cL_pages 96 = .ok (.iaload, 1) := by decide +kernel
theorem dL_pages_97 : decode cL_pages 97 = .ok (.ifCond .lt 19, 3) := by decide +kernel
theorem dL_pages_100 : decode cL_pages 100 = .ok (.aload 4, 2) := by decide +kernel
theorem dL_pages_102 : decode cL_pages 102 = .ok (.iload 21, 2) := by decide +kernel
theorem dL_pages_104 : decode cL_pages 104 = .ok (.iaload, 1) := by decide +kernel
theorem dL_pages_105 : decode cL_pages 105 = .ok (.iconst 1, 1) := by decide +kernel
theorem dL_pages_106 : decode cL_pages 106 = .ok (.iadd, 1) := by decide +kernel
theorem dL_pages_107 : decode cL_pages 107 = .ok (.iload 15, 2) := by decide +kernel
theorem dL_pages_109 : decode cL_pages 109 = .ok (.if_icmp .ne 7, 3) := by decide +kernel
theorem dL_pages_112 : decode cL_pages 112 = .ok (.iconst 1, 1) := by decide +kernel
theorem dL_pages_113 : decode cL_pages 113 = .ok (.goto 4, 3) := by decide +kernel
theorem dL_pages_116 : decode cL_pages 116 = .ok (.iconst 0, 1) := by decide +kernel
theorem dL_pages_117 : decode cL_pages 117 = .ok (.istore 22, 2) := by decide +kernel
theorem dL_pages_119 : decode cL_pages 119 = .ok (.iload 16, 2) := by decide +kernel
theorem dL_pages_121 : decode cL_pages 121 = .ok (.iload 22, 2) := by decide +kernel
theorem dL_pages_123 : decode cL_pages 123 = .ok (.ifCond .eq 7, 3) := by decide +kernel
theorem dL_pages_126 : decode cL_pages 126 = .ok (.iconst 1, 1) := by decide +kernel
theorem dL_pages_127 : decode cL_pages 127 = .ok (.goto 4, 3) := by decide +kernel
theorem dL_pages_130 : decode cL_pages 130 = .ok (.iconst 0, 1) := by decide +kernel
theorem dL_pages_131 : decode cL_pages 131 = .ok (.iadd, 1) := by decide +kernel
theorem dL_pages_132 : decode cL_pages 132 = .ok (.istore 16, 2) := by decide +kernel
theorem dL_pages_134 : decode cL_pages 134 = .ok (.iload 17, 2) := by decide +kernel
theorem dL_pages_136 : decode cL_pages 136 = .ok (.aload 4, 2) := by decide +kernel
theorem dL_pages_138 : decode cL_pages 138 = .ok (.iload 21, 2) := by decide +kernel
theorem dL_pages_140 : decode cL_pages 140 = .ok (.iaload, 1) := by decide +kernel
theorem dL_pages_141 : decode cL_pages 141 = .ok (.iload 15, 2) := by decide +kernel
theorem dL_pages_143 : decode cL_pages 143 = .ok (.if_icmp .ne 10, 3) := by decide +kernel
theorem dL_pages_146 : decode cL_pages 146 = .ok (.aload_n 3, 1) := by decide +kernel
theorem dL_pages_147 : decode cL_pages 147 = .ok (.iload 21, 2) := by decide +kernel
theorem dL_pages_149 : decode cL_pages 149 = .ok (.iaload, 1) := by decide +kernel
theorem dL_pages_150 : decode cL_pages 150 = .ok (.goto 4, 3) := by decide +kernel
theorem dL_pages_153 : decode cL_pages 153 = .ok (.iconst 0, 1) := by decide +kernel
theorem dL_pages_154 : decode cL_pages 154 = .ok (.iadd, 1) := by decide +kernel
theorem dL_pages_155 : decode cL_pages 155 = .ok (.istore 17, 2) := by decide +kernel
theorem dL_pages_157 : decode cL_pages 157 = .ok (.iload 22, 2) := by decide +kernel
theorem dL_pages_159 : decode cL_pages 159 = .ok (.ifCond .eq 8, 3) := by decide +kernel
theorem dL_pages_162 : decode cL_pages 162 = .ok (.iload 21, 2) := by decide +kernel
theorem dL_pages_164 : decode cL_pages 164 = .ok (.goto 5, 3) := by decide +kernel
theorem dL_pages_167 : decode cL_pages 167 = .ok (.iload 18, 2) := by decide +kernel
theorem dL_pages_169 : decode cL_pages 169 = .ok (.istore 18, 2) := by decide +kernel
theorem dL_pages_171 : decode cL_pages 171 = .ok (.iload 19, 2) := by decide +kernel
theorem dL_pages_173 : decode cL_pages 173 = .ok (.iload 22, 2) := by decide +kernel
theorem dL_pages_175 : decode cL_pages 175 = .ok (.ifCond .eq 15, 3) := by decide +kernel
theorem dL_pages_178 : decode cL_pages 178 = .ok (.aload_n 1, 1) := by decide +kernel
theorem dL_pages_179 : decode cL_pages 179 = .ok (.iload 21, 2) := by decide +kernel
theorem dL_pages_181 : decode cL_pages 181 = .ok (.iaload, 1) := by decide +kernel
theorem dL_pages_182 : decode cL_pages 182 = .ok (.iconst 1, 1) := by decide +kernel
theorem dL_pages_183 : decode cL_pages 183 = .ok (.if_icmp .ne 7, 3) := by decide +kernel
theorem dL_pages_186 : decode cL_pages 186 = .ok (.iconst 1, 1) := by decide +kernel
theorem dL_pages_187 : decode cL_pages 187 = .ok (.goto 4, 3) := by decide +kernel
theorem dL_pages_190 : decode cL_pages 190 = .ok (.iconst 0, 1) := by decide +kernel
theorem dL_pages_191 : decode cL_pages 191 = .ok (.iadd, 1) := by decide +kernel
theorem dL_pages_192 : decode cL_pages 192 = .ok (.istore 19, 2) := by decide +kernel
theorem dL_pages_194 : decode cL_pages 194 = .ok (.iload 20, 2) := by decide +kernel
theorem dL_pages_196 : decode cL_pages 196 = .ok (.iload 22, 2) := by decide +kernel
theorem dL_pages_198 : decode cL_pages 198 = .ok (.ifCond .ne 7, 3) := by decide +kernel
theorem dL_pages_201 : decode cL_pages 201 = .ok (.iconst 0, 1) := by decide +kernel
theorem dL_pages_202 : decode cL_pages 202 = .ok (.goto 20, 3) := by decide +kernel
theorem dL_pages_205 : decode cL_pages 205 = .ok (.aload_n 1, 1) := by decide +kernel
theorem dL_pages_206 : decode cL_pages 206 = .ok (.iload 21, 2) := by decide +kernel
theorem dL_pages_208 : decode cL_pages 208 = .ok (.iaload, 1) := by decide +kernel
theorem dL_pages_209 : decode cL_pages 209 = .ok (.iconst 1, 1) := by decide +kernel
theorem dL_pages_210 : decode cL_pages 210 = .ok (.if_icmp .le 8, 3) := by decide +kernel
theorem dL_pages_213 : decode cL_pages 213 = .ok (.bipush 24, 2) := by decide +kernel
theorem dL_pages_215 : decode cL_pages 215 = .ok (.goto 7, 3) := by decide +kernel
theorem dL_pages_218 : decode cL_pages 218 = .ok (.aload_n 2, 1) := by decide +kernel
theorem dL_pages_219 : decode cL_pages 219 = .ok (.iload 21, 2) := by decide +kernel
theorem dL_pages_221 : decode cL_pages 221 = .ok (.iaload, 1) := by decide +kernel
theorem dL_pages_222 : decode cL_pages 222 = .ok (.iadd, 1) := by decide +kernel
theorem dL_pages_223 : decode cL_pages 223 = .ok (.istore 20, 2) := by decide +kernel
theorem dL_pages_225 : decode cL_pages 225 = .ok (.iinc 21 (-1), 3) := by decide +kernel
theorem dL_pages_228 : decode cL_pages 228 = .ok (.goto (-159), 3) := by decide +kernel
theorem dL_pages_231 : decode cL_pages 231 = .ok (.iload 16, 2) := by decide +kernel
theorem dL_pages_233 : decode cL_pages 233 = .ok (.ifCond .ne 14, 3) := by decide +kernel
theorem dL_pages_236 : decode cL_pages 236 = .ok (.iload 15, 2) := by decide +kernel
theorem dL_pages_238 : decode cL_pages 238 = .ok (.iload 13, 2) := by decide +kernel
theorem dL_pages_240 : decode cL_pages 240 = .ok (.if_icmp .ge 7, 3) := by decide +kernel
theorem dL_pages_243 : decode cL_pages 243 = .ok (.iconst 1, 1) := by decide +kernel
theorem dL_pages_244 : decode cL_pages 244 = .ok (.goto 4, 3) := by decide +kernel
theorem dL_pages_247 : decode cL_pages 247 = .ok (.iconst 0, 1) := by decide +kernel
theorem dL_pages_248 : decode cL_pages 248 = .ok (.istore 21, 2) := by decide +kernel
theorem dL_pages_250 : decode cL_pages 250 = .ok (.aload_n 0, 1) := by decide +kernel
theorem dL_pages_251 : decode cL_pages 251 = .ok (.iload 15, 2) := by decide +kernel
theorem dL_pages_253 : decode cL_pages 253 = .ok (.iconst 0, 1) := by decide +kernel
theorem dL_pages_254 : decode cL_pages 254 = .ok (.invokevirtual 19, 3) := by decide +kernel
theorem dL_pages_257 : decode cL_pages 257 = .ok (.iload 16, 2) := by decide +kernel
theorem dL_pages_259 : decode cL_pages 259 = .ok (.if_icmp .ne 74, 3) := by decide +kernel
theorem dL_pages_262 : decode cL_pages 262 = .ok (.aload_n 0, 1) := by decide +kernel
theorem dL_pages_263 : decode cL_pages 263 = .ok (.iload 15, 2) := by decide +kernel
theorem dL_pages_265 : decode cL_pages 265 = .ok (.iconst 1, 1) := by decide +kernel
theorem dL_pages_266 : decode cL_pages 266 = .ok (.invokevirtual 19, 3) := by decide +kernel
theorem dL_pages_269 : decode cL_pages 269 = .ok (.iload 17, 2) := by decide +kernel
theorem dL_pages_271 : decode cL_pages 271 = .ok (.if_icmp .ne 62, 3) := by decide +kernel
theorem dL_pages_274 : decode cL_pages 274 = .ok (.aload_n 0, 1) := by decide +kernel
theorem dL_pages_275 : decode cL_pages 275 = .ok (.iload 15, 2) := by decide +kernel
theorem dL_pages_277 : decode cL_pages 277 = .ok (.iconst 2, 1) := by decide +kernel
theorem dL_pages_278 : decode cL_pages 278 = .ok (.invokevirtual 19, 3) := by decide +kernel
theorem dL_pages_281 : decode cL_pages 281 = .ok (.bipush 24, 2) := by decide +kernel
theorem dL_pages_283 : decode cL_pages 283 = .ok (.iload 20, 2) := by decide +kernel
theorem dL_pages_285 : decode cL_pages 285 = .ok (.isub, 1) := by decide +kernel
theorem dL_pages_286 : decode cL_pages 286 = .ok (.if_icmp .ne 47, 3) := by decide +kernel
theorem dL_pages_289 : decode cL_pages 289 = .ok (.aload_n 0, 1) := by decide +kernel
theorem dL_pages_290 : decode cL_pages 290 = .ok (.iload 15, 2) := by decide +kernel
theorem dL_pages_292 : decode cL_pages 292 = .ok (.iconst 3, 1) := by decide +kernel
theorem dL_pages_293 : decode cL_pages 293 = .ok (.invokevirtual 19, 3) := by decide +kernel
theorem dL_pages_296 : decode cL_pages 296 = .ok (.iload 18, 2) := by decide +kernel
theorem dL_pages_298 : decode cL_pages 298 = .ok (.if_icmp .ne 35, 3) := by decide +kernel
theorem dL_pages_301 : decode cL_pages 301 = .ok (.aload_n 0, 1) := by decide +kernel
theorem dL_pages_302 : decode cL_pages 302 = .ok (.iload 15, 2) := by decide +kernel
theorem dL_pages_304 : decode cL_pages 304 = .ok (.iconst 4, 1) := by decide +kernel
theorem dL_pages_305 : decode cL_pages 305 = .ok (.invokevirtual 19, 3) := by decide +kernel
theorem dL_pages_308 : decode cL_pages 308 = .ok (.iload 21, 2) := by decide +kernel
theorem dL_pages_310 : decode cL_pages 310 = .ok (.ifCond .eq 7, 3) := by decide +kernel
theorem dL_pages_313 : decode cL_pages 313 = .ok (.iconst 1, 1) := by decide +kernel
theorem dL_pages_314 : decode cL_pages 314 = .ok (.goto 4, 3) := by decide +kernel
theorem dL_pages_317 : decode cL_pages 317 = .ok (.iconst 0, 1) := by decide +kernel
theorem dL_pages_318 : decode cL_pages 318 = .ok (.if_icmp .ne 15, 3) := by decide +kernel
theorem dL_pages_321 : decode cL_pages 321 = .ok (.aload_n 0, 1) := by decide +kernel
theorem dL_pages_322 : decode cL_pages 322 = .ok (.iload 15, 2) := by decide +kernel
theorem dL_pages_324 : decode cL_pages 324 = .ok (.iconst 5, 1) := by decide +kernel
theorem dL_pages_325 : decode cL_pages 325 = .ok (.invokevirtual 19, 3) := by decide +kernel
theorem dL_pages_328 : decode cL_pages 328 = .ok (.iload 19, 2) := by decide +kernel
theorem dL_pages_330 : decode cL_pages 330 = .ok (.if_icmp .eq 5, 3) := by decide +kernel
theorem dL_pages_333 : decode cL_pages 333 = .ok (.iconst 0, 1) := by decide +kernel
theorem dL_pages_334 : decode cL_pages 334 = .ok (.ireturn, 1) := by decide +kernel
theorem dL_pages_335 : decode cL_pages 335 = .ok (.iload 10, 2) := by decide +kernel
theorem dL_pages_337 : decode cL_pages 337 = .ok (.iload 21, 2) := by decide +kernel
theorem dL_pages_339 : decode cL_pages 339 = .ok (.ifCond .eq 7, 3) := by decide +kernel
theorem dL_pages_342 : decode cL_pages 342 = .ok (.iconst 1, 1) := by decide +kernel
theorem dL_pages_343 : decode cL_pages 343 = .ok (.goto 4, 3) := by decide +kernel
theorem dL_pages_346 : decode cL_pages 346 = .ok (.iconst 0, 1) := by decide +kernel
theorem dL_pages_347 : decode cL_pages 347 = .ok (.iadd, 1) := by decide +kernel
theorem dL_pages_348 : decode cL_pages 348 = .ok (.istore 10, 2) := by decide +kernel
theorem dL_pages_350 : decode cL_pages 350 = .ok (.iload 11, 2) := by decide +kernel
theorem dL_pages_352 : decode cL_pages 352 = .ok (.iload 16, 2) := by decide +kernel
theorem dL_pages_354 : decode cL_pages 354 = .ok (.ifCond .le 11, 3) := by decide +kernel
theorem dL_pages_357 : decode cL_pages 357 = .ok (.bipush 24, 2) := by decide +kernel
theorem dL_pages_359 : decode cL_pages 359 = .ok (.iload 20, 2) := by decide +kernel
theorem dL_pages_361 : decode cL_pages 361 = .ok (.isub, 1) := by decide +kernel
theorem dL_pages_362 : decode cL_pages 362 = .ok (.goto 4, 3) := by decide +kernel
theorem dL_pages_365 : decode cL_pages 365 = .ok (.iconst 0, 1) := by decide +kernel
theorem dL_pages_366 : decode cL_pages 366 = .ok (.iadd, 1) := by decide +kernel
theorem dL_pages_367 : decode cL_pages 367 = .ok (.istore 11, 2) := by decide +kernel
theorem dL_pages_369 : decode cL_pages 369 = .ok (.iload 12, 2) := by decide +kernel
theorem dL_pages_371 : decode cL_pages 371 = .ok (.iload 16, 2) := by decide +kernel
theorem dL_pages_373 : decode cL_pages 373 = .ok (.ifCond .le 8, 3) := by decide +kernel
theorem dL_pages_376 : decode cL_pages 376 = .ok (.bipush 24, 2) := by decide +kernel
theorem dL_pages_378 : decode cL_pages 378 = .ok (.goto 4, 3) := by decide +kernel
theorem dL_pages_381 : decode cL_pages 381 = .ok (.iconst 0, 1) := by decide +kernel
theorem dL_pages_382 : decode cL_pages 382 = .ok (.iadd, 1) := by decide +kernel
theorem dL_pages_383 : decode cL_pages 383 = .ok (.istore 12, 2) := by decide +kernel
theorem dL_pages_385 : decode cL_pages 385 = .ok (.iload 17, 2) := by decide +kernel
theorem dL_pages_387 : decode cL_pages 387 = .ok (.iload 8, 2) := by decide +kernel
theorem dL_pages_389 : decode cL_pages 389 = .ok (.if_icmp .le 8, 3) := by decide +kernel
theorem dL_pages_392 : decode cL_pages 392 = .ok (.iload 17, 2) := by decide +kernel
theorem dL_pages_394 : decode cL_pages 394 = .ok (.goto 5, 3) := by decide +kernel
theorem dL_pages_397 : decode cL_pages 397 = .ok (.iload 8, 2) := by decide +kernel
theorem dL_pages_399 : decode cL_pages 399 = .ok (.istore 8, 2) := by decide +kernel
theorem dL_pages_401 : decode cL_pages 401 = .ok (.iload 17, 2) := by decide +kernel
theorem dL_pages_403 : decode cL_pages 403 = .ok (.iload 14, 2) := by decide +kernel
theorem dL_pages_405 : decode cL_pages 405 = .ok (.if_icmp .le 11, 3) := by decide +kernel
theorem dL_pages_408 : decode cL_pages 408 = .ok (.iload 17, 2) := by decide +kernel
theorem dL_pages_410 : decode cL_pages 410 = .ok (.iload 14, 2) := by decide +kernel
theorem dL_pages_412 : decode cL_pages 412 = .ok (.isub, 1) := by decide +kernel
theorem dL_pages_413 : decode cL_pages 413 = .ok (.goto 8, 3) := by decide +kernel
theorem dL_pages_416 : decode cL_pages 416 = .ok (.iload 14, 2) := by decide +kernel
theorem dL_pages_418 : decode cL_pages 418 = .ok (.iload 17, 2) := by decide +kernel
theorem dL_pages_420 : decode cL_pages 420 = .ok (.isub, 1) := by decide +kernel
theorem dL_pages_421 : decode cL_pages 421 = .ok (.istore 22, 2) := by decide +kernel
theorem dL_pages_423 : decode cL_pages 423 = .ok (.iload 15, 2) := by decide +kernel
theorem dL_pages_425 : decode cL_pages 425 = .ok (.iconst 2, 1) := by decide +kernel
theorem dL_pages_426 : decode cL_pages 426 = .ok (.irem, 1) := by decide +kernel
theorem dL_pages_427 : decode cL_pages 427 = .ok (.iconst 1, 1) := by decide +kernel
theorem dL_pages_428 : decode cL_pages 428 = .ok (.if_icmp .ne 24, 3) := by decide +kernel
theorem dL_pages_431 : decode cL_pages 431 = .ok (.iload 15, 2) := by decide +kernel
theorem dL_pages_433 : decode cL_pages 433 = .ok (.iconst 1, 1) := by decide +kernel
theorem dL_pages_434 : decode cL_pages 434 = .ok (.isub, 1) := by decide +kernel
theorem dL_pages_435 : decode cL_pages 435 = .ok (.iload 13, 2) := by decide +kernel
theorem dL_pages_437 : decode cL_pages 437 = .ok (.if_icmp .ge 15, 3) := by decide +kernel
theorem dL_pages_440 : decode cL_pages 440 = .ok (.iload 22, 2) := by decide +kernel
theorem dL_pages_442 : decode cL_pages 442 = .ok (.iload 9, 2) := by decide +kernel
theorem dL_pages_444 : decode cL_pages 444 = .ok (.if_icmp .le 8, 3) := by decide +kernel
theorem dL_pages_447 : decode cL_pages 447 = .ok (.iload 22, 2) := by decide +kernel
theorem dL_pages_449 : decode cL_pages 449 = .ok (.goto 5, 3) := by decide +kernel
theorem dL_pages_452 : decode cL_pages 452 = .ok (.iload 9, 2) := by decide +kernel
theorem dL_pages_454 : decode cL_pages 454 = .ok (.istore 9, 2) := by decide +kernel
theorem dL_pages_456 : decode cL_pages 456 = .ok (.iload 17, 2) := by decide +kernel
theorem dL_pages_458 : decode cL_pages 458 = .ok (.istore 14, 2) := by decide +kernel
theorem dL_pages_460 : decode cL_pages 460 = .ok (.iinc 15 1, 3) := by decide +kernel
theorem dL_pages_463 : decode cL_pages 463 = .ok (.goto (-424), 3) := by decide +kernel
theorem dL_pages_466 : decode cL_pages 466 = .ok (.aload_n 0, 1) := by decide +kernel
theorem dL_pages_467 : decode cL_pages 467 = .ok (.iconst 0, 1) := by decide +kernel
theorem dL_pages_468 : decode cL_pages 468 = .ok (.invokevirtual 23, 3) := by decide +kernel
theorem dL_pages_471 : decode cL_pages 471 = .ok (.aload 7, 2) := by decide +kernel
theorem dL_pages_473 : decode cL_pages 473 = .ok (.iconst 1, 1) := by decide +kernel
theorem dL_pages_474 : decode cL_pages 474 = .ok (.iaload, 1) := by decide +kernel
theorem dL_pages_475 : decode cL_pages 475 = .ok (.if_icmp .ne 112, 3) := by decide +kernel
theorem dL_pages_478 : decode cL_pages 478 = .ok (.aload_n 0, 1) := by decide +kernel
theorem dL_pages_479 : decode cL_pages 479 = .ok (.iconst 1, 1) := by decide +kernel
theorem dL_pages_480 : decode cL_pages 480 = .ok (.invokevirtual 23, 3) := by decide +kernel
theorem dL_pages_483 : decode cL_pages 483 = .ok (.iload 13, 2) := by decide +kernel
theorem dL_pages_485 : decode cL_pages 485 = .ok (.if_icmp .ne 102, 3) := by decide +kernel
theorem dL_pages_488 : decode cL_pages 488 = .ok (.aload_n 0, 1) := by decide +kernel
theorem dL_pages_489 : decode cL_pages 489 = .ok (.iconst 2, 1) := by decide +kernel
theorem dL_pages_490 : decode cL_pages 490 = .ok (.invokevirtual 23, 3) := by decide +kernel
theorem dL_pages_493 : decode cL_pages 493 = .ok (.iload 10, 2) := by decide +kernel
theorem dL_pages_495 : decode cL_pages 495 = .ok (.if_icmp .ne 92, 3) := by decide +kernel
theorem dL_pages_498 : decode cL_pages 498 = .ok (.aload_n 0, 1) := by decide +kernel
theorem dL_pages_499 : decode cL_pages 499 = .ok (.iconst 3, 1) := by decide +kernel
theorem dL_pages_500 : decode cL_pages 500 = .ok (.invokevirtual 23, 3) := by decide +kernel
theorem dL_pages_503 : decode cL_pages 503 = .ok (.aload_n 1, 1) := by decide +kernel
theorem dL_pages_504 : decode cL_pages 504 = .ok (.aload_n 2, 1) := by decide +kernel
theorem dL_pages_505 : decode cL_pages 505 = .ok (.aload 4, 2) := by decide +kernel
theorem dL_pages_507 : decode cL_pages 507 = .ok (.aload 7, 2) := by decide +kernel
theorem dL_pages_509 : decode cL_pages 509 = .ok (.invokestatic 11, 3) := by decide +kernel
theorem dL_pages_512 : decode cL_pages 512 = .ok (.ldc 10, 2) := by decide +kernel
theorem dL_pages_514 : decode cL_pages 514 = .ok (.idiv, 1) := by decide +kernel
theorem dL_pages_515 : decode cL_pages 515 = .ok (.if_icmp .ne 72, 3) := by decide +kernel
theorem dL_pages_518 : decode cL_pages 518 = .ok (.aload_n 0, 1) := by decide +kernel
theorem dL_pages_519 : decode cL_pages 519 = .ok (.iconst 4, 1) := by decide +kernel
theorem dL_pages_520 : decode cL_pages 520 = .ok (.invokevirtual 23, 3) := by decide +kernel
theorem dL_pages_523 : decode cL_pages 523 = .ok (.iload 8, 2) := by decide +kernel
theorem dL_pages_525 : decode cL_pages 525 = .ok (.if_icmp .ne 62, 3) := by decide +kernel
theorem dL_pages_528 : decode cL_pages 528 = .ok (.aload_n 0, 1) := by decide +kernel
theorem dL_pages_529 : decode cL_pages 529 = .ok (.iconst 5, 1) := by decide +kernel
theorem dL_pages_530 : decode cL_pages 530 = .ok (.invokevirtual 23, 3) := by decide +kernel
theorem dL_pages_533 : decode cL_pages 533 = .ok (.iload 11, 2) := by decide +kernel
theorem dL_pages_535 : decode cL_pages 535 = .ok (.if_icmp .ne 52, 3) := by decide +kernel
theorem dL_pages_538 : decode cL_pages 538 = .ok (.aload_n 0, 1) := by decide +kernel
theorem dL_pages_539 : decode cL_pages 539 = .ok (.iconst 5, 1) := by decide +kernel
theorem dL_pages_540 : decode cL_pages 540 = .ok (.invokevirtual 23, 3) := by decide +kernel
theorem dL_pages_543 : decode cL_pages 543 = .ok (.aload_n 1, 1) := by decide +kernel
theorem dL_pages_544 : decode cL_pages 544 = .ok (.aload_n 2, 1) := by decide +kernel
theorem dL_pages_545 : decode cL_pages 545 = .ok (.aload 4, 2) := by decide +kernel
theorem dL_pages_547 : decode cL_pages 547 = .ok (.aload 7, 2) := by decide +kernel
theorem dL_pages_549 : decode cL_pages 549 = .ok (.invokestatic 11, 3) := by decide +kernel
theorem dL_pages_552 : decode cL_pages 552 = .ok (.sipush 1000, 3) := by decide +kernel
theorem dL_pages_555 : decode cL_pages 555 = .ok (.irem, 1) := by decide +kernel
theorem dL_pages_556 : decode cL_pages 556 = .ok (.if_icmp .ne 31, 3) := by decide +kernel
theorem dL_pages_559 : decode cL_pages 559 = .ok (.aload_n 0, 1) := by decide +kernel
theorem dL_pages_560 : decode cL_pages 560 = .ok (.bipush 6, 2) := by decide +kernel
theorem dL_pages_562 : decode cL_pages 562 = .ok (.invokevirtual 23, 3) := by decide +kernel
theorem dL_pages_565 : decode cL_pages 565 = .ok (.iload 9, 2) := by decide +kernel
theorem dL_pages_567 : decode cL_pages 567 = .ok (.if_icmp .ne 20, 3) := by decide +kernel
theorem dL_pages_570 : decode cL_pages 570 = .ok (.aload_n 0, 1) := by decide +kernel
theorem dL_pages_571 : decode cL_pages 571 = .ok (.bipush 7, 2) := by decide +kernel
theorem dL_pages_573 : decode cL_pages 573 = .ok (.invokevirtual 23, 3) := by decide +kernel
theorem dL_pages_576 : decode cL_pages 576 = .ok (.aload 7, 2) := by decide +kernel
theorem dL_pages_578 : decode cL_pages 578 = .ok (.iconst 0, 1) := by decide +kernel
theorem dL_pages_579 : decode cL_pages 579 = .ok (.iaload, 1) := by decide +kernel
theorem dL_pages_580 : decode cL_pages 580 = .ok (.if_icmp .ne 7, 3) := by decide +kernel
theorem dL_pages_583 : decode cL_pages 583 = .ok (.iconst 1, 1) := by decide +kernel
theorem dL_pages_584 : decode cL_pages 584 = .ok (.goto 4, 3) := by decide +kernel
theorem dL_pages_587 : decode cL_pages 587 = .ok (.iconst 0, 1) := by decide +kernel
theorem dL_pages_588 : decode cL_pages 588 = .ok (.istore 15, 2) := by decide +kernel
theorem dL_pages_590 : decode cL_pages 590 = .ok (.iload 15, 2) := by decide +kernel
theorem dL_pages_592 : decode cL_pages 592 = .ok (.ifCond .eq 34, 3) := by decide +kernel
theorem dL_pages_595 : decode cL_pages 595 = .ok (.aload_n 0, 1) := by decide +kernel
theorem dL_pages_596 : decode cL_pages 596 = .ok (.invokevirtual 27, 3) := by decide +kernel
theorem dL_pages_599 : decode cL_pages 599 = .ok (.iload 12, 2) := by decide +kernel
theorem dL_pages_601 : decode cL_pages 601 = .ok (.ifCond .ne 7, 3) := by decide +kernel
theorem dL_pages_604 : decode cL_pages 604 = .ok (.dconst 1, 1) := by decide +kernel
theorem dL_pages_605 : decode cL_pages 605 = .ok (.goto 13, 3) := by decide +kernel
theorem dL_pages_608 : decode cL_pages 608 = .ok (.iload 12, 2) := by decide +kernel
theorem dL_pages_610 : decode cL_pages 610 = .ok (.iload 11, 2) := by decide +kernel
theorem dL_pages_612 : decode cL_pages 612 = .ok (.isub, 1) := by decide +kernel
theorem dL_pages_613 : decode cL_pages 613 = .ok (.i2d, 1) := by decide +kernel
theorem dL_pages_614 : decode cL_pages 614 = .ok (.iload 12, 2) := by decide +kernel
theorem dL_pages_616 : decode cL_pages 616 = .ok (.i2d, 1) := by decide +kernel
theorem dL_pages_617 : decode cL_pages 617 = .ok (.ddiv, 1) := by decide +kernel
theorem dL_pages_618 : decode cL_pages 618 = .ok (.dcmp .l, 1) := by decide +kernel
theorem dL_pages_619 : decode cL_pages 619 = .ok (.ifCond .ne 7, 3) := by decide +kernel
theorem dL_pages_622 : decode cL_pages 622 = .ok (.iconst 1, 1) := by decide +kernel
theorem dL_pages_623 : decode cL_pages 623 = .ok (.goto 4, 3) := by decide +kernel
theorem dL_pages_626 : decode cL_pages 626 = .ok (.iconst 0, 1) := by decide +kernel
theorem dL_pages_627 : decode cL_pages 627 = .ok (.ireturn, 1) := by decide +kernel
set_option maxRecDepth 20000 in
theorem ggL_units_L_takes : GoodIn wsL_units wsL_takes := goodIn_r _ [4] (by decide +kernel) (by decide +kernel)
set_option maxRecDepth 20000 in
theorem gL_units_L_takes : GoodIn wsL_units (va_wsS RL 31 yL_takes wsL_takes) := goodIn_app (goodIn_of _ (by decide +kernel)) ggL_units_L_takes
set_option maxRecDepth 20000 in
theorem ggL_units_X4_at : GoodIn wsL_units wsX4_at := goodIn_ca (goodIn_r _ [9, 10, 11, 12, 13, 8, 14, 15, 16, 17, 18, 19, 20, 21, 22, 23, 24, 25, 26, 27, 28, 29, 30, 31, 32, 33, 34, 35, 36, 37, 38, 39, 40, 41, 42, 43, 44, 45, 46, 47, 48, 49] (by decide +kernel) (by decide +kernel)) (goodIn_sub (fun _ h => List.mem_cons_of_mem _ (List.mem_append_right _ h)) (by decide +kernel))
set_option maxRecDepth 20000 in
theorem gL_units_X4_at : GoodIn wsL_units (wsV RL 35 RX4 yX4_at wsX4_at) := goodIn_app (goodIn_of _ (by decide +kernel)) ggL_units_X4_at
theorem dL_units_0 : decode cL_units 0 = .ok (.iconst 0, 1) := by decide +kernel
theorem dL_units_1 : decode cL_units 1 = .ok (.istore 8, 2) := by decide +kernel
theorem dL_units_3 : decode cL_units 3 = .ok (.iload 8, 2) := by decide +kernel
theorem dL_units_5 : decode cL_units 5 = .ok (.bipush 24, 2) := by decide +kernel
theorem dL_units_7 : decode cL_units 7 = .ok (.if_icmp .ge 81, 3) := by decide +kernel
theorem dL_units_10 : decode cL_units 10 = .ok (.iconst (-1), 1) := by decide +kernel
theorem dL_units_11 : decode cL_units 11 = .ok (.istore 9, 2) := by decide +kernel
theorem dL_units_13 : decode cL_units 13 = .ok (.iconst 0, 1) := by decide +kernel
theorem dL_units_14 : decode cL_units 14 = .ok (.istore 10, 2) := by decide +kernel
theorem dL_units_16 : decode cL_units 16 = .ok (.iload 10, 2) := by decide +kernel
theorem dL_units_18 : decode cL_units 18 = .ok (.aload 6, 2) := by decide +kernel
theorem dL_units_20 : decode cL_units 20 = .ok (.iconst 1, 1) := by decide +kernel
theorem dL_units_21 : decode cL_units 21 = .ok (.iaload, 1) := by decide +kernel
theorem dL_units_22 : decode cL_units 22 = .ok (.if_icmp .ge 37, 3) := by decide +kernel
theorem dL_units_25 : decode cL_units 25 = .ok (.aload_n 1, 1) := by decide +kernel
theorem dL_units_26 : decode cL_units 26 = .ok (.aload_n 2, 1) := by decide +kernel
theorem dL_units_27 : decode cL_units 27 = .ok (.aload_n 3, 1) := by decide +kernel
theorem dL_units_28 : decode cL_units 28 = .ok (.aload 4, 2) := by decide +kernel
theorem dL_units_30 : decode cL_units 30 = .ok (.aload 5, 2) := by decide +kernel
theorem dL_units_32 : decode cL_units 32 = .ok (.iload 10, 2) := by decide +kernel
theorem dL_units_34 : decode cL_units 34 = .ok (.iload 7, 2) := by decide +kernel
theorem dL_units_36 : decode cL_units 36 = .ok (.iload 8, 2) := by decide +kernel
theorem dL_units_38 : decode cL_units 38 = .ok (.invokestatic 31, 3) := by decide +kernel
theorem dL_units_41 : decode cL_units 41 = .ok (.ifCond .eq 8, 3) := by decide +kernel
theorem dL_units_44 : decode cL_units 44 = .ok (.iload 10, 2) := by decide +kernel
theorem dL_units_46 : decode cL_units 46 = .ok (.goto 5, 3) := by decide +kernel
theorem dL_units_49 : decode cL_units 49 = .ok (.iload 9, 2) := by decide +kernel
theorem dL_units_51 : decode cL_units 51 = .ok (.istore 9, 2) := by decide +kernel
theorem dL_units_53 : decode cL_units 53 = .ok (.iinc 10 1, 3) := by decide +kernel
theorem dL_units_56 : decode cL_units 56 = .ok (.goto (-40), 3) := by decide +kernel
theorem dL_units_59 : decode cL_units 59 = .ok (.aload_n 0, 1) := by decide +kernel
theorem dL_units_60 : decode cL_units 60 = .ok (.iload 7, 2) := by decide +kernel
theorem dL_units_62 : decode cL_units 62 = .ok (.iload 8, 2) := by decide +kernel
theorem dL_units_64 : decode cL_units 64 = .ok (.bipush 6, 2) := by decide +kernel
theorem dL_units_66 : decode cL_units 66 = .ok (.idiv, 1) := by decide +kernel
theorem dL_units_67 : decode cL_units 67 = .ok (.iload 8, 2) := by decide +kernel
theorem dL_units_69 : decode cL_units 69 = .ok (.bipush 6, 2) := by decide +kernel
theorem dL_units_71 : decode cL_units 71 = .ok (.irem, 1) := by decide +kernel
theorem dL_units_72 : decode cL_units 72 = .ok (.invokevirtual 35, 3) := by decide +kernel
theorem dL_units_75 : decode cL_units 75 = .ok (.iload 9, 2) := by decide +kernel
theorem dL_units_77 : decode cL_units 77 = .ok (.if_icmp .eq 5, 3) := by decide +kernel
theorem dL_units_80 : decode cL_units 80 = .ok (.iconst 0, 1) := by decide +kernel
theorem dL_units_81 : decode cL_units 81 = .ok (.ireturn, 1) := by decide +kernel
theorem dL_units_82 : decode cL_units 82 = .ok (.iinc 8 1, 3) := by decide +kernel
theorem dL_units_85 : decode cL_units 85 = .ok (.goto (-82), 3) := by decide +kernel
theorem dL_units_88 : decode cL_units 88 = .ok (.iconst 1, 1) := by decide +kernel
theorem dL_units_89 : decode cL_units 89 = .ok (.ireturn, 1) := by decide +kernel
set_option maxRecDepth 20000 in
theorem ggL_wouldBe_L_pour : GoodIn wsL_wouldBe wsL_pour := goodIn_r _ [6] (by decide +kernel) (by decide +kernel)
set_option maxRecDepth 20000 in
theorem gL_wouldBe_L_pour : GoodIn wsL_wouldBe (va_wsS RL 39 yL_pour wsL_pour) := goodIn_app (goodIn_of _ (by decide +kernel)) ggL_wouldBe_L_pour
set_option maxRecDepth 20000 in
theorem ggL_wouldBe_L_whole : GoodIn wsL_wouldBe wsL_whole := goodIn_r _ [9, 2] (by decide +kernel) (by decide +kernel)
set_option maxRecDepth 20000 in
theorem gL_wouldBe_L_whole : GoodIn wsL_wouldBe (va_wsS RL 11 yL_whole wsL_whole) := goodIn_app (goodIn_of _ (by decide +kernel)) ggL_wouldBe_L_whole
set_option maxRecDepth 20000 in
theorem ggL_wouldBe_X4_bestWidth : GoodIn wsL_wouldBe wsX4_bestWidth := goodIn_ca (goodIn_r _ [14, 15, 16, 17, 18, 19, 20, 21, 22, 23, 24, 25, 13, 26, 27, 28, 29, 30, 31, 32, 33, 34, 35, 36, 37, 38, 39, 40, 41, 42, 43, 44, 45, 46, 47, 48, 49, 50, 51, 52, 53, 54, 55, 56, 57, 58, 59, 60, 61, 62, 63, 64, 65, 66, 67, 68, 69, 70, 71, 72, 73, 74, 75, 76, 77, 78, 79, 80, 81, 82, 83, 84, 85, 86, 87, 88, 89, 90, 91, 92, 93, 94, 95, 96, 97, 98, 99, 100, 101, 102, 103, 104, 105, 106, 107, 108, 109, 110, 111, 112, 113, 145, 146, 147, 148, 149, 150, 151, 152, 153, 154, 155, 156, 157, 158, 159, 160, 161, 162, 163, 164, 165, 166, 167, 168, 169, 170] (by decide +kernel) (by decide +kernel)) (goodIn_sub (fun _ h => List.mem_cons_of_mem _ (List.mem_append_left _ (List.mem_append_right _ h))) (by decide +kernel))
set_option maxRecDepth 20000 in
theorem gL_wouldBe_X4_bestWidth : GoodIn wsL_wouldBe (wsV RL 43 RX4 yX4_bestWidth wsX4_bestWidth) := goodIn_app (goodIn_of _ (by decide +kernel)) ggL_wouldBe_X4_bestWidth
set_option maxRecDepth 20000 in
theorem ggL_wouldBe_L_exchange : GoodIn wsL_wouldBe wsL_exchange := goodIn_r _ [116] (by decide +kernel) (by decide +kernel)
set_option maxRecDepth 20000 in
theorem gL_wouldBe_L_exchange : GoodIn wsL_wouldBe (va_wsS RL 46 yL_exchange wsL_exchange) := goodIn_app (goodIn_of _ (by decide +kernel)) ggL_wouldBe_L_exchange
set_option maxRecDepth 20000 in
theorem ggL_wouldBe_X4_ifExchanged : GoodIn wsL_wouldBe wsX4_ifExchanged := goodIn_ca (goodIn_ca (goodIn_r _ [120, 15, 16, 121, 122, 17, 18, 19, 20, 21, 22, 123, 124, 13, 125, 126, 127, 128, 129, 27, 28, 29, 30, 31, 32, 33, 34, 35, 36, 37, 38, 39, 130, 131, 132, 133, 134, 135, 71, 72, 41, 42, 43, 44, 45, 46, 47, 48, 49, 50, 51, 52, 53, 54, 55, 56, 57, 58, 59, 60, 61, 62, 63, 64, 65, 66, 67, 68, 69, 70, 73, 74, 75, 76, 77, 78, 79, 80, 81, 82, 83, 84, 85, 86, 87, 88, 89, 90, 91, 92, 93, 94, 95, 96, 97, 98, 99, 100, 101, 102, 103, 104, 105, 106, 111, 112, 113, 145, 146, 147, 148, 149, 150, 151, 152, 153, 154, 155, 156, 157, 158, 159, 160, 161, 162, 163, 164, 165, 166, 167, 168, 169, 170] (by decide +kernel) (by decide +kernel)) (goodIn_sub (fun _ h => List.mem_cons_of_mem _ (List.mem_append_left _ (List.mem_append_right _ h))) (by decide +kernel))) (goodIn_sub (fun _ h => List.mem_cons_of_mem _ (List.mem_append_right _ h)) (by decide +kernel))
set_option maxRecDepth 20000 in
theorem gL_wouldBe_X4_ifExchanged : GoodIn wsL_wouldBe (wsV RL 50 RX4 yX4_ifExchanged wsX4_ifExchanged) := goodIn_app (goodIn_of _ (by decide +kernel)) ggL_wouldBe_X4_ifExchanged
set_option maxRecDepth 20000 in
theorem ggL_wouldBe_X4_leastSetting : GoodIn wsL_wouldBe wsX4_leastSetting := goodIn_r _ [139, 140, 141, 142, 13, 143, 27, 17, 28, 144, 29, 19, 30, 31, 32, 33, 34, 35, 36, 37, 38, 22, 39, 43, 44, 45, 46, 47, 48, 49, 50, 51, 52, 53, 54, 55, 56, 57, 58, 59, 60, 61, 62, 63, 64, 65, 66, 67, 68, 69, 70, 71, 72, 73, 74, 75, 76, 77, 78, 79, 80, 81, 82, 83, 84, 85, 86, 87, 88, 89, 90, 91, 92, 93, 94, 95, 96, 97, 98, 99, 100, 101, 102, 103, 104, 105, 106, 41, 42, 145, 146, 147, 148, 149, 150, 151, 152, 153, 154, 155, 156, 157, 158, 159, 160, 161, 162, 163, 164, 165, 166, 167, 168, 169, 170] (by decide +kernel) (by decide +kernel)
set_option maxRecDepth 20000 in
theorem gL_wouldBe_X4_leastSetting : GoodIn wsL_wouldBe (wsV RL 53 RX4 yX4_leastSetting wsX4_leastSetting) := goodIn_app (goodIn_of _ (by decide +kernel)) ggL_wouldBe_X4_leastSetting
theorem dL_wouldBe_0 : decode cL_wouldBe 0 = .ok (.bipush 24, 2) := by decide +kernel
theorem dL_wouldBe_2 : decode cL_wouldBe 2 = .ok (.newarray .int, 2) := by decide +kernel
theorem dL_wouldBe_4 : decode cL_wouldBe 4 = .ok (.astore 6, 2) := by decide +kernel
theorem dL_wouldBe_6 : decode cL_wouldBe 6 = .ok (.bipush 24, 2) := by decide +kernel
theorem dL_wouldBe_8 : decode cL_wouldBe 8 = .ok (.newarray .int, 2) := by decide +kernel
theorem dL_wouldBe_10 : decode cL_wouldBe 10 = .ok (.astore 7, 2) := by decide +kernel
theorem dL_wouldBe_12 : decode cL_wouldBe 12 = .ok (.bipush 24, 2) := by decide +kernel
theorem dL_wouldBe_14 : decode cL_wouldBe 14 = .ok (.newarray .int, 2) := by decide +kernel
theorem dL_wouldBe_16 : decode cL_wouldBe 16 = .ok (.astore 8, 2) := by decide +kernel
theorem dL_wouldBe_18 : decode cL_wouldBe 18 = .ok (.aload_n 1, 1) := by decide +kernel
theorem dL_wouldBe_19 : decode cL_wouldBe 19 = .ok (.aload_n 2, 1) := by decide +kernel
theorem dL_wouldBe_20 : decode cL_wouldBe 20 = .ok (.aload_n 3, 1) := by decide +kernel
theorem dL_wouldBe_21 : decode cL_wouldBe 21 = .ok (.aload 6, 2) := by decide +kernel
theorem dL_wouldBe_23 : decode cL_wouldBe 23 = .ok (.aload 7, 2) := by decide +kernel
theorem dL_wouldBe_25 : decode cL_wouldBe 25 = .ok (.aload 8, 2) := by decide +kernel
theorem dL_wouldBe_27 : decode cL_wouldBe 27 = .ok (.aload 4, 2) := by decide +kernel
theorem dL_wouldBe_29 : decode cL_wouldBe 29 = .ok (.invokestatic 39, 3) := by decide +kernel
theorem dL_wouldBe_32 : decode cL_wouldBe 32 = .ok (.aload_n 1, 1) := by decide +kernel
theorem dL_wouldBe_33 : decode cL_wouldBe 33 = .ok (.aload_n 2, 1) := by decide +kernel
theorem dL_wouldBe_34 : decode cL_wouldBe 34 = .ok (.aload 6, 2) := by decide +kernel
theorem dL_wouldBe_36 : decode cL_wouldBe 36 = .ok (.aload 4, 2) := by decide +kernel
theorem dL_wouldBe_38 : decode cL_wouldBe 38 = .ok (.invokestatic 11, 3) := by decide +kernel
theorem dL_wouldBe_41 : decode cL_wouldBe 41 = .ok (.istore 9, 2) := by decide +kernel
theorem dL_wouldBe_43 : decode cL_wouldBe 43 = .ok (.aload_n 2, 1) := by decide +kernel
theorem dL_wouldBe_44 : decode cL_wouldBe 44 = .ok (.iload 5, 2) := by decide +kernel
theorem dL_wouldBe_46 : decode cL_wouldBe 46 = .ok (.iaload, 1) := by decide +kernel
theorem dL_wouldBe_47 : decode cL_wouldBe 47 = .ok (.istore 10, 2) := by decide +kernel
theorem dL_wouldBe_49 : decode cL_wouldBe 49 = .ok (.iconst 0, 1) := by decide +kernel
theorem dL_wouldBe_50 : decode cL_wouldBe 50 = .ok (.istore 11, 2) := by decide +kernel
theorem dL_wouldBe_52 : decode cL_wouldBe 52 = .ok (.iconst 0, 1) := by decide +kernel
theorem dL_wouldBe_53 : decode cL_wouldBe 53 = .ok (.istore 12, 2) := by decide +kernel
theorem dL_wouldBe_55 : decode cL_wouldBe 55 = .ok (.iconst 1, 1) := by decide +kernel
theorem dL_wouldBe_56 : decode cL_wouldBe 56 = .ok (.istore 13, 2) := by decide +kernel
theorem dL_wouldBe_58 : decode cL_wouldBe 58 = .ok (.iload 13, 2) := by decide +kernel
theorem dL_wouldBe_60 : decode cL_wouldBe 60 = .ok (.bipush 7, 2) := by decide +kernel
theorem dL_wouldBe_62 : decode cL_wouldBe 62 = .ok (.if_icmp .ge 84, 3) := by decide +kernel
theorem dL_wouldBe_65 : decode cL_wouldBe 65 = .ok (.aload_n 2, 1) := by decide +kernel
theorem dL_wouldBe_66 : decode cL_wouldBe 66 = .ok (.iload 5, 2) := by decide +kernel
theorem dL_wouldBe_68 : decode cL_wouldBe 68 = .ok (.iload 13, 2) := by decide +kernel
theorem dL_wouldBe_70 : decode cL_wouldBe 70 = .ok (.iastore, 1) := by decide +kernel
theorem dL_wouldBe_71 : decode cL_wouldBe 71 = .ok (.aload_n 1, 1) := by decide +kernel
theorem dL_wouldBe_72 : decode cL_wouldBe 72 = .ok (.aload_n 2, 1) := by decide +kernel
theorem dL_wouldBe_73 : decode cL_wouldBe 73 = .ok (.aload_n 3, 1) := by decide +kernel
theorem dL_wouldBe_74 : decode cL_wouldBe 74 = .ok (.aload 6, 2) := by decide +kernel
theorem dL_wouldBe_76 : decode cL_wouldBe 76 = .ok (.aload 7, 2) := by decide +kernel
theorem dL_wouldBe_78 : decode cL_wouldBe 78 = .ok (.aload 8, 2) := by decide +kernel
theorem dL_wouldBe_80 : decode cL_wouldBe 80 = .ok (.aload 4, 2) := by decide +kernel
theorem dL_wouldBe_82 : decode cL_wouldBe 82 = .ok (.invokestatic 39, 3) := by decide +kernel
theorem dL_wouldBe_85 : decode cL_wouldBe 85 = .ok (.aload_n 1, 1) := by decide +kernel
theorem dL_wouldBe_86 : decode cL_wouldBe 86 = .ok (.aload_n 2, 1) := by decide +kernel
theorem dL_wouldBe_87 : decode cL_wouldBe 87 = .ok (.aload 6, 2) := by decide +kernel
theorem dL_wouldBe_89 : decode cL_wouldBe 89 = .ok (.aload 4, 2) := by decide +kernel
theorem dL_wouldBe_91 : decode cL_wouldBe 91 = .ok (.invokestatic 11, 3) := by decide +kernel
theorem dL_wouldBe_94 : decode cL_wouldBe 94 = .ok (.istore 14, 2) := by decide +kernel
theorem dL_wouldBe_96 : decode cL_wouldBe 96 = .ok (.iload 13, 2) := by decide +kernel
theorem dL_wouldBe_98 : decode cL_wouldBe 98 = .ok (.iconst 1, 1) := by decide +kernel
theorem dL_wouldBe_99 : decode cL_wouldBe 99 = .ok (.if_icmp .eq 10, 3) := by decide +kernel
theorem dL_wouldBe_102 : decode cL_wouldBe 102 = .ok (.iload 14, 2) := by decide +kernel
theorem dL_wouldBe_104 : decode cL_wouldBe 104 = .ok (.iload 12, 2) := by decide +kernel
theorem dL_wouldBe_106 : decode cL_wouldBe 106 = .ok (.if_icmp .ge 8, 3) := by decide +kernel
theorem dL_wouldBe_109 : decode cL_wouldBe 109 = .ok (.iload 13, 2) := by decide +kernel
theorem dL_wouldBe_111 : decode cL_wouldBe 111 = .ok (.goto 5, 3) := by decide +kernel
theorem dL_wouldBe_114 : decode cL_wouldBe 114 = .ok (.iload 11, 2) := by decide +kernel
theorem dL_wouldBe_116 : decode cL_wouldBe 116 = .ok (.istore 11, 2) := by decide +kernel
theorem dL_wouldBe_118 : decode cL_wouldBe 118 = .ok (.iload 13, 2) := by decide +kernel
theorem dL_wouldBe_120 : decode cL_wouldBe 120 = .ok (.iconst 1, 1) := by decide +kernel
theorem dL_wouldBe_121 : decode cL_wouldBe 121 = .ok (.if_icmp .eq 10, 3) := by decide +kernel
theorem dL_wouldBe_124 : decode cL_wouldBe 124 = .ok (.iload 14, 2) := by decide +kernel
theorem dL_wouldBe_126 : decode cL_wouldBe 126 = .ok (.iload 12, 2) := by decide +kernel
theorem dL_wouldBe_128 : decode cL_wouldBe 128 = .ok (.if_icmp .ge 8, 3) := by decide +kernel
theorem dL_wouldBe_131 : decode cL_wouldBe 131 = .ok (.iload 14, 2) := by decide +kernel
theorem dL_wouldBe_133 : decode cL_wouldBe 133 = .ok (.goto 5, 3) := by decide +kernel
theorem dL_wouldBe_136 : decode cL_wouldBe 136 = .ok (.iload 12, 2) := by decide +kernel
theorem dL_wouldBe_138 : decode cL_wouldBe 138 = .ok (.istore 12, 2) := by decide +kernel
theorem dL_wouldBe_140 : decode cL_wouldBe 140 = .ok (.iinc 13 1, 3) := by decide +kernel
theorem dL_wouldBe_143 : decode cL_wouldBe 143 = .ok (.goto (-85), 3) := by decide +kernel
theorem dL_wouldBe_146 : decode cL_wouldBe 146 = .ok (.aload_n 2, 1) := by decide +kernel
theorem dL_wouldBe_147 : decode cL_wouldBe 147 = .ok (.iload 5, 2) := by decide +kernel
theorem dL_wouldBe_149 : decode cL_wouldBe 149 = .ok (.iload 10, 2) := by decide +kernel
theorem dL_wouldBe_151 : decode cL_wouldBe 151 = .ok (.iastore, 1) := by decide +kernel
theorem dL_wouldBe_152 : decode cL_wouldBe 152 = .ok (.aload_n 0, 1) := by decide +kernel
theorem dL_wouldBe_153 : decode cL_wouldBe 153 = .ok (.iload 5, 2) := by decide +kernel
theorem dL_wouldBe_155 : decode cL_wouldBe 155 = .ok (.invokevirtual 43, 3) := by decide +kernel
theorem dL_wouldBe_158 : decode cL_wouldBe 158 = .ok (.iload 11, 2) := by decide +kernel
theorem dL_wouldBe_160 : decode cL_wouldBe 160 = .ok (.if_icmp .eq 5, 3) := by decide +kernel
theorem dL_wouldBe_163 : decode cL_wouldBe 163 = .ok (.iconst 0, 1) := by decide +kernel
theorem dL_wouldBe_164 : decode cL_wouldBe 164 = .ok (.ireturn, 1) := by decide +kernel
theorem dL_wouldBe_165 : decode cL_wouldBe 165 = .ok (.iload 5, 2) := by decide +kernel
theorem dL_wouldBe_167 : decode cL_wouldBe 167 = .ok (.iconst 1, 1) := by decide +kernel
theorem dL_wouldBe_168 : decode cL_wouldBe 168 = .ok (.iadd, 1) := by decide +kernel
theorem dL_wouldBe_169 : decode cL_wouldBe 169 = .ok (.aload 4, 2) := by decide +kernel
theorem dL_wouldBe_171 : decode cL_wouldBe 171 = .ok (.iconst 1, 1) := by decide +kernel
theorem dL_wouldBe_172 : decode cL_wouldBe 172 = .ok (.iaload, 1) := by decide +kernel
theorem dL_wouldBe_173 : decode cL_wouldBe 173 = .ok (.if_icmp .ge 101, 3) := by decide +kernel
theorem dL_wouldBe_176 : decode cL_wouldBe 176 = .ok (.aload_n 1, 1) := by decide +kernel
theorem dL_wouldBe_177 : decode cL_wouldBe 177 = .ok (.iload 5, 2) := by decide +kernel
theorem dL_wouldBe_179 : decode cL_wouldBe 179 = .ok (.invokestatic 46, 3) := by decide +kernel
theorem dL_wouldBe_182 : decode cL_wouldBe 182 = .ok (.aload_n 2, 1) := by decide +kernel
theorem dL_wouldBe_183 : decode cL_wouldBe 183 = .ok (.iload 5, 2) := by decide +kernel
theorem dL_wouldBe_185 : decode cL_wouldBe 185 = .ok (.invokestatic 46, 3) := by decide +kernel
theorem dL_wouldBe_188 : decode cL_wouldBe 188 = .ok (.aload_n 3, 1) := by decide +kernel
theorem dL_wouldBe_189 : decode cL_wouldBe 189 = .ok (.iload 5, 2) := by decide +kernel
theorem dL_wouldBe_191 : decode cL_wouldBe 191 = .ok (.invokestatic 46, 3) := by decide +kernel
theorem dL_wouldBe_194 : decode cL_wouldBe 194 = .ok (.aload_n 1, 1) := by decide +kernel
theorem dL_wouldBe_195 : decode cL_wouldBe 195 = .ok (.aload_n 2, 1) := by decide +kernel
theorem dL_wouldBe_196 : decode cL_wouldBe 196 = .ok (.aload_n 3, 1) := by decide +kernel
theorem dL_wouldBe_197 : decode cL_wouldBe 197 = .ok (.aload 6, 2) := by decide +kernel
theorem dL_wouldBe_199 : decode cL_wouldBe 199 = .ok (.aload 7, 2) := by decide +kernel
theorem dL_wouldBe_201 : decode cL_wouldBe 201 = .ok (.aload 8, 2) := by decide +kernel
theorem dL_wouldBe_203 : decode cL_wouldBe 203 = .ok (.aload 4, 2) := by decide +kernel
theorem dL_wouldBe_205 : decode cL_wouldBe 205 = .ok (.invokestatic 39, 3) := by decide +kernel
theorem dL_wouldBe_208 : decode cL_wouldBe 208 = .ok (.aload_n 1, 1) := by decide +kernel
theorem dL_wouldBe_209 : decode cL_wouldBe 209 = .ok (.aload_n 2, 1) := by decide +kernel
theorem dL_wouldBe_210 : decode cL_wouldBe 210 = .ok (.aload 6, 2) := by decide +kernel
theorem dL_wouldBe_212 : decode cL_wouldBe 212 = .ok (.aload 4, 2) := by decide +kernel
theorem dL_wouldBe_214 : decode cL_wouldBe 214 = .ok (.invokestatic 11, 3) := by decide +kernel
theorem dL_wouldBe_217 : decode cL_wouldBe 217 = .ok (.istore 13, 2) := by decide +kernel
theorem dL_wouldBe_219 : decode cL_wouldBe 219 = .ok (.aload_n 1, 1) := by decide +kernel
theorem dL_wouldBe_220 : decode cL_wouldBe 220 = .ok (.iload 5, 2) := by decide +kernel
theorem dL_wouldBe_222 : decode cL_wouldBe 222 = .ok (.invokestatic 46, 3) := by decide +kernel
theorem dL_wouldBe_225 : decode cL_wouldBe 225 = .ok (.aload_n 2, 1) := by decide +kernel
theorem dL_wouldBe_226 : decode cL_wouldBe 226 = .ok (.iload 5, 2) := by decide +kernel
theorem dL_wouldBe_228 : decode cL_wouldBe 228 = .ok (.invokestatic 46, 3) := by decide +kernel
theorem dL_wouldBe_231 : decode cL_wouldBe 231 = .ok (.aload_n 3, 1) := by decide +kernel
theorem dL_wouldBe_232 : decode cL_wouldBe 232 = .ok (.iload 5, 2) := by decide +kernel
theorem dL_wouldBe_234 : decode cL_wouldBe 234 = .ok (.invokestatic 46, 3) := by decide +kernel
theorem dL_wouldBe_237 : decode cL_wouldBe 237 = .ok (.aload_n 0, 1) := by decide +kernel
theorem dL_wouldBe_238 : decode cL_wouldBe 238 = .ok (.iload 5, 2) := by decide +kernel
theorem dL_wouldBe_240 : decode cL_wouldBe 240 = .ok (.iconst 0, 1) := by decide +kernel
theorem dL_wouldBe_241 : decode cL_wouldBe 241 = .ok (.invokevirtual 50, 3) := by decide +kernel
theorem dL_wouldBe_244 : decode cL_wouldBe 244 = .ok (.iload 13, 2) := by decide +kernel
theorem dL_wouldBe_246 : decode cL_wouldBe 246 = .ok (.sipush 1000, 3) := by decide +kernel
theorem dL_wouldBe_249 : decode cL_wouldBe 249 = .ok (.idiv, 1) := by decide +kernel
theorem dL_wouldBe_250 : decode cL_wouldBe 250 = .ok (.bipush 100, 2) := by decide +kernel
theorem dL_wouldBe_252 : decode cL_wouldBe 252 = .ok (.irem, 1) := by decide +kernel
theorem dL_wouldBe_253 : decode cL_wouldBe 253 = .ok (.if_icmp .ne 19, 3) := by decide +kernel
theorem dL_wouldBe_256 : decode cL_wouldBe 256 = .ok (.aload_n 0, 1) := by decide +kernel
theorem dL_wouldBe_257 : decode cL_wouldBe 257 = .ok (.iload 5, 2) := by decide +kernel
theorem dL_wouldBe_259 : decode cL_wouldBe 259 = .ok (.iconst 1, 1) := by decide +kernel
theorem dL_wouldBe_260 : decode cL_wouldBe 260 = .ok (.invokevirtual 50, 3) := by decide +kernel
theorem dL_wouldBe_263 : decode cL_wouldBe 263 = .ok (.iload 13, 2) := by decide +kernel
theorem dL_wouldBe_265 : decode cL_wouldBe 265 = .ok (.sipush 1000, 3) := by decide +kernel
theorem dL_wouldBe_268 : decode cL_wouldBe 268 = .ok (.irem, 1) := by decide +kernel
theorem dL_wouldBe_269 : decode cL_wouldBe 269 = .ok (.if_icmp .eq 5, 3) := by decide +kernel
theorem dL_wouldBe_272 : decode cL_wouldBe 272 = .ok (.iconst 0, 1) := by decide +kernel
theorem dL_wouldBe_273 : decode cL_wouldBe 273 = .ok (.ireturn, 1) := by decide +kernel
theorem dL_wouldBe_274 : decode cL_wouldBe 274 = .ok (.aload 4, 2) := by decide +kernel
theorem dL_wouldBe_276 : decode cL_wouldBe 276 = .ok (.iconst 0, 1) := by decide +kernel
theorem dL_wouldBe_277 : decode cL_wouldBe 277 = .ok (.iaload, 1) := by decide +kernel
theorem dL_wouldBe_278 : decode cL_wouldBe 278 = .ok (.istore 13, 2) := by decide +kernel
theorem dL_wouldBe_280 : decode cL_wouldBe 280 = .ok (.iconst 0, 1) := by decide +kernel
theorem dL_wouldBe_281 : decode cL_wouldBe 281 = .ok (.istore 14, 2) := by decide +kernel
theorem dL_wouldBe_283 : decode cL_wouldBe 283 = .ok (.bipush 9, 2) := by decide +kernel
theorem dL_wouldBe_285 : decode cL_wouldBe 285 = .ok (.istore 15, 2) := by decide +kernel
theorem dL_wouldBe_287 : decode cL_wouldBe 287 = .ok (.iload 15, 2) := by decide +kernel
theorem dL_wouldBe_289 : decode cL_wouldBe 289 = .ok (.iload 13, 2) := by decide +kernel
theorem dL_wouldBe_291 : decode cL_wouldBe 291 = .ok (.if_icmp .gt 87, 3) := by decide +kernel
theorem dL_wouldBe_294 : decode cL_wouldBe 294 = .ok (.iload 14, 2) := by decide +kernel
theorem dL_wouldBe_296 : decode cL_wouldBe 296 = .ok (.ifCond .ne 82, 3) := by decide +kernel
theorem dL_wouldBe_299 : decode cL_wouldBe 299 = .ok (.aload 4, 2) := by decide +kernel
theorem dL_wouldBe_301 : decode cL_wouldBe 301 = .ok (.iconst 0, 1) := by decide +kernel
theorem dL_wouldBe_302 : decode cL_wouldBe 302 = .ok (.iload 15, 2) := by decide +kernel
theorem dL_wouldBe_304 : decode cL_wouldBe 304 = .ok (.iastore, 1) := by decide +kernel
theorem dL_wouldBe_305 : decode cL_wouldBe 305 = .ok (.aload_n 1, 1) := by decide +kernel
theorem dL_wouldBe_306 : decode cL_wouldBe 306 = .ok (.aload_n 2, 1) := by decide +kernel
theorem dL_wouldBe_307 : decode cL_wouldBe 307 = .ok (.aload_n 3, 1) := by decide +kernel
theorem dL_wouldBe_308 : decode cL_wouldBe 308 = .ok (.aload 6, 2) := by decide +kernel
theorem dL_wouldBe_310 : decode cL_wouldBe 310 = .ok (.aload 7, 2) := by decide +kernel
theorem dL_wouldBe_312 : decode cL_wouldBe 312 = .ok (.aload 8, 2) := by decide +kernel
theorem dL_wouldBe_314 : decode cL_wouldBe 314 = .ok (.aload 4, 2) := by decide +kernel
theorem dL_wouldBe_316 : decode cL_wouldBe 316 = .ok (.invokestatic 39, 3) := by decide +kernel
theorem dL_wouldBe_319 : decode cL_wouldBe 319 = .ok (.aload_n 1, 1) := by decide +kernel
theorem dL_wouldBe_320 : decode cL_wouldBe 320 = .ok (.aload_n 2, 1) := by decide +kernel
theorem dL_wouldBe_321 : decode cL_wouldBe 321 = .ok (.aload 6, 2) := by decide +kernel
theorem dL_wouldBe_323 : decode cL_wouldBe 323 = .ok (.aload 4, 2) := by decide +kernel
theorem dL_wouldBe_325 : decode cL_wouldBe 325 = .ok (.invokestatic 11, 3) := by decide +kernel
theorem dL_wouldBe_328 : decode cL_wouldBe 328 = .ok (.istore 16, 2) := by decide +kernel
theorem dL_wouldBe_330 : decode cL_wouldBe 330 = .ok (.iload 16, 2) := by decide +kernel
theorem dL_wouldBe_332 : decode cL_wouldBe 332 = .ok (.ldc 10, 2) := by decide +kernel
theorem dL_wouldBe_334 : decode cL_wouldBe 334 = .ok (.idiv, 1) := by decide +kernel
theorem dL_wouldBe_335 : decode cL_wouldBe 335 = .ok (.iload 9, 2) := by decide +kernel
theorem dL_wouldBe_337 : decode cL_wouldBe 337 = .ok (.ldc 10, 2) := by decide +kernel
theorem dL_wouldBe_339 : decode cL_wouldBe 339 = .ok (.idiv, 1) := by decide +kernel
theorem dL_wouldBe_340 : decode cL_wouldBe 340 = .ok (.if_icmp .gt 29, 3) := by decide +kernel
theorem dL_wouldBe_343 : decode cL_wouldBe 343 = .ok (.iload 16, 2) := by decide +kernel
theorem dL_wouldBe_345 : decode cL_wouldBe 345 = .ok (.sipush 1000, 3) := by decide +kernel
theorem dL_wouldBe_348 : decode cL_wouldBe 348 = .ok (.idiv, 1) := by decide +kernel
theorem dL_wouldBe_349 : decode cL_wouldBe 349 = .ok (.bipush 100, 2) := by decide +kernel
theorem dL_wouldBe_351 : decode cL_wouldBe 351 = .ok (.irem, 1) := by decide +kernel
theorem dL_wouldBe_352 : decode cL_wouldBe 352 = .ok (.iload 9, 2) := by decide +kernel
theorem dL_wouldBe_354 : decode cL_wouldBe 354 = .ok (.sipush 1000, 3) := by decide +kernel
theorem dL_wouldBe_357 : decode cL_wouldBe 357 = .ok (.idiv, 1) := by decide +kernel
theorem dL_wouldBe_358 : decode cL_wouldBe 358 = .ok (.bipush 100, 2) := by decide +kernel
theorem dL_wouldBe_360 : decode cL_wouldBe 360 = .ok (.irem, 1) := by decide +kernel
theorem dL_wouldBe_361 : decode cL_wouldBe 361 = .ok (.if_icmp .gt 8, 3) := by decide +kernel
theorem dL_wouldBe_364 : decode cL_wouldBe 364 = .ok (.iload 15, 2) := by decide +kernel
theorem dL_wouldBe_366 : decode cL_wouldBe 366 = .ok (.goto 4, 3) := by decide +kernel
theorem dL_wouldBe_369 : decode cL_wouldBe 369 = .ok (.iconst 0, 1) := by decide +kernel
theorem dL_wouldBe_370 : decode cL_wouldBe 370 = .ok (.istore 14, 2) := by decide +kernel
theorem dL_wouldBe_372 : decode cL_wouldBe 372 = .ok (.iinc 15 1, 3) := by decide +kernel
theorem dL_wouldBe_375 : decode cL_wouldBe 375 = .ok (.goto (-88), 3) := by decide +kernel
theorem dL_wouldBe_378 : decode cL_wouldBe 378 = .ok (.aload 4, 2) := by decide +kernel
theorem dL_wouldBe_380 : decode cL_wouldBe 380 = .ok (.iconst 0, 1) := by decide +kernel
theorem dL_wouldBe_381 : decode cL_wouldBe 381 = .ok (.iload 13, 2) := by decide +kernel
theorem dL_wouldBe_383 : decode cL_wouldBe 383 = .ok (.iastore, 1) := by decide +kernel
theorem dL_wouldBe_384 : decode cL_wouldBe 384 = .ok (.aload_n 0, 1) := by decide +kernel
theorem dL_wouldBe_385 : decode cL_wouldBe 385 = .ok (.invokevirtual 53, 3) := by decide +kernel
theorem dL_wouldBe_388 : decode cL_wouldBe 388 = .ok (.iload 14, 2) := by decide +kernel
theorem dL_wouldBe_390 : decode cL_wouldBe 390 = .ok (.if_icmp .ne 7, 3) := by decide +kernel
theorem dL_wouldBe_393 : decode cL_wouldBe 393 = .ok (.iconst 1, 1) := by decide +kernel
theorem dL_wouldBe_394 : decode cL_wouldBe 394 = .ok (.goto 4, 3) := by decide +kernel
theorem dL_wouldBe_397 : decode cL_wouldBe 397 = .ok (.iconst 0, 1) := by decide +kernel
theorem dL_wouldBe_398 : decode cL_wouldBe 398 = .ok (.ireturn, 1) := by decide +kernel
theorem dL_exchange_0 : decode cL_exchange 0 = .ok (.aload_n 0, 1) := by decide +kernel
theorem dL_exchange_1 : decode cL_exchange 1 = .ok (.iload_n 1, 1) := by decide +kernel
theorem dL_exchange_2 : decode cL_exchange 2 = .ok (.iaload, 1) := by decide +kernel
theorem dL_exchange_3 : decode cL_exchange 3 = .ok (.istore_n 2, 1) := by decide +kernel
theorem dL_exchange_4 : decode cL_exchange 4 = .ok (.aload_n 0, 1) := by decide +kernel
theorem dL_exchange_5 : decode cL_exchange 5 = .ok (.iload_n 1, 1) := by decide +kernel
theorem dL_exchange_6 : decode cL_exchange 6 = .ok (.aload_n 0, 1) := by decide +kernel
theorem dL_exchange_7 : decode cL_exchange 7 = .ok (.iload_n 1, 1) := by decide +kernel
theorem dL_exchange_8 : decode cL_exchange 8 = .ok (.iconst 1, 1) := by decide +kernel
theorem dL_exchange_9 : decode cL_exchange 9 = .ok (.iadd, 1) := by decide +kernel
theorem dL_exchange_10 : decode cL_exchange 10 = .ok (.iaload, 1) := by decide +kernel
theorem dL_exchange_11 : decode cL_exchange 11 = .ok (.iastore, 1) := by decide +kernel
theorem dL_exchange_12 : decode cL_exchange 12 = .ok (.aload_n 0, 1) := by decide +kernel
theorem dL_exchange_13 : decode cL_exchange 13 = .ok (.iload_n 1, 1) := by decide +kernel
theorem dL_exchange_14 : decode cL_exchange 14 = .ok (.iconst 1, 1) := by decide +kernel
theorem dL_exchange_15 : decode cL_exchange 15 = .ok (.iadd, 1) := by decide +kernel
theorem dL_exchange_16 : decode cL_exchange 16 = .ok (.iload_n 2, 1) := by decide +kernel
theorem dL_exchange_17 : decode cL_exchange 17 = .ok (.iastore, 1) := by decide +kernel
theorem dL_exchange_18 : decode cL_exchange 18 = .ok (.return_, 1) := by decide +kernel
theorem dL_put_0 : decode cL_put 0 = .ok (.aload_n 1, 1) := by decide +kernel
theorem dL_put_1 : decode cL_put 1 = .ok (.iconst 1, 1) := by decide +kernel
theorem dL_put_2 : decode cL_put 2 = .ok (.iaload, 1) := by decide +kernel
theorem dL_put_3 : decode cL_put 3 = .ok (.istore 4, 2) := by decide +kernel
theorem dL_put_5 : decode cL_put 5 = .ok (.iload 4, 2) := by decide +kernel
theorem dL_put_7 : decode cL_put 7 = .ok (.iload_n 2, 1) := by decide +kernel
theorem dL_put_8 : decode cL_put 8 = .ok (.if_icmp .le 19, 3) := by decide +kernel
theorem dL_put_11 : decode cL_put 11 = .ok (.aload_n 0, 1) := by decide +kernel
theorem dL_put_12 : decode cL_put 12 = .ok (.iload 4, 2) := by decide +kernel
theorem dL_put_14 : decode cL_put 14 = .ok (.aload_n 0, 1) := by decide +kernel
theorem dL_put_15 : decode cL_put 15 = .ok (.iload 4, 2) := by decide +kernel
theorem dL_put_17 : decode cL_put 17 = .ok (.iconst 1, 1) := by decide +kernel
theorem dL_put_18 : decode cL_put 18 = .ok (.isub, 1) := by decide +kernel
theorem dL_put_19 : decode cL_put 19 = .ok (.iaload, 1) := by decide +kernel
theorem dL_put_20 : decode cL_put 20 = .ok (.iastore, 1) := by decide +kernel
theorem dL_put_21 : decode cL_put 21 = .ok (.iinc 4 (-1), 3) := by decide +kernel
theorem dL_put_24 : decode cL_put 24 = .ok (.goto (-19), 3) := by decide +kernel
theorem dL_put_27 : decode cL_put 27 = .ok (.aload_n 0, 1) := by decide +kernel
theorem dL_put_28 : decode cL_put 28 = .ok (.iload_n 2, 1) := by decide +kernel
theorem dL_put_29 : decode cL_put 29 = .ok (.iload_n 3, 1) := by decide +kernel
theorem dL_put_30 : decode cL_put 30 = .ok (.iastore, 1) := by decide +kernel
theorem dL_put_31 : decode cL_put 31 = .ok (.return_, 1) := by decide +kernel
theorem dL_take_0 : decode cL_take 0 = .ok (.iload_n 2, 1) := by decide +kernel
theorem dL_take_1 : decode cL_take 1 = .ok (.istore_n 3, 1) := by decide +kernel
theorem dL_take_2 : decode cL_take 2 = .ok (.iload_n 3, 1) := by decide +kernel
theorem dL_take_3 : decode cL_take 3 = .ok (.aload_n 1, 1) := by decide +kernel
theorem dL_take_4 : decode cL_take 4 = .ok (.iconst 1, 1) := by decide +kernel
theorem dL_take_5 : decode cL_take 5 = .ok (.iaload, 1) := by decide +kernel
theorem dL_take_6 : decode cL_take 6 = .ok (.iconst 1, 1) := by decide +kernel
theorem dL_take_7 : decode cL_take 7 = .ok (.isub, 1) := by decide +kernel
theorem dL_take_8 : decode cL_take 8 = .ok (.if_icmp .ge 17, 3) := by decide +kernel
theorem dL_take_11 : decode cL_take 11 = .ok (.aload_n 0, 1) := by decide +kernel
theorem dL_take_12 : decode cL_take 12 = .ok (.iload_n 3, 1) := by decide +kernel
theorem dL_take_13 : decode cL_take 13 = .ok (.aload_n 0, 1) := by decide +kernel
theorem dL_take_14 : decode cL_take 14 = .ok (.iload_n 3, 1) := by decide +kernel
theorem dL_take_15 : decode cL_take 15 = .ok (.iconst 1, 1) := by decide +kernel
theorem dL_take_16 : decode cL_take 16 = .ok (.iadd, 1) := by decide +kernel
theorem dL_take_17 : decode cL_take 17 = .ok (.iaload, 1) := by decide +kernel
theorem dL_take_18 : decode cL_take 18 = .ok (.iastore, 1) := by decide +kernel
theorem dL_take_19 : decode cL_take 19 = .ok (.iinc 3 1, 3) := by decide +kernel
theorem dL_take_22 : decode cL_take 22 = .ok (.goto (-20), 3) := by decide +kernel
theorem dL_take_25 : decode cL_take 25 = .ok (.return_, 1) := by decide +kernel
set_option maxRecDepth 20000 in
theorem ggL_law_X4_init : GoodIn wsL_law wsX4_init := goodIn_r _ [6, 7, 8, 9, 10, 11, 12, 13, 14, 15, 16, 17, 18, 19, 20, 21, 22, 23, 24, 25, 26, 27, 28, 29, 30, 3, 31, 32, 33, 34, 35, 36, 37, 38, 39, 40, 41, 42, 43, 44, 45, 46, 47, 48, 49, 50, 51, 52, 53, 54, 55, 56, 57, 58, 59, 60, 61, 62, 63, 64, 312, 313, 314, 315, 316, 306, 307, 308, 309, 310, 311, 317, 318, 319, 320, 321, 322, 323, 324, 325, 326, 327, 328, 329, 330, 331, 332, 333, 334, 335] (by decide +kernel) (by decide +kernel)
set_option maxRecDepth 20000 in
theorem gL_law_X4_init : GoodIn wsL_law (wsX4_init) := ggL_law_X4_init
set_option maxRecDepth 20000 in
theorem ggL_law_L_cell : GoodIn wsL_law wsL_cell := goodIn_r _ [68, 69, 70] (by decide +kernel) (by decide +kernel)
set_option maxRecDepth 20000 in
theorem gL_law_L_cell : GoodIn wsL_law (va_wsS RL 58 yL_cell wsL_cell) := goodIn_app (goodIn_of _ (by decide +kernel)) ggL_law_L_cell
set_option maxRecDepth 20000 in
theorem ggL_law_L_low : GoodIn wsL_law wsL_low := goodIn_r _ [73, 74] (by decide +kernel) (by decide +kernel)
set_option maxRecDepth 20000 in
theorem gL_law_L_low : GoodIn wsL_law (va_wsS RL 62 yL_low wsL_low) := goodIn_app (goodIn_of _ (by decide +kernel)) ggL_law_L_low
set_option maxRecDepth 20000 in
theorem ggL_law_L_put : GoodIn wsL_law wsL_put := goodIn_r _ [77] (by decide +kernel) (by decide +kernel)
set_option maxRecDepth 20000 in
theorem gL_law_L_put : GoodIn wsL_law (va_wsS RL 65 yL_put wsL_put) := goodIn_app (goodIn_of _ (by decide +kernel)) ggL_law_L_put
set_option maxRecDepth 20000 in
theorem ggL_law_X4_put : GoodIn wsL_law wsX4_put := goodIn_ca (goodIn_ca (goodIn_ca (goodIn_r _ [81, 82, 83, 84, 85, 86, 87, 13, 23, 17, 88, 89, 2, 90, 91, 92, 93, 94, 22, 95, 96, 59, 97, 98, 99, 100, 58, 101, 102, 103, 104, 105, 12, 106, 107, 31, 108, 109, 110, 111, 32, 33, 34, 35, 112, 113, 114, 115, 116, 117, 118, 119, 120, 16, 121, 122, 53, 123, 124, 125, 126, 42, 43, 44, 45, 46, 50, 51, 52, 127, 128, 129, 130, 47, 48, 49, 131, 132, 133, 134, 135, 136, 137, 138, 139, 140, 141, 142, 143, 144, 145, 146, 147, 148, 149, 150, 151, 39, 40, 41, 152, 153, 154, 155, 156, 157, 158, 159, 160, 161, 162, 163, 164, 165, 166, 167, 306, 307, 308, 309, 310, 311, 312, 313, 314, 315, 316, 332, 333, 317, 318, 319, 320, 321, 322, 323, 324, 325, 326, 327, 328, 329, 330, 331] (by decide +kernel) (by decide +kernel)) (goodIn_sub (fun _ h => List.mem_append_left _ (List.mem_append_left _ (List.mem_append_right _ h))) (by decide +kernel))) (goodIn_sub (fun _ h => List.mem_append_left _ (List.mem_append_right _ h)) (by decide +kernel))) (goodIn_sub (fun _ h => List.mem_append_right _ h) (by decide +kernel))
set_option maxRecDepth 20000 in
theorem gL_law_X4_put : GoodIn wsL_law (wsV RL 69 RX4 yX4_put wsX4_put) := goodIn_app (goodIn_of _ (by decide +kernel)) ggL_law_X4_put
set_option maxRecDepth 20000 in
theorem ggL_law_L_take : GoodIn wsL_law wsL_take := goodIn_r _ [170] (by decide +kernel) (by decide +kernel)
set_option maxRecDepth 20000 in
theorem gL_law_L_take : GoodIn wsL_law (va_wsS RL 72 yL_take wsL_take) := goodIn_app (goodIn_of _ (by decide +kernel)) ggL_law_L_take
set_option maxRecDepth 20000 in
theorem ggL_law_X4_take : GoodIn wsL_law wsX4_take := goodIn_ca (goodIn_r _ [174, 82, 83, 13, 23, 17, 175, 12, 176, 177, 34, 94, 22, 95, 96, 59, 97, 98, 99, 100, 58, 101, 102, 103, 104, 105, 106, 107, 31, 108, 109, 110, 111, 32, 33, 35, 178, 179, 180, 181, 182, 183, 184, 120, 16, 121, 122, 53, 123, 124, 125, 126, 42, 43, 44, 45, 46, 50, 51, 52, 127, 128, 129, 130, 47, 48, 49, 131, 132, 133, 134, 135, 2, 136, 137, 138, 139, 140, 141, 142, 143, 144, 145, 146, 147, 148, 149, 150, 151, 39, 40, 41, 152, 153, 154, 155, 156, 157, 158, 159, 160, 161, 162, 163, 164, 165, 166, 167, 118, 119, 306, 307, 308, 309, 310, 311, 312, 313, 314, 315, 316, 332, 333, 317, 318, 319, 320, 321, 322, 323, 324, 325, 326, 327, 328, 329, 330, 331] (by decide +kernel) (by decide +kernel)) (goodIn_sub (fun _ h => List.mem_append_left _ (List.mem_append_left _ (List.mem_append_right _ h))) (by decide +kernel))
set_option maxRecDepth 20000 in
theorem gL_law_X4_take : GoodIn wsL_law (wsV RL 76 RX4 yX4_take wsX4_take) := goodIn_app (goodIn_of _ (by decide +kernel)) ggL_law_X4_take
set_option maxRecDepth 20000 in
theorem ggL_law_X4_set : GoodIn wsL_law wsX4_set := goodIn_ca (goodIn_r _ [188, 84, 85, 13, 23, 17, 88, 89, 2, 90, 94, 22, 95, 96, 59, 97, 98, 99, 100, 58, 101, 102, 103, 104, 105, 12, 106, 107, 31, 108, 109, 110, 111, 32, 33, 34, 35, 120, 16, 121, 122, 53, 123, 124, 125, 126, 42, 43, 44, 45, 46, 50, 51, 52, 127, 128, 129, 130, 47, 48, 49, 131, 132, 133, 134, 135, 136, 137, 138, 139, 140, 141, 142, 143, 144, 145, 146, 147, 148, 149, 150, 151, 39, 40, 41, 152, 153, 154, 155, 156, 157, 158, 159, 160, 161, 162, 163, 164, 165, 166, 167, 118, 119, 306, 307, 308, 309, 310, 311, 312, 313, 314, 315, 316, 332, 333, 317, 318, 319, 320, 321, 322, 323, 324, 325, 326, 327, 328, 329, 330, 331] (by decide +kernel) (by decide +kernel)) (goodIn_sub (fun _ h => List.mem_append_left _ (List.mem_append_right _ h)) (by decide +kernel))
set_option maxRecDepth 20000 in
theorem gL_law_X4_set : GoodIn wsL_law (wsV RL 78 RX4 yX4_set wsX4_set) := goodIn_app (goodIn_of _ (by decide +kernel)) ggL_law_X4_set
set_option maxRecDepth 20000 in
theorem ggL_law_L_pour : GoodIn wsL_law wsL_pour := goodIn_r _ [191] (by decide +kernel) (by decide +kernel)
set_option maxRecDepth 20000 in
theorem gL_law_L_pour : GoodIn wsL_law (va_wsS RL 39 yL_pour wsL_pour) := goodIn_app (goodIn_of _ (by decide +kernel)) ggL_law_L_pour
set_option maxRecDepth 20000 in
theorem ggL_law_X4_change : GoodIn wsL_law wsX4_change := goodIn_ca (goodIn_ca (goodIn_r _ [195, 82, 83, 84, 85, 13, 23, 17, 175, 12, 176, 177, 34, 91, 92, 2, 93, 88, 89, 90, 94, 22, 95, 96, 59, 97, 98, 99, 100, 58, 101, 102, 103, 104, 105, 106, 107, 31, 108, 109, 110, 111, 32, 33, 35, 196, 118, 119, 120, 16, 121, 122, 53, 123, 124, 125, 126, 42, 43, 44, 45, 46, 50, 51, 52, 127, 128, 129, 130, 47, 48, 49, 131, 132, 133, 134, 135, 136, 137, 138, 139, 140, 141, 142, 143, 144, 145, 146, 147, 148, 149, 150, 151, 39, 40, 41, 152, 153, 154, 155, 156, 157, 158, 159, 160, 161, 162, 163, 164, 165, 166, 167, 306, 307, 308, 309, 310, 311, 312, 313, 314, 315, 316, 317, 318, 319, 320, 321, 322, 323, 324, 325, 326, 327, 328, 329, 330, 331, 332, 333] (by decide +kernel) (by decide +kernel)) (goodIn_sub (fun _ h => List.mem_append_left _ (List.mem_append_left _ (List.mem_append_right _ h))) (by decide +kernel))) (goodIn_sub (fun _ h => List.mem_append_left _ (List.mem_append_right _ h)) (by decide +kernel))
set_option maxRecDepth 20000 in
theorem gL_law_X4_change : GoodIn wsL_law (wsV RL 81 RX4 yX4_change wsX4_change) := goodIn_app (goodIn_of _ (by decide +kernel)) ggL_law_X4_change
set_option maxRecDepth 20000 in
theorem ggL_law_L_whole : GoodIn wsL_law wsL_whole := goodIn_r _ [199, 200] (by decide +kernel) (by decide +kernel)
set_option maxRecDepth 20000 in
theorem gL_law_L_whole : GoodIn wsL_law (va_wsS RL 11 yL_whole wsL_whole) := goodIn_app (goodIn_of _ (by decide +kernel)) ggL_law_L_whole
set_option maxRecDepth 20000 in
theorem ggL_law_X4_panel : GoodIn wsL_law wsX4_panel := goodIn_ca (goodIn_ca (goodIn_r _ [204, 82, 83, 84, 85, 13, 175, 12, 176, 177, 34, 88, 89, 2, 90, 205, 206, 207, 208, 17, 209, 135, 136, 306, 307, 308, 309, 310, 311, 312, 313, 314, 315, 316, 317, 318, 319, 320, 321, 322, 323, 324, 325, 326, 327, 328, 329, 330, 331] (by decide +kernel) (by decide +kernel)) (goodIn_sub (fun _ h => List.mem_append_left _ (List.mem_append_left _ (List.mem_append_right _ h))) (by decide +kernel))) (goodIn_sub (fun _ h => List.mem_append_left _ (List.mem_append_right _ h)) (by decide +kernel))
set_option maxRecDepth 20000 in
theorem gL_law_X4_panel : GoodIn wsL_law (wsV RL 84 RX4 yX4_panel wsX4_panel) := goodIn_app (goodIn_of _ (by decide +kernel)) ggL_law_X4_panel
set_option maxRecDepth 20000 in
theorem zg1_L_pages_0 : GoodIn wsL_law [Cond.code yL_pages cL_pages 23 (some .boolean)] := goodIn_one (i := 212) rfl rfl
set_option maxRecDepth 20000 in
theorem zg1_L_pages_1 : GoodIn wsL_law [Cond.constant RL 10 (100000), Cond.methodLink RL 11 yL_whole, Cond.static yL_whole, Cond.initialized RL] := goodIn_r _ [200, 197, 198, 67] (by decide +kernel) (by decide +kernel)
set_option maxRecDepth 20000 in
theorem zg1_L_pages_2 : GoodIn wsL_law [Cond.code yL_whole cL_whole 10 (some .int)] := goodIn_one (i := 199) rfl rfl
set_option maxRecDepth 20000 in
theorem zg1_L_pages_3 : GoodIn wsL_law [Cond.methodLink RL 19 yX4_page, Cond.instanceMethod yX4_page, Cond.selects RX4 yX4_page yX4_page, Cond.initialized RX4, Cond.code yX4_page cX4_page 3 (some .int), Cond.classLink RX4 51 "java/lang/IndexOutOfBoundsException", Cond.initialized "java/lang/IndexOutOfBoundsException", Cond.classLink RX4 62 "java/lang/IllegalArgumentException", Cond.initialized "java/lang/IllegalArgumentException", Cond.fieldLink RX4 19 "SplashPages" "layout" "LSplashPages$Layout;"] := goodIn_r _ [213, 214, 215, 2, 216, 82, 83, 84, 85, 17] (by decide +kernel) (by decide +kernel)
set_option maxRecDepth 20000 in
theorem zg1_L_pages_4 : GoodIn wsL_law [Cond.methodLink RX4 47 yX4_isWithin, Cond.static yX4_isWithin, Cond.code yX4_isWithin cX4_isWithin 3 (some .boolean), Cond.instanceMethod yX1_numberOfPage, Cond.initialized RX1, Cond.selects RX1 yX1_numberOfPage yX1_numberOfPage, Cond.code yX1_numberOfPage cX1_numberOfPage 3 (some .int), Cond.fieldLink RX1 21 "SplashPages$Layout" "pagePanels" "[I", Cond.fieldLink RX1 24 "SplashPages$Layout" "pageBeats" "[I"] := goodIn_r _ [88, 89, 90, 217, 16, 218, 219, 42, 43] (by decide +kernel) (by decide +kernel)
set_option maxRecDepth 20000 in
theorem zg1_L_pages_5 : GoodIn wsL_law [Cond.fieldLink RX1 27 "SplashPages$Layout" "pageFilled" "[I", Cond.fieldLink RX1 30 "SplashPages$Layout" "pageFirst" "[I", Cond.fieldLink RX1 46 "SplashPages$Layout" "used" "I", Cond.fieldLink RX1 33 "SplashPages$Layout" "pageBleeding" "[I", Cond.static yX4_read, Cond.code yX4_read cX4_read 2 (some .int), Cond.methodLink RX1 106 yX1_isBearing, Cond.instanceMethod yX1_isBearing, Cond.selects RX1 yX1_isBearing yX1_isBearing, Cond.code yX1_isBearing cX1_isBearing 2 (some .boolean)] := goodIn_r _ [44, 45, 50, 46, 135, 136, 141, 142, 143, 144] (by decide +kernel) (by decide +kernel)
set_option maxRecDepth 20000 in
theorem zg1_L_pages_6 : GoodIn wsL_law [Cond.methodLink RL 23 yX4_count, Cond.instanceMethod yX4_count, Cond.selects RX4 yX4_count yX4_count, Cond.code yX4_count cX4_count 2 (some .int), Cond.methodLink RX4 162 yX4_numberInAll, Cond.instanceMethod yX4_numberInAll, Cond.selects RX4 yX4_numberInAll yX4_numberInAll, Cond.code yX4_numberInAll cX4_numberInAll 2 (some .int), Cond.fieldLink RX4 12 "SplashPages" "now" "LSplashPages$Story;", Cond.fieldLink RX4 32 "SplashPages" "history" "LSplashPages$History;"] := goodIn_r _ [220, 221, 222, 223, 224, 225, 226, 227, 13, 23] (by decide +kernel) (by decide +kernel)
set_option maxRecDepth 20000 in
theorem zg1_L_pages_7 : GoodIn wsL_law [Cond.instanceMethod yX1_greatestBeats, Cond.selects RX1 yX1_greatestBeats yX1_greatestBeats, Cond.code yX1_greatestBeats cX1_greatestBeats 3 (some .int), Cond.methodLink RX1 123 Lib.Math.max.name] := goodIn_r _ [228, 229, 230, 231] (by decide +kernel) (by decide +kernel)
set_option maxRecDepth 20000 in
theorem zg1_L_pages_8 : GoodIn wsL_law [Cond.static Lib.Math.max.name, Cond.initialized "java/lang/Math", Cond.code Lib.Math.max.name Lib.Math.max.code 2 (some .int), Cond.instanceMethod yX1_emptyUnits, Cond.selects RX1 yX1_emptyUnits yX1_emptyUnits, Cond.code yX1_emptyUnits cX1_emptyUnits 1 (some .int), Cond.fieldLink RX1 49 "SplashPages$Layout" "bearing" "I", Cond.fieldLink RX1 52 "SplashPages$Layout" "filled" "I", Cond.instanceMethod yX1_greatestDifference, Cond.selects RX1 yX1_greatestDifference yX1_greatestDifference] := goodIn_r _ [232, 233, 234, 235, 236, 237, 51, 52, 238, 239] (by decide +kernel) (by decide +kernel)
set_option maxRecDepth 20000 in
theorem zg1_L_pages_9 : GoodIn wsL_law [Cond.code yX1_greatestDifference cX1_greatestDifference 3 (some .int), Cond.methodLink RX1 129 Lib.Math.abs.name, Cond.static Lib.Math.abs.name, Cond.code Lib.Math.abs.name Lib.Math.abs.code 1 (some .int), Cond.methodLink RL 27 yX4_fullness, Cond.instanceMethod yX4_fullness, Cond.selects RX4 yX4_fullness yX4_fullness, Cond.code yX4_fullness cX4_fullness 1 (some .double), Cond.methodLink RX4 179 yX4_shareOfFilled, Cond.instanceMethod yX4_shareOfFilled] := goodIn_r _ [240, 241, 242, 243, 244, 245, 246, 247, 248, 249] (by decide +kernel) (by decide +kernel)
set_option maxRecDepth 20000 in
theorem zg1_L_pages_10 : GoodIn wsL_law [Cond.selects RX4 yX4_shareOfFilled yX4_shareOfFilled, Cond.code yX4_shareOfFilled cX4_shareOfFilled 2 (some .double)] := goodIn_r _ [250, 251] (by decide +kernel) (by decide +kernel)
set_option maxRecDepth 20000 in
theorem ggL_law_L_pages : GoodIn wsL_law wsL_pages := by
  show ∀ w ∈ ([Cond.code yL_pages cL_pages 23 (some .boolean)] ++ (((((((([Cond.constant RL 10 (100000), Cond.methodLink RL 11 yL_whole, Cond.static yL_whole, Cond.initialized RL] ++ ([Cond.code yL_whole cL_whole 10 (some .int)] ++ ([Cond.methodLink RL 19 yX4_page, Cond.instanceMethod yX4_page, Cond.selects RX4 yX4_page yX4_page, Cond.initialized RX4, Cond.code yX4_page cX4_page 3 (some .int), Cond.classLink RX4 51 "java/lang/IndexOutOfBoundsException", Cond.initialized "java/lang/IndexOutOfBoundsException", Cond.classLink RX4 62 "java/lang/IllegalArgumentException", Cond.initialized "java/lang/IllegalArgumentException", Cond.fieldLink RX4 19 "SplashPages" "layout" "LSplashPages$Layout;"] ++ [Cond.methodLink RX4 47 yX4_isWithin, Cond.static yX4_isWithin, Cond.code yX4_isWithin cX4_isWithin 3 (some .boolean), Cond.instanceMethod yX1_numberOfPage, Cond.initialized RX1, Cond.selects RX1 yX1_numberOfPage yX1_numberOfPage, Cond.code yX1_numberOfPage cX1_numberOfPage 3 (some .int), Cond.fieldLink RX1 21 "SplashPages$Layout" "pagePanels" "[I", Cond.fieldLink RX1 24 "SplashPages$Layout" "pageBeats" "[I"]))) ++ (([Cond.fieldLink RX1 27 "SplashPages$Layout" "pageFilled" "[I", Cond.fieldLink RX1 30 "SplashPages$Layout" "pageFirst" "[I", Cond.fieldLink RX1 46 "SplashPages$Layout" "used" "I", Cond.fieldLink RX1 33 "SplashPages$Layout" "pageBleeding" "[I", Cond.static yX4_read, Cond.code yX4_read cX4_read 2 (some .int), Cond.methodLink RX1 106 yX1_isBearing, Cond.instanceMethod yX1_isBearing, Cond.selects RX1 yX1_isBearing yX1_isBearing, Cond.code yX1_isBearing cX1_isBearing 2 (some .boolean)] ++ ([Cond.methodLink RL 23 yX4_count, Cond.instanceMethod yX4_count, Cond.selects RX4 yX4_count yX4_count, Cond.code yX4_count cX4_count 2 (some .int), Cond.methodLink RX4 162 yX4_numberInAll, Cond.instanceMethod yX4_numberInAll, Cond.selects RX4 yX4_numberInAll yX4_numberInAll, Cond.code yX4_numberInAll cX4_numberInAll 2 (some .int), Cond.fieldLink RX4 12 "SplashPages" "now" "LSplashPages$Story;", Cond.fieldLink RX4 32 "SplashPages" "history" "LSplashPages$History;"] ++ [Cond.instanceMethod yX1_greatestBeats, Cond.selects RX1 yX1_greatestBeats yX1_greatestBeats, Cond.code yX1_greatestBeats cX1_greatestBeats 3 (some .int), Cond.methodLink RX1 123 Lib.Math.max.name])) ++ ([Cond.static Lib.Math.max.name, Cond.initialized "java/lang/Math", Cond.code Lib.Math.max.name Lib.Math.max.code 2 (some .int), Cond.instanceMethod yX1_emptyUnits, Cond.selects RX1 yX1_emptyUnits yX1_emptyUnits, Cond.code yX1_emptyUnits cX1_emptyUnits 1 (some .int), Cond.fieldLink RX1 49 "SplashPages$Layout" "bearing" "I", Cond.fieldLink RX1 52 "SplashPages$Layout" "filled" "I", Cond.instanceMethod yX1_greatestDifference, Cond.selects RX1 yX1_greatestDifference yX1_greatestDifference] ++ ([Cond.code yX1_greatestDifference cX1_greatestDifference 3 (some .int), Cond.methodLink RX1 129 Lib.Math.abs.name, Cond.static Lib.Math.abs.name, Cond.code Lib.Math.abs.name Lib.Math.abs.code 1 (some .int), Cond.methodLink RL 27 yX4_fullness, Cond.instanceMethod yX4_fullness, Cond.selects RX4 yX4_fullness yX4_fullness, Cond.code yX4_fullness cX4_fullness 1 (some .double), Cond.methodLink RX4 179 yX4_shareOfFilled, Cond.instanceMethod yX4_shareOfFilled] ++ [Cond.selects RX4 yX4_shareOfFilled yX4_shareOfFilled, Cond.code yX4_shareOfFilled cX4_shareOfFilled 2 (some .double)])))) ++ wsX40) ++ wsX10) ++ wsX20) ++ wsX00) ++ (vx_atS RX4 55 "java/lang/IndexOutOfBoundsException" ["java/lang/RuntimeException", "java/lang/Exception"]).filter goodWord) ++ (vx_atS RX4 66 "java/lang/IllegalArgumentException" ["java/lang/RuntimeException", "java/lang/Exception"]).filter goodWord)), w ∈ wsL_law ∧ ((w.onTables && w.keeps) = true ∨ ∃ ty, w = .arrayClass ty)
  exact (List.forall_mem_append.mpr ⟨zg1_L_pages_0, (List.forall_mem_append.mpr ⟨(List.forall_mem_append.mpr ⟨(List.forall_mem_append.mpr ⟨(List.forall_mem_append.mpr ⟨(List.forall_mem_append.mpr ⟨(List.forall_mem_append.mpr ⟨(List.forall_mem_append.mpr ⟨(List.forall_mem_append.mpr ⟨zg1_L_pages_1, (List.forall_mem_append.mpr ⟨zg1_L_pages_2, (List.forall_mem_append.mpr ⟨zg1_L_pages_3, zg1_L_pages_4⟩)⟩)⟩), (List.forall_mem_append.mpr ⟨(List.forall_mem_append.mpr ⟨zg1_L_pages_5, (List.forall_mem_append.mpr ⟨zg1_L_pages_6, zg1_L_pages_7⟩)⟩), (List.forall_mem_append.mpr ⟨zg1_L_pages_8, (List.forall_mem_append.mpr ⟨zg1_L_pages_9, zg1_L_pages_10⟩)⟩)⟩)⟩), goodIn_sub inlX4 (by decide +kernel)⟩), goodIn_sub inlX1 (by decide +kernel)⟩), goodIn_sub inlX2 (by decide +kernel)⟩), goodIn_sub inlX0 (by decide +kernel)⟩), goodIn_sub (fun _ h => (List.mem_append_left _ (List.mem_append_left _ (List.mem_append_right _ h)))) (by decide +kernel)⟩), goodIn_sub (fun _ h => (List.mem_append_left _ (List.mem_append_right _ h))) (by decide +kernel)⟩)⟩)
set_option maxRecDepth 20000 in
theorem gL_law_L_pages : GoodIn wsL_law (va_wsS RL 87 yL_pages wsL_pages) := goodIn_app (goodIn_of _ (by decide +kernel)) ggL_law_L_pages
set_option maxRecDepth 20000 in
theorem ggL_law_L_units : GoodIn wsL_law wsL_units := goodIn_ca (goodIn_r _ [254, 255, 256, 67, 257, 258, 259, 260, 2, 261, 82, 83, 88, 89, 90, 262, 263, 264, 265, 17, 13, 209, 135, 136, 306, 307, 308, 309, 310, 311, 317, 318, 319, 320, 321, 322, 323, 324, 325, 326, 327, 328, 329, 330, 331, 312, 313, 314, 315, 316] (by decide +kernel) (by decide +kernel)) (goodIn_sub (fun _ h => List.mem_append_left _ (List.mem_append_left _ (List.mem_append_right _ h))) (by decide +kernel))
set_option maxRecDepth 20000 in
theorem gL_law_L_units : GoodIn wsL_law (va_wsS RL 91 yL_units wsL_units) := goodIn_app (goodIn_of _ (by decide +kernel)) ggL_law_L_units
set_option maxRecDepth 20000 in
theorem zg1_L_wouldBe_0 : GoodIn wsL_law [Cond.code yL_wouldBe cL_wouldBe 17 (some .boolean)] := goodIn_one (i := 268) rfl rfl
set_option maxRecDepth 20000 in
theorem zg1_L_wouldBe_1 : GoodIn wsL_law [Cond.arrayClass .int, Cond.constant RL 10 (100000), Cond.methodLink RL 39 yL_pour, Cond.static yL_pour, Cond.initialized RL] := goodIn_r _ [3, 200, 189, 190, 67] (by decide +kernel) (by decide +kernel)
set_option maxRecDepth 20000 in
theorem zg1_L_wouldBe_2 : GoodIn wsL_law [Cond.code yL_pour cL_pour 16 none] := goodIn_one (i := 191) rfl rfl
set_option maxRecDepth 20000 in
theorem zg1_L_wouldBe_3 : GoodIn wsL_law [Cond.methodLink RL 11 yL_whole, Cond.static yL_whole] := goodIn_r _ [197, 198] (by decide +kernel) (by decide +kernel)
set_option maxRecDepth 20000 in
theorem zg1_L_wouldBe_4 : GoodIn wsL_law [Cond.code yL_whole cL_whole 10 (some .int)] := goodIn_one (i := 199) rfl rfl
set_option maxRecDepth 20000 in
theorem zg1_L_wouldBe_5 : GoodIn wsL_law [Cond.methodLink RL 43 yX4_bestWidth, Cond.instanceMethod yX4_bestWidth, Cond.selects RX4 yX4_bestWidth yX4_bestWidth, Cond.initialized RX4, Cond.code yX4_bestWidth cX4_bestWidth 2 (some .int), Cond.classLink RX4 51 "java/lang/IndexOutOfBoundsException", Cond.initialized "java/lang/IndexOutOfBoundsException", Cond.fieldLink RX4 12 "SplashPages" "now" "LSplashPages$Story;", Cond.instanceMethod yX2_has, Cond.initialized RX2] := goodIn_r _ [269, 270, 271, 2, 272, 82, 83, 13, 175, 12] (by decide +kernel) (by decide +kernel)
set_option maxRecDepth 20000 in
theorem zg1_L_wouldBe_6 : GoodIn wsL_law [Cond.selects RX2 yX2_has yX2_has, Cond.code yX2_has cX2_has 2 (some .boolean), Cond.fieldLink RX2 21 "SplashPages$Story" "size" "I", Cond.methodLink RX4 176 yX4_widthOfLeastCost, Cond.instanceMethod yX4_widthOfLeastCost] := goodIn_r _ [176, 177, 34, 273, 274] (by decide +kernel) (by decide +kernel)
set_option maxRecDepth 20000 in
theorem zg1_L_wouldBe_7 : GoodIn wsL_law [Cond.selects RX4 yX4_widthOfLeastCost yX4_widthOfLeastCost, Cond.code yX4_widthOfLeastCost cX4_widthOfLeastCost 6 (some .int), Cond.fieldLink RX4 23 "SplashPages" "trial" "LSplashPages$Story;", Cond.fieldLink RX4 26 "SplashPages" "trialLayout" "LSplashPages$Layout;", Cond.instanceMethod yX2_copyFrom, Cond.selects RX2 yX2_copyFrom yX2_copyFrom, Cond.code yX2_copyFrom cX2_copyFrom 2 none, Cond.fieldLink RX2 9 "SplashPages$Story" "kinds" "[I", Cond.methodLink RX2 28 arraycopyName, Cond.native arraycopyName] := goodIn_r _ [275, 276, 18, 19, 105, 106, 107, 31, 108, 109] (by decide +kernel) (by decide +kernel)
set_option maxRecDepth 20000 in
theorem zg1_L_wouldBe_8 : GoodIn wsL_law [Cond.static arraycopyName, Cond.initialized "java/lang/System", Cond.fieldLink RX2 15 "SplashPages$Story" "widths" "[I", Cond.fieldLink RX2 18 "SplashPages$Story" "beats" "[I", Cond.fieldLink RX2 25 "SplashPages$Story" "setting" "I", Cond.methodLink RX4 99 yX4_write, Cond.static yX4_write, Cond.code yX4_write cX4_write 3 none, Cond.instanceMethod yX1_pour, Cond.initialized RX1] := goodIn_r _ [110, 111, 32, 33, 35, 196, 118, 119, 120, 16] (by decide +kernel) (by decide +kernel)
set_option maxRecDepth 20000 in
theorem zg1_L_wouldBe_9 : GoodIn wsL_law [Cond.selects RX1 yX1_pour yX1_pour, Cond.code yX1_pour cX1_pour 3 none, Cond.fieldLink RX1 55 "SplashPages$Layout" "leftOut" "I", Cond.methodLink RX1 58 yX1_clear] := goodIn_r _ [121, 122, 53, 123] (by decide +kernel) (by decide +kernel)
set_option maxRecDepth 20000 in
theorem zg1_L_wouldBe_10 : GoodIn wsL_law [Cond.instanceMethod yX1_clear, Cond.selects RX1 yX1_clear yX1_clear, Cond.code yX1_clear cX1_clear 2 none, Cond.fieldLink RX1 21 "SplashPages$Layout" "pagePanels" "[I", Cond.fieldLink RX1 24 "SplashPages$Layout" "pageBeats" "[I", Cond.fieldLink RX1 27 "SplashPages$Layout" "pageFilled" "[I", Cond.fieldLink RX1 30 "SplashPages$Layout" "pageFirst" "[I", Cond.fieldLink RX1 33 "SplashPages$Layout" "pageBleeding" "[I", Cond.fieldLink RX1 46 "SplashPages$Layout" "used" "I", Cond.fieldLink RX1 49 "SplashPages$Layout" "bearing" "I"] := goodIn_r _ [124, 125, 126, 42, 43, 44, 45, 46, 50, 51] (by decide +kernel) (by decide +kernel)
set_option maxRecDepth 20000 in
theorem zg1_L_wouldBe_11 : GoodIn wsL_law [Cond.fieldLink RX1 52 "SplashPages$Layout" "filled" "I", Cond.methodLink RX1 74 yX1_beginPage, Cond.instanceMethod yX1_beginPage, Cond.selects RX1 yX1_beginPage yX1_beginPage, Cond.code yX1_beginPage cX1_beginPage 2 none, Cond.fieldLink RX1 36 "SplashPages$Layout" "pageOfNow" "I", Cond.fieldLink RX1 40 "SplashPages$Layout" "rowOfNow" "I", Cond.fieldLink RX1 43 "SplashPages$Layout" "nextUnit" "I", Cond.methodLink RX1 66 yX1_place, Cond.instanceMethod yX1_place] := goodIn_r _ [52, 127, 128, 129, 130, 47, 48, 49, 131, 132] (by decide +kernel) (by decide +kernel)
set_option maxRecDepth 20000 in
theorem zg1_L_wouldBe_12 : GoodIn wsL_law [Cond.selects RX1 yX1_place yX1_place, Cond.code yX1_place cX1_place 5 (some .boolean), Cond.static yX4_read, Cond.code yX4_read cX4_read 2 (some .int)] := goodIn_r _ [133, 134, 135, 136] (by decide +kernel) (by decide +kernel)
set_option maxRecDepth 20000 in
theorem zg1_L_wouldBe_13 : GoodIn wsL_law [Cond.methodLink RX1 88 yX1_placeOnWholePages, Cond.instanceMethod yX1_placeOnWholePages, Cond.selects RX1 yX1_placeOnWholePages yX1_placeOnWholePages, Cond.code yX1_placeOnWholePages cX1_placeOnWholePages 5 (some .boolean), Cond.methodLink RX1 106 yX1_isBearing, Cond.instanceMethod yX1_isBearing, Cond.selects RX1 yX1_isBearing yX1_isBearing, Cond.code yX1_isBearing cX1_isBearing 2 (some .boolean), Cond.methodLink RX1 110 yX1_isOnLeft, Cond.static yX1_isOnLeft] := goodIn_r _ [137, 138, 139, 140, 141, 142, 143, 144, 145, 146] (by decide +kernel) (by decide +kernel)
set_option maxRecDepth 20000 in
theorem zg1_L_wouldBe_14 : GoodIn wsL_law [Cond.code yX1_isOnLeft cX1_isOnLeft 1 (some .boolean), Cond.methodLink RX1 70 yX1_note, Cond.instanceMethod yX1_note, Cond.selects RX1 yX1_note yX1_note, Cond.code yX1_note cX1_note 5 none, Cond.fieldLink RX1 9 "SplashPages$Layout" "pages" "[I", Cond.fieldLink RX1 15 "SplashPages$Layout" "rows" "[I", Cond.fieldLink RX1 18 "SplashPages$Layout" "units" "[I", Cond.methodLink RX1 113 yX1_bear, Cond.instanceMethod yX1_bear] := goodIn_r _ [147, 148, 149, 150, 151, 39, 40, 41, 152, 153] (by decide +kernel) (by decide +kernel)
set_option maxRecDepth 20000 in
theorem zg1_L_wouldBe_15 : GoodIn wsL_law [Cond.selects RX1 yX1_bear yX1_bear, Cond.code yX1_bear cX1_bear 5 none, Cond.methodLink RX1 95 yX1_goOnIfTooManyBeats, Cond.instanceMethod yX1_goOnIfTooManyBeats] := goodIn_r _ [154, 155, 156, 157] (by decide +kernel) (by decide +kernel)
set_option maxRecDepth 20000 in
theorem zg1_L_wouldBe_16 : GoodIn wsL_law [Cond.selects RX1 yX1_goOnIfTooManyBeats yX1_goOnIfTooManyBeats, Cond.code yX1_goOnIfTooManyBeats cX1_goOnIfTooManyBeats 3 none, Cond.methodLink RX1 102 yX1_placeInRow, Cond.instanceMethod yX1_placeInRow, Cond.selects RX1 yX1_placeInRow yX1_placeInRow, Cond.code yX1_placeInRow cX1_placeInRow 6 (some .boolean), Cond.methodLink RX1 116 yX1_beginRow, Cond.instanceMethod yX1_beginRow, Cond.selects RX1 yX1_beginRow yX1_beginRow, Cond.code yX1_beginRow cX1_beginRow 1 none] := goodIn_r _ [158, 159, 160, 161, 162, 163, 164, 165, 166, 167] (by decide +kernel) (by decide +kernel)
set_option maxRecDepth 20000 in
theorem zg1_L_wouldBe_17 : GoodIn wsL_law [Cond.instanceMethod yX1_cost, Cond.selects RX1 yX1_cost yX1_cost, Cond.code yX1_cost cX1_cost 1 (some .int), Cond.methodLink RX1 133 yX1_emptyUnits, Cond.instanceMethod yX1_emptyUnits, Cond.selects RX1 yX1_emptyUnits yX1_emptyUnits, Cond.code yX1_emptyUnits cX1_emptyUnits 1 (some .int), Cond.methodLink RL 46 yL_exchange, Cond.static yL_exchange, Cond.code yL_exchange cL_exchange 3 none] := goodIn_r _ [277, 278, 279, 280, 235, 236, 237, 281, 282, 283] (by decide +kernel) (by decide +kernel)
set_option maxRecDepth 20000 in
theorem zg1_L_wouldBe_18 : GoodIn wsL_law [Cond.methodLink RL 50 yX4_ifExchanged, Cond.instanceMethod yX4_ifExchanged, Cond.selects RX4 yX4_ifExchanged yX4_ifExchanged, Cond.code yX4_ifExchanged cX4_ifExchanged 3 (some .int)] := goodIn_r _ [284, 285, 286, 287] (by decide +kernel) (by decide +kernel)
set_option maxRecDepth 20000 in
theorem zg1_L_wouldBe_19 : GoodIn wsL_law [Cond.classLink RX4 62 "java/lang/IllegalArgumentException", Cond.initialized "java/lang/IllegalArgumentException", Cond.methodLink RX4 47 yX4_isWithin, Cond.static yX4_isWithin, Cond.code yX4_isWithin cX4_isWithin 3 (some .boolean), Cond.methodLink RX4 170 yX4_afterExchange, Cond.instanceMethod yX4_afterExchange, Cond.selects RX4 yX4_afterExchange yX4_afterExchange, Cond.code yX4_afterExchange cX4_afterExchange 3 (some .int), Cond.instanceMethod yX2_exchangeWithNext] := goodIn_r _ [84, 85, 88, 89, 90, 288, 289, 290, 291, 292] (by decide +kernel) (by decide +kernel)
set_option maxRecDepth 20000 in
theorem zg1_L_wouldBe_20 : GoodIn wsL_law [Cond.selects RX2 yX2_exchangeWithNext yX2_exchangeWithNext, Cond.code yX2_exchangeWithNext cX2_exchangeWithNext 2 none, Cond.methodLink RX2 46 yX2_exchangeInRow, Cond.static yX2_exchangeInRow, Cond.code yX2_exchangeInRow cX2_exchangeInRow 3 none, Cond.methodLink RL 53 yX4_leastSetting, Cond.instanceMethod yX4_leastSetting, Cond.selects RX4 yX4_leastSetting yX4_leastSetting, Cond.code yX4_leastSetting cX4_leastSetting 1 (some .int), Cond.methodLink RX4 173 yX4_leastThatServes] := goodIn_r _ [293, 294, 295, 296, 297, 298, 299, 300, 301, 302] (by decide +kernel) (by decide +kernel)
set_option maxRecDepth 20000 in
theorem zg1_L_wouldBe_21 : GoodIn wsL_law [Cond.instanceMethod yX4_leastThatServes, Cond.selects RX4 yX4_leastThatServes yX4_leastThatServes, Cond.code yX4_leastThatServes cX4_leastThatServes 2 (some .int), Cond.fieldLink RX4 19 "SplashPages" "layout" "LSplashPages$Layout;"] := goodIn_r _ [303, 304, 305, 17] (by decide +kernel) (by decide +kernel)
set_option maxRecDepth 20000 in
theorem ggL_law_L_wouldBe : GoodIn wsL_law wsL_wouldBe := by
  show ∀ w ∈ ([Cond.code yL_wouldBe cL_wouldBe 17 (some .boolean)] ++ ((((((([Cond.arrayClass .int, Cond.constant RL 10 (100000), Cond.methodLink RL 39 yL_pour, Cond.static yL_pour, Cond.initialized RL] ++ ([Cond.code yL_pour cL_pour 16 none] ++ ([Cond.methodLink RL 11 yL_whole, Cond.static yL_whole] ++ ([Cond.code yL_whole cL_whole 10 (some .int)] ++ ([Cond.methodLink RL 43 yX4_bestWidth, Cond.instanceMethod yX4_bestWidth, Cond.selects RX4 yX4_bestWidth yX4_bestWidth, Cond.initialized RX4, Cond.code yX4_bestWidth cX4_bestWidth 2 (some .int), Cond.classLink RX4 51 "java/lang/IndexOutOfBoundsException", Cond.initialized "java/lang/IndexOutOfBoundsException", Cond.fieldLink RX4 12 "SplashPages" "now" "LSplashPages$Story;", Cond.instanceMethod yX2_has, Cond.initialized RX2] ++ [Cond.selects RX2 yX2_has yX2_has, Cond.code yX2_has cX2_has 2 (some .boolean), Cond.fieldLink RX2 21 "SplashPages$Story" "size" "I", Cond.methodLink RX4 176 yX4_widthOfLeastCost, Cond.instanceMethod yX4_widthOfLeastCost]))))) ++ (([Cond.selects RX4 yX4_widthOfLeastCost yX4_widthOfLeastCost, Cond.code yX4_widthOfLeastCost cX4_widthOfLeastCost 6 (some .int), Cond.fieldLink RX4 23 "SplashPages" "trial" "LSplashPages$Story;", Cond.fieldLink RX4 26 "SplashPages" "trialLayout" "LSplashPages$Layout;", Cond.instanceMethod yX2_copyFrom, Cond.selects RX2 yX2_copyFrom yX2_copyFrom, Cond.code yX2_copyFrom cX2_copyFrom 2 none, Cond.fieldLink RX2 9 "SplashPages$Story" "kinds" "[I", Cond.methodLink RX2 28 arraycopyName, Cond.native arraycopyName] ++ ([Cond.static arraycopyName, Cond.initialized "java/lang/System", Cond.fieldLink RX2 15 "SplashPages$Story" "widths" "[I", Cond.fieldLink RX2 18 "SplashPages$Story" "beats" "[I", Cond.fieldLink RX2 25 "SplashPages$Story" "setting" "I", Cond.methodLink RX4 99 yX4_write, Cond.static yX4_write, Cond.code yX4_write cX4_write 3 none, Cond.instanceMethod yX1_pour, Cond.initialized RX1] ++ [Cond.selects RX1 yX1_pour yX1_pour, Cond.code yX1_pour cX1_pour 3 none, Cond.fieldLink RX1 55 "SplashPages$Layout" "leftOut" "I", Cond.methodLink RX1 58 yX1_clear])) ++ (([Cond.instanceMethod yX1_clear, Cond.selects RX1 yX1_clear yX1_clear, Cond.code yX1_clear cX1_clear 2 none, Cond.fieldLink RX1 21 "SplashPages$Layout" "pagePanels" "[I", Cond.fieldLink RX1 24 "SplashPages$Layout" "pageBeats" "[I", Cond.fieldLink RX1 27 "SplashPages$Layout" "pageFilled" "[I", Cond.fieldLink RX1 30 "SplashPages$Layout" "pageFirst" "[I", Cond.fieldLink RX1 33 "SplashPages$Layout" "pageBleeding" "[I", Cond.fieldLink RX1 46 "SplashPages$Layout" "used" "I", Cond.fieldLink RX1 49 "SplashPages$Layout" "bearing" "I"] ++ ([Cond.fieldLink RX1 52 "SplashPages$Layout" "filled" "I", Cond.methodLink RX1 74 yX1_beginPage, Cond.instanceMethod yX1_beginPage, Cond.selects RX1 yX1_beginPage yX1_beginPage, Cond.code yX1_beginPage cX1_beginPage 2 none, Cond.fieldLink RX1 36 "SplashPages$Layout" "pageOfNow" "I", Cond.fieldLink RX1 40 "SplashPages$Layout" "rowOfNow" "I", Cond.fieldLink RX1 43 "SplashPages$Layout" "nextUnit" "I", Cond.methodLink RX1 66 yX1_place, Cond.instanceMethod yX1_place] ++ [Cond.selects RX1 yX1_place yX1_place, Cond.code yX1_place cX1_place 5 (some .boolean), Cond.static yX4_read, Cond.code yX4_read cX4_read 2 (some .int)])) ++ (([Cond.methodLink RX1 88 yX1_placeOnWholePages, Cond.instanceMethod yX1_placeOnWholePages, Cond.selects RX1 yX1_placeOnWholePages yX1_placeOnWholePages, Cond.code yX1_placeOnWholePages cX1_placeOnWholePages 5 (some .boolean), Cond.methodLink RX1 106 yX1_isBearing, Cond.instanceMethod yX1_isBearing, Cond.selects RX1 yX1_isBearing yX1_isBearing, Cond.code yX1_isBearing cX1_isBearing 2 (some .boolean), Cond.methodLink RX1 110 yX1_isOnLeft, Cond.static yX1_isOnLeft] ++ ([Cond.code yX1_isOnLeft cX1_isOnLeft 1 (some .boolean), Cond.methodLink RX1 70 yX1_note, Cond.instanceMethod yX1_note, Cond.selects RX1 yX1_note yX1_note, Cond.code yX1_note cX1_note 5 none, Cond.fieldLink RX1 9 "SplashPages$Layout" "pages" "[I", Cond.fieldLink RX1 15 "SplashPages$Layout" "rows" "[I", Cond.fieldLink RX1 18 "SplashPages$Layout" "units" "[I", Cond.methodLink RX1 113 yX1_bear, Cond.instanceMethod yX1_bear] ++ [Cond.selects RX1 yX1_bear yX1_bear, Cond.code yX1_bear cX1_bear 5 none, Cond.methodLink RX1 95 yX1_goOnIfTooManyBeats, Cond.instanceMethod yX1_goOnIfTooManyBeats])) ++ (([Cond.selects RX1 yX1_goOnIfTooManyBeats yX1_goOnIfTooManyBeats, Cond.code yX1_goOnIfTooManyBeats cX1_goOnIfTooManyBeats 3 none, Cond.methodLink RX1 102 yX1_placeInRow, Cond.instanceMethod yX1_placeInRow, Cond.selects RX1 yX1_placeInRow yX1_placeInRow, Cond.code yX1_placeInRow cX1_placeInRow 6 (some .boolean), Cond.methodLink RX1 116 yX1_beginRow, Cond.instanceMethod yX1_beginRow, Cond.selects RX1 yX1_beginRow yX1_beginRow, Cond.code yX1_beginRow cX1_beginRow 1 none] ++ ([Cond.instanceMethod yX1_cost, Cond.selects RX1 yX1_cost yX1_cost, Cond.code yX1_cost cX1_cost 1 (some .int), Cond.methodLink RX1 133 yX1_emptyUnits, Cond.instanceMethod yX1_emptyUnits, Cond.selects RX1 yX1_emptyUnits yX1_emptyUnits, Cond.code yX1_emptyUnits cX1_emptyUnits 1 (some .int), Cond.methodLink RL 46 yL_exchange, Cond.static yL_exchange, Cond.code yL_exchange cL_exchange 3 none] ++ [Cond.methodLink RL 50 yX4_ifExchanged, Cond.instanceMethod yX4_ifExchanged, Cond.selects RX4 yX4_ifExchanged yX4_ifExchanged, Cond.code yX4_ifExchanged cX4_ifExchanged 3 (some .int)])) ++ ([Cond.classLink RX4 62 "java/lang/IllegalArgumentException", Cond.initialized "java/lang/IllegalArgumentException", Cond.methodLink RX4 47 yX4_isWithin, Cond.static yX4_isWithin, Cond.code yX4_isWithin cX4_isWithin 3 (some .boolean), Cond.methodLink RX4 170 yX4_afterExchange, Cond.instanceMethod yX4_afterExchange, Cond.selects RX4 yX4_afterExchange yX4_afterExchange, Cond.code yX4_afterExchange cX4_afterExchange 3 (some .int), Cond.instanceMethod yX2_exchangeWithNext] ++ ([Cond.selects RX2 yX2_exchangeWithNext yX2_exchangeWithNext, Cond.code yX2_exchangeWithNext cX2_exchangeWithNext 2 none, Cond.methodLink RX2 46 yX2_exchangeInRow, Cond.static yX2_exchangeInRow, Cond.code yX2_exchangeInRow cX2_exchangeInRow 3 none, Cond.methodLink RL 53 yX4_leastSetting, Cond.instanceMethod yX4_leastSetting, Cond.selects RX4 yX4_leastSetting yX4_leastSetting, Cond.code yX4_leastSetting cX4_leastSetting 1 (some .int), Cond.methodLink RX4 173 yX4_leastThatServes] ++ [Cond.instanceMethod yX4_leastThatServes, Cond.selects RX4 yX4_leastThatServes yX4_leastThatServes, Cond.code yX4_leastThatServes cX4_leastThatServes 2 (some .int), Cond.fieldLink RX4 19 "SplashPages" "layout" "LSplashPages$Layout;"]))))))) ++ wsX40) ++ wsX20) ++ wsX10) ++ (vx_atS RX4 55 "java/lang/IndexOutOfBoundsException" ["java/lang/RuntimeException", "java/lang/Exception"]).filter goodWord) ++ (vx_atS RX4 66 "java/lang/IllegalArgumentException" ["java/lang/RuntimeException", "java/lang/Exception"]).filter goodWord)), w ∈ wsL_law ∧ ((w.onTables && w.keeps) = true ∨ ∃ ty, w = .arrayClass ty)
  exact (List.forall_mem_append.mpr ⟨zg1_L_wouldBe_0, (List.forall_mem_append.mpr ⟨(List.forall_mem_append.mpr ⟨(List.forall_mem_append.mpr ⟨(List.forall_mem_append.mpr ⟨(List.forall_mem_append.mpr ⟨(List.forall_mem_append.mpr ⟨(List.forall_mem_append.mpr ⟨zg1_L_wouldBe_1, (List.forall_mem_append.mpr ⟨zg1_L_wouldBe_2, (List.forall_mem_append.mpr ⟨zg1_L_wouldBe_3, (List.forall_mem_append.mpr ⟨zg1_L_wouldBe_4, (List.forall_mem_append.mpr ⟨zg1_L_wouldBe_5, zg1_L_wouldBe_6⟩)⟩)⟩)⟩)⟩), (List.forall_mem_append.mpr ⟨(List.forall_mem_append.mpr ⟨zg1_L_wouldBe_7, (List.forall_mem_append.mpr ⟨zg1_L_wouldBe_8, zg1_L_wouldBe_9⟩)⟩), (List.forall_mem_append.mpr ⟨(List.forall_mem_append.mpr ⟨zg1_L_wouldBe_10, (List.forall_mem_append.mpr ⟨zg1_L_wouldBe_11, zg1_L_wouldBe_12⟩)⟩), (List.forall_mem_append.mpr ⟨(List.forall_mem_append.mpr ⟨zg1_L_wouldBe_13, (List.forall_mem_append.mpr ⟨zg1_L_wouldBe_14, zg1_L_wouldBe_15⟩)⟩), (List.forall_mem_append.mpr ⟨(List.forall_mem_append.mpr ⟨zg1_L_wouldBe_16, (List.forall_mem_append.mpr ⟨zg1_L_wouldBe_17, zg1_L_wouldBe_18⟩)⟩), (List.forall_mem_append.mpr ⟨zg1_L_wouldBe_19, (List.forall_mem_append.mpr ⟨zg1_L_wouldBe_20, zg1_L_wouldBe_21⟩)⟩)⟩)⟩)⟩)⟩)⟩), goodIn_sub inlX4 (by decide +kernel)⟩), goodIn_sub inlX2 (by decide +kernel)⟩), goodIn_sub inlX1 (by decide +kernel)⟩), goodIn_sub (fun _ h => (List.mem_append_left _ (List.mem_append_left _ (List.mem_append_right _ h)))) (by decide +kernel)⟩), goodIn_sub (fun _ h => (List.mem_append_left _ (List.mem_append_right _ h))) (by decide +kernel)⟩)⟩)
set_option maxRecDepth 20000 in
theorem gL_law_L_wouldBe : GoodIn wsL_law (va_wsS RL 95 yL_wouldBe wsL_wouldBe) := goodIn_app (goodIn_of _ (by decide +kernel)) ggL_law_L_wouldBe
theorem dL_law_0 : decode cL_law 0 = .ok (.new 17, 3) := by decide +kernel
theorem dL_law_3 : decode cL_law 3 = .ok (.dup, 1) := by decide +kernel
theorem dL_law_4 : decode cL_law 4 = .ok (.invokespecial 57, 3) := by decide +kernel
theorem dL_law_7 : decode cL_law 7 = .ok (.astore_n 1, 1) := by decide +kernel
theorem dL_law_8 : decode cL_law 8 = .ok (.bipush 24, 2) := by decide +kernel
theorem dL_law_10 : decode cL_law 10 = .ok (.newarray .int, 2) := by decide +kernel
theorem dL_law_12 : decode cL_law 12 = .ok (.astore_n 2, 1) := by decide +kernel
theorem dL_law_13 : decode cL_law 13 = .ok (.bipush 24, 2) := by decide +kernel
theorem dL_law_15 : decode cL_law 15 = .ok (.newarray .int, 2) := by decide +kernel
theorem dL_law_17 : decode cL_law 17 = .ok (.astore_n 3, 1) := by decide +kernel
theorem dL_law_18 : decode cL_law 18 = .ok (.bipush 24, 2) := by decide +kernel
theorem dL_law_20 : decode cL_law 20 = .ok (.newarray .int, 2) := by decide +kernel
theorem dL_law_22 : decode cL_law 22 = .ok (.astore 4, 2) := by decide +kernel
theorem dL_law_24 : decode cL_law 24 = .ok (.bipush 24, 2) := by decide +kernel
theorem dL_law_26 : decode cL_law 26 = .ok (.newarray .int, 2) := by decide +kernel
theorem dL_law_28 : decode cL_law 28 = .ok (.astore 5, 2) := by decide +kernel
theorem dL_law_30 : decode cL_law 30 = .ok (.bipush 24, 2) := by decide +kernel
theorem dL_law_32 : decode cL_law 32 = .ok (.newarray .int, 2) := by decide +kernel
theorem dL_law_34 : decode cL_law 34 = .ok (.astore 6, 2) := by decide +kernel
theorem dL_law_36 : decode cL_law 36 = .ok (.bipush 24, 2) := by decide +kernel
theorem dL_law_38 : decode cL_law 38 = .ok (.newarray .int, 2) := by decide +kernel
theorem dL_law_40 : decode cL_law 40 = .ok (.astore 7, 2) := by decide +kernel
theorem dL_law_42 : decode cL_law 42 = .ok (.iconst 2, 1) := by decide +kernel
theorem dL_law_43 : decode cL_law 43 = .ok (.newarray .int, 2) := by decide +kernel
theorem dL_law_45 : decode cL_law 45 = .ok (.astore 8, 2) := by decide +kernel
theorem dL_law_47 : decode cL_law 47 = .ok (.aload 8, 2) := by decide +kernel
theorem dL_law_49 : decode cL_law 49 = .ok (.iconst 0, 1) := by decide +kernel
theorem dL_law_50 : decode cL_law 50 = .ok (.bipush 30, 2) := by decide +kernel
theorem dL_law_52 : decode cL_law 52 = .ok (.iastore, 1) := by decide +kernel
theorem dL_law_53 : decode cL_law 53 = .ok (.iconst 0, 1) := by decide +kernel
theorem dL_law_54 : decode cL_law 54 = .ok (.istore 9, 2) := by decide +kernel
theorem dL_law_56 : decode cL_law 56 = .ok (.iload 9, 2) := by decide +kernel
theorem dL_law_58 : decode cL_law 58 = .ok (.bipush 60, 2) := by decide +kernel
theorem dL_law_60 : decode cL_law 60 = .ok (.if_icmp .ge 694, 3) := by decide +kernel
theorem dL_law_63 : decode cL_law 63 = .ok (.aload_n 0, 1) := by decide +kernel
theorem dL_law_64 : decode cL_law 64 = .ok (.iload 9, 2) := by decide +kernel
theorem dL_law_66 : decode cL_law 66 = .ok (.invokestatic 58, 3) := by decide +kernel
theorem dL_law_69 : decode cL_law 69 = .ok (.istore 10, 2) := by decide +kernel
theorem dL_law_71 : decode cL_law 71 = .ok (.iload 10, 2) := by decide +kernel
theorem dL_law_73 : decode cL_law 73 = .ok (.bipush 10, 2) := by decide +kernel
theorem dL_law_75 : decode cL_law 75 = .ok (.invokestatic 62, 3) := by decide +kernel
theorem dL_law_78 : decode cL_law 78 = .ok (.istore 11, 2) := by decide +kernel
theorem dL_law_80 : decode cL_law 80 = .ok (.iconst 1, 1) := by decide +kernel
theorem dL_law_81 : decode cL_law 81 = .ok (.istore 12, 2) := by decide +kernel
theorem dL_law_83 : decode cL_law 83 = .ok (.iload 11, 2) := by decide +kernel
theorem dL_law_85 : decode cL_law 85 = .ok (.bipush 7, 2) := by decide +kernel
theorem dL_law_87 : decode cL_law 87 = .ok (.if_icmp .lt 11, 3) := by decide +kernel
theorem dL_law_90 : decode cL_law 90 = .ok (.aload 8, 2) := by decide +kernel
theorem dL_law_92 : decode cL_law 92 = .ok (.iconst 1, 1) := by decide +kernel
theorem dL_law_93 : decode cL_law 93 = .ok (.iaload, 1) := by decide +kernel
theorem dL_law_94 : decode cL_law 94 = .ok (.iconst 2, 1) := by decide +kernel
theorem dL_law_95 : decode cL_law 95 = .ok (.if_icmp .ge 182, 3) := by decide +kernel
theorem dL_law_98 : decode cL_law 98 = .ok (.aload 8, 2) := by decide +kernel
theorem dL_law_100 : decode cL_law 100 = .ok (.iconst 1, 1) := by decide +kernel
theorem dL_law_101 : decode cL_law 101 = .ok (.iaload, 1) := by decide +kernel
theorem dL_law_102 : decode cL_law 102 = .ok (.bipush 24, 2) := by decide +kernel
theorem dL_law_104 : decode cL_law 104 = .ok (.if_icmp .ge 173, 3) := by decide +kernel
theorem dL_law_107 : decode cL_law 107 = .ok (.iload 10, 2) := by decide +kernel
theorem dL_law_109 : decode cL_law 109 = .ok (.iconst 4, 1) := by decide +kernel
theorem dL_law_110 : decode cL_law 110 = .ok (.ishr, 1) := by decide +kernel
theorem dL_law_111 : decode cL_law 111 = .ok (.iconst 3, 1) := by decide +kernel
theorem dL_law_112 : decode cL_law 112 = .ok (.invokestatic 62, 3) := by decide +kernel
theorem dL_law_115 : decode cL_law 115 = .ok (.ifCond .ne 20, 3) := by decide +kernel
theorem dL_law_118 : decode cL_law 118 = .ok (.iload 10, 2) := by decide +kernel
theorem dL_law_120 : decode cL_law 120 = .ok (.bipush 6, 2) := by decide +kernel
theorem dL_law_122 : decode cL_law 122 = .ok (.ishr, 1) := by decide +kernel
theorem dL_law_123 : decode cL_law 123 = .ok (.aload 8, 2) := by decide +kernel
theorem dL_law_125 : decode cL_law 125 = .ok (.iconst 1, 1) := by decide +kernel
theorem dL_law_126 : decode cL_law 126 = .ok (.iaload, 1) := by decide +kernel
theorem dL_law_127 : decode cL_law 127 = .ok (.iconst 1, 1) := by decide +kernel
theorem dL_law_128 : decode cL_law 128 = .ok (.iadd, 1) := by decide +kernel
theorem dL_law_129 : decode cL_law 129 = .ok (.invokestatic 62, 3) := by decide +kernel
theorem dL_law_132 : decode cL_law 132 = .ok (.goto 7, 3) := by decide +kernel
theorem dL_law_135 : decode cL_law 135 = .ok (.aload 8, 2) := by decide +kernel
theorem dL_law_137 : decode cL_law 137 = .ok (.iconst 1, 1) := by decide +kernel
theorem dL_law_138 : decode cL_law 138 = .ok (.iaload, 1) := by decide +kernel
theorem dL_law_139 : decode cL_law 139 = .ok (.istore 13, 2) := by decide +kernel
theorem dL_law_141 : decode cL_law 141 = .ok (.iload 10, 2) := by decide +kernel
theorem dL_law_143 : decode cL_law 143 = .ok (.bipush 11, 2) := by decide +kernel
theorem dL_law_145 : decode cL_law 145 = .ok (.ishr, 1) := by decide +kernel
theorem dL_law_146 : decode cL_law 146 = .ok (.bipush 10, 2) := by decide +kernel
theorem dL_law_148 : decode cL_law 148 = .ok (.invokestatic 62, 3) := by decide +kernel
theorem dL_law_151 : decode cL_law 151 = .ok (.istore 14, 2) := by decide +kernel
theorem dL_law_153 : decode cL_law 153 = .ok (.iload 14, 2) := by decide +kernel
theorem dL_law_155 : decode cL_law 155 = .ok (.iconst 5, 1) := by decide +kernel
theorem dL_law_156 : decode cL_law 156 = .ok (.if_icmp .ge 7, 3) := by decide +kernel
theorem dL_law_159 : decode cL_law 159 = .ok (.iconst 0, 1) := by decide +kernel
theorem dL_law_160 : decode cL_law 160 = .ok (.goto 19, 3) := by decide +kernel
theorem dL_law_163 : decode cL_law 163 = .ok (.iload 14, 2) := by decide +kernel
theorem dL_law_165 : decode cL_law 165 = .ok (.bipush 8, 2) := by decide +kernel
theorem dL_law_167 : decode cL_law 167 = .ok (.if_icmp .ge 7, 3) := by decide +kernel
theorem dL_law_170 : decode cL_law 170 = .ok (.iconst 1, 1) := by decide +kernel
theorem dL_law_171 : decode cL_law 171 = .ok (.goto 8, 3) := by decide +kernel
theorem dL_law_174 : decode cL_law 174 = .ok (.iload 14, 2) := by decide +kernel
theorem dL_law_176 : decode cL_law 176 = .ok (.bipush 6, 2) := by decide +kernel
theorem dL_law_178 : decode cL_law 178 = .ok (.isub, 1) := by decide +kernel
theorem dL_law_179 : decode cL_law 179 = .ok (.istore 15, 2) := by decide +kernel
theorem dL_law_181 : decode cL_law 181 = .ok (.iconst 1, 1) := by decide +kernel
theorem dL_law_182 : decode cL_law 182 = .ok (.iload 10, 2) := by decide +kernel
theorem dL_law_184 : decode cL_law 184 = .ok (.bipush 15, 2) := by decide +kernel
theorem dL_law_186 : decode cL_law 186 = .ok (.ishr, 1) := by decide +kernel
theorem dL_law_187 : decode cL_law 187 = .ok (.bipush 6, 2) := by decide +kernel
theorem dL_law_189 : decode cL_law 189 = .ok (.invokestatic 62, 3) := by decide +kernel
theorem dL_law_192 : decode cL_law 192 = .ok (.iadd, 1) := by decide +kernel
theorem dL_law_193 : decode cL_law 193 = .ok (.istore 16, 2) := by decide +kernel
theorem dL_law_195 : decode cL_law 195 = .ok (.iconst 1, 1) := by decide +kernel
theorem dL_law_196 : decode cL_law 196 = .ok (.iload 10, 2) := by decide +kernel
theorem dL_law_198 : decode cL_law 198 = .ok (.bipush 18, 2) := by decide +kernel
theorem dL_law_200 : decode cL_law 200 = .ok (.ishr, 1) := by decide +kernel
theorem dL_law_201 : decode cL_law 201 = .ok (.bipush 9, 2) := by decide +kernel
theorem dL_law_203 : decode cL_law 203 = .ok (.invokestatic 62, 3) := by decide +kernel
theorem dL_law_206 : decode cL_law 206 = .ok (.iadd, 1) := by decide +kernel
theorem dL_law_207 : decode cL_law 207 = .ok (.istore 17, 2) := by decide +kernel
theorem dL_law_209 : decode cL_law 209 = .ok (.aload_n 2, 1) := by decide +kernel
theorem dL_law_210 : decode cL_law 210 = .ok (.aload 8, 2) := by decide +kernel
theorem dL_law_212 : decode cL_law 212 = .ok (.iload 13, 2) := by decide +kernel
theorem dL_law_214 : decode cL_law 214 = .ok (.iload 15, 2) := by decide +kernel
theorem dL_law_216 : decode cL_law 216 = .ok (.invokestatic 65, 3) := by decide +kernel
theorem dL_law_219 : decode cL_law 219 = .ok (.aload_n 3, 1) := by decide +kernel
theorem dL_law_220 : decode cL_law 220 = .ok (.aload 8, 2) := by decide +kernel
theorem dL_law_222 : decode cL_law 222 = .ok (.iload 13, 2) := by decide +kernel
theorem dL_law_224 : decode cL_law 224 = .ok (.iload 16, 2) := by decide +kernel
theorem dL_law_226 : decode cL_law 226 = .ok (.invokestatic 65, 3) := by decide +kernel
theorem dL_law_229 : decode cL_law 229 = .ok (.aload 4, 2) := by decide +kernel
theorem dL_law_231 : decode cL_law 231 = .ok (.aload 8, 2) := by decide +kernel
theorem dL_law_233 : decode cL_law 233 = .ok (.iload 13, 2) := by decide +kernel
theorem dL_law_235 : decode cL_law 235 = .ok (.iload 17, 2) := by decide +kernel
theorem dL_law_237 : decode cL_law 237 = .ok (.invokestatic 65, 3) := by decide +kernel
theorem dL_law_240 : decode cL_law 240 = .ok (.aload 8, 2) := by decide +kernel
theorem dL_law_242 : decode cL_law 242 = .ok (.iconst 1, 1) := by decide +kernel
theorem dL_law_243 : decode cL_law 243 = .ok (.dup2, 1) := by decide +kernel
theorem dL_law_244 : decode cL_law 244 = .ok (.iaload, 1) := by decide +kernel
theorem dL_law_245 : decode cL_law 245 = .ok (.iconst 1, 1) := by decide +kernel
theorem dL_law_246 : decode cL_law 246 = .ok (.iadd, 1) := by decide +kernel
theorem dL_law_247 : decode cL_law 247 = .ok (.iastore, 1) := by decide +kernel
theorem dL_law_248 : decode cL_law 248 = .ok (.aload_n 1, 1) := by decide +kernel
theorem dL_law_249 : decode cL_law 249 = .ok (.iload 13, 2) := by decide +kernel
theorem dL_law_251 : decode cL_law 251 = .ok (.iload 15, 2) := by decide +kernel
theorem dL_law_253 : decode cL_law 253 = .ok (.iload 16, 2) := by decide +kernel
theorem dL_law_255 : decode cL_law 255 = .ok (.iload 17, 2) := by decide +kernel
theorem dL_law_257 : decode cL_law 257 = .ok (.invokevirtual 69, 3) := by decide +kernel
theorem dL_law_260 : decode cL_law 260 = .ok (.aload 8, 2) := by decide +kernel
theorem dL_law_262 : decode cL_law 262 = .ok (.iconst 1, 1) := by decide +kernel
theorem dL_law_263 : decode cL_law 263 = .ok (.iaload, 1) := by decide +kernel
theorem dL_law_264 : decode cL_law 264 = .ok (.if_icmp .ne 7, 3) := by decide +kernel
theorem dL_law_267 : decode cL_law 267 = .ok (.iconst 1, 1) := by decide +kernel
theorem dL_law_268 : decode cL_law 268 = .ok (.goto 4, 3) := by decide +kernel
theorem dL_law_271 : decode cL_law 271 = .ok (.iconst 0, 1) := by decide +kernel
theorem dL_law_272 : decode cL_law 272 = .ok (.istore 12, 2) := by decide +kernel
theorem dL_law_274 : decode cL_law 274 = .ok (.goto 248, 3) := by decide +kernel
theorem dL_law_277 : decode cL_law 277 = .ok (.iload 11, 2) := by decide +kernel
theorem dL_law_279 : decode cL_law 279 = .ok (.bipush 7, 2) := by decide +kernel
theorem dL_law_281 : decode cL_law 281 = .ok (.if_icmp .ne 72, 3) := by decide +kernel
theorem dL_law_284 : decode cL_law 284 = .ok (.iload 10, 2) := by decide +kernel
theorem dL_law_286 : decode cL_law 286 = .ok (.iconst 4, 1) := by decide +kernel
theorem dL_law_287 : decode cL_law 287 = .ok (.ishr, 1) := by decide +kernel
theorem dL_law_288 : decode cL_law 288 = .ok (.aload 8, 2) := by decide +kernel
theorem dL_law_290 : decode cL_law 290 = .ok (.iconst 1, 1) := by decide +kernel
theorem dL_law_291 : decode cL_law 291 = .ok (.iaload, 1) := by decide +kernel
theorem dL_law_292 : decode cL_law 292 = .ok (.invokestatic 62, 3) := by decide +kernel
theorem dL_law_295 : decode cL_law 295 = .ok (.istore 13, 2) := by decide +kernel
theorem dL_law_297 : decode cL_law 297 = .ok (.aload_n 2, 1) := by decide +kernel
theorem dL_law_298 : decode cL_law 298 = .ok (.aload 8, 2) := by decide +kernel
theorem dL_law_300 : decode cL_law 300 = .ok (.iload 13, 2) := by decide +kernel
theorem dL_law_302 : decode cL_law 302 = .ok (.invokestatic 72, 3) := by decide +kernel
theorem dL_law_305 : decode cL_law 305 = .ok (.aload_n 3, 1) := by decide +kernel
theorem dL_law_306 : decode cL_law 306 = .ok (.aload 8, 2) := by decide +kernel
theorem dL_law_308 : decode cL_law 308 = .ok (.iload 13, 2) := by decide +kernel
theorem dL_law_310 : decode cL_law 310 = .ok (.invokestatic 72, 3) := by decide +kernel
theorem dL_law_313 : decode cL_law 313 = .ok (.aload 4, 2) := by decide +kernel
theorem dL_law_315 : decode cL_law 315 = .ok (.aload 8, 2) := by decide +kernel
theorem dL_law_317 : decode cL_law 317 = .ok (.iload 13, 2) := by decide +kernel
theorem dL_law_319 : decode cL_law 319 = .ok (.invokestatic 72, 3) := by decide +kernel
theorem dL_law_322 : decode cL_law 322 = .ok (.aload 8, 2) := by decide +kernel
theorem dL_law_324 : decode cL_law 324 = .ok (.iconst 1, 1) := by decide +kernel
theorem dL_law_325 : decode cL_law 325 = .ok (.dup2, 1) := by decide +kernel
theorem dL_law_326 : decode cL_law 326 = .ok (.iaload, 1) := by decide +kernel
theorem dL_law_327 : decode cL_law 327 = .ok (.iconst 1, 1) := by decide +kernel
theorem dL_law_328 : decode cL_law 328 = .ok (.isub, 1) := by decide +kernel
theorem dL_law_329 : decode cL_law 329 = .ok (.iastore, 1) := by decide +kernel
theorem dL_law_330 : decode cL_law 330 = .ok (.aload_n 1, 1) := by decide +kernel
theorem dL_law_331 : decode cL_law 331 = .ok (.iload 13, 2) := by decide +kernel
theorem dL_law_333 : decode cL_law 333 = .ok (.invokevirtual 76, 3) := by decide +kernel
theorem dL_law_336 : decode cL_law 336 = .ok (.aload 8, 2) := by decide +kernel
theorem dL_law_338 : decode cL_law 338 = .ok (.iconst 1, 1) := by decide +kernel
theorem dL_law_339 : decode cL_law 339 = .ok (.iaload, 1) := by decide +kernel
theorem dL_law_340 : decode cL_law 340 = .ok (.if_icmp .ne 7, 3) := by decide +kernel
theorem dL_law_343 : decode cL_law 343 = .ok (.iconst 1, 1) := by decide +kernel
theorem dL_law_344 : decode cL_law 344 = .ok (.goto 4, 3) := by decide +kernel
theorem dL_law_347 : decode cL_law 347 = .ok (.iconst 0, 1) := by decide +kernel
theorem dL_law_348 : decode cL_law 348 = .ok (.istore 12, 2) := by decide +kernel
theorem dL_law_350 : decode cL_law 350 = .ok (.goto 172, 3) := by decide +kernel
theorem dL_law_353 : decode cL_law 353 = .ok (.iload 11, 2) := by decide +kernel
theorem dL_law_355 : decode cL_law 355 = .ok (.bipush 8, 2) := by decide +kernel
theorem dL_law_357 : decode cL_law 357 = .ok (.if_icmp .ne 63, 3) := by decide +kernel
theorem dL_law_360 : decode cL_law 360 = .ok (.bipush 9, 2) := by decide +kernel
theorem dL_law_362 : decode cL_law 362 = .ok (.iload 10, 2) := by decide +kernel
theorem dL_law_364 : decode cL_law 364 = .ok (.iconst 4, 1) := by decide +kernel
theorem dL_law_365 : decode cL_law 365 = .ok (.ishr, 1) := by decide +kernel
theorem dL_law_366 : decode cL_law 366 = .ok (.iload 10, 2) := by decide +kernel
theorem dL_law_368 : decode cL_law 368 = .ok (.bipush 12, 2) := by decide +kernel
theorem dL_law_370 : decode cL_law 370 = .ok (.ishr, 1) := by decide +kernel
theorem dL_law_371 : decode cL_law 371 = .ok (.iconst 2, 1) := by decide +kernel
theorem dL_law_372 : decode cL_law 372 = .ok (.invokestatic 62, 3) := by decide +kernel
theorem dL_law_375 : decode cL_law 375 = .ok (.ifCond .ne 8, 3) := by decide +kernel
theorem dL_law_378 : decode cL_law 378 = .ok (.bipush 52, 2) := by decide +kernel
theorem dL_law_380 : decode cL_law 380 = .ok (.goto 5, 3) := by decide +kernel
theorem dL_law_383 : decode cL_law 383 = .ok (.bipush 12, 2) := by decide +kernel
theorem dL_law_385 : decode cL_law 385 = .ok (.invokestatic 62, 3) := by decide +kernel
theorem dL_law_388 : decode cL_law 388 = .ok (.iadd, 1) := by decide +kernel
theorem dL_law_389 : decode cL_law 389 = .ok (.istore 13, 2) := by decide +kernel
theorem dL_law_391 : decode cL_law 391 = .ok (.aload_n 1, 1) := by decide +kernel
theorem dL_law_392 : decode cL_law 392 = .ok (.iload 13, 2) := by decide +kernel
theorem dL_law_394 : decode cL_law 394 = .ok (.invokevirtual 78, 3) := by decide +kernel
theorem dL_law_397 : decode cL_law 397 = .ok (.aload 8, 2) := by decide +kernel
theorem dL_law_399 : decode cL_law 399 = .ok (.iconst 0, 1) := by decide +kernel
theorem dL_law_400 : decode cL_law 400 = .ok (.iaload, 1) := by decide +kernel
theorem dL_law_401 : decode cL_law 401 = .ok (.if_icmp .ne 7, 3) := by decide +kernel
theorem dL_law_404 : decode cL_law 404 = .ok (.iconst 1, 1) := by decide +kernel
theorem dL_law_405 : decode cL_law 405 = .ok (.goto 4, 3) := by decide +kernel
theorem dL_law_408 : decode cL_law 408 = .ok (.iconst 0, 1) := by decide +kernel
theorem dL_law_409 : decode cL_law 409 = .ok (.istore 12, 2) := by decide +kernel
theorem dL_law_411 : decode cL_law 411 = .ok (.aload 8, 2) := by decide +kernel
theorem dL_law_413 : decode cL_law 413 = .ok (.iconst 0, 1) := by decide +kernel
theorem dL_law_414 : decode cL_law 414 = .ok (.iload 13, 2) := by decide +kernel
theorem dL_law_416 : decode cL_law 416 = .ok (.iastore, 1) := by decide +kernel
theorem dL_law_417 : decode cL_law 417 = .ok (.goto 105, 3) := by decide +kernel
theorem dL_law_420 : decode cL_law 420 = .ok (.iload 10, 2) := by decide +kernel
theorem dL_law_422 : decode cL_law 422 = .ok (.iconst 4, 1) := by decide +kernel
theorem dL_law_423 : decode cL_law 423 = .ok (.ishr, 1) := by decide +kernel
theorem dL_law_424 : decode cL_law 424 = .ok (.aload 8, 2) := by decide +kernel
theorem dL_law_426 : decode cL_law 426 = .ok (.iconst 1, 1) := by decide +kernel
theorem dL_law_427 : decode cL_law 427 = .ok (.iaload, 1) := by decide +kernel
theorem dL_law_428 : decode cL_law 428 = .ok (.invokestatic 62, 3) := by decide +kernel
theorem dL_law_431 : decode cL_law 431 = .ok (.istore 13, 2) := by decide +kernel
theorem dL_law_433 : decode cL_law 433 = .ok (.aload_n 3, 1) := by decide +kernel
theorem dL_law_434 : decode cL_law 434 = .ok (.iload 13, 2) := by decide +kernel
theorem dL_law_436 : decode cL_law 436 = .ok (.iconst 1, 1) := by decide +kernel
theorem dL_law_437 : decode cL_law 437 = .ok (.iload 10, 2) := by decide +kernel
theorem dL_law_439 : decode cL_law 439 = .ok (.bipush 9, 2) := by decide +kernel
theorem dL_law_441 : decode cL_law 441 = .ok (.ishr, 1) := by decide +kernel
theorem dL_law_442 : decode cL_law 442 = .ok (.bipush 6, 2) := by decide +kernel
theorem dL_law_444 : decode cL_law 444 = .ok (.invokestatic 62, 3) := by decide +kernel
theorem dL_law_447 : decode cL_law 447 = .ok (.iadd, 1) := by decide +kernel
theorem dL_law_448 : decode cL_law 448 = .ok (.iastore, 1) := by decide +kernel
theorem dL_law_449 : decode cL_law 449 = .ok (.aload 4, 2) := by decide +kernel
theorem dL_law_451 : decode cL_law 451 = .ok (.iload 13, 2) := by decide +kernel
theorem dL_law_453 : decode cL_law 453 = .ok (.iconst 1, 1) := by decide +kernel
theorem dL_law_454 : decode cL_law 454 = .ok (.iload 10, 2) := by decide +kernel
theorem dL_law_456 : decode cL_law 456 = .ok (.bipush 12, 2) := by decide +kernel
theorem dL_law_458 : decode cL_law 458 = .ok (.ishr, 1) := by decide +kernel
theorem dL_law_459 : decode cL_law 459 = .ok (.bipush 9, 2) := by decide +kernel
theorem dL_law_461 : decode cL_law 461 = .ok (.invokestatic 62, 3) := by decide +kernel
theorem dL_law_464 : decode cL_law 464 = .ok (.iadd, 1) := by decide +kernel
theorem dL_law_465 : decode cL_law 465 = .ok (.iastore, 1) := by decide +kernel
theorem dL_law_466 : decode cL_law 466 = .ok (.aload_n 2, 1) := by decide +kernel
theorem dL_law_467 : decode cL_law 467 = .ok (.aload_n 3, 1) := by decide +kernel
theorem dL_law_468 : decode cL_law 468 = .ok (.aload 4, 2) := by decide +kernel
theorem dL_law_470 : decode cL_law 470 = .ok (.aload 5, 2) := by decide +kernel
theorem dL_law_472 : decode cL_law 472 = .ok (.aload 6, 2) := by decide +kernel
theorem dL_law_474 : decode cL_law 474 = .ok (.aload 7, 2) := by decide +kernel
theorem dL_law_476 : decode cL_law 476 = .ok (.aload 8, 2) := by decide +kernel
theorem dL_law_478 : decode cL_law 478 = .ok (.invokestatic 39, 3) := by decide +kernel
theorem dL_law_481 : decode cL_law 481 = .ok (.aload_n 1, 1) := by decide +kernel
theorem dL_law_482 : decode cL_law 482 = .ok (.iload 13, 2) := by decide +kernel
theorem dL_law_484 : decode cL_law 484 = .ok (.aload_n 3, 1) := by decide +kernel
theorem dL_law_485 : decode cL_law 485 = .ok (.iload 13, 2) := by decide +kernel
theorem dL_law_487 : decode cL_law 487 = .ok (.iaload, 1) := by decide +kernel
theorem dL_law_488 : decode cL_law 488 = .ok (.aload 4, 2) := by decide +kernel
theorem dL_law_490 : decode cL_law 490 = .ok (.iload 13, 2) := by decide +kernel
theorem dL_law_492 : decode cL_law 492 = .ok (.iaload, 1) := by decide +kernel
theorem dL_law_493 : decode cL_law 493 = .ok (.invokevirtual 81, 3) := by decide +kernel
theorem dL_law_496 : decode cL_law 496 = .ok (.aload_n 2, 1) := by decide +kernel
theorem dL_law_497 : decode cL_law 497 = .ok (.aload_n 3, 1) := by decide +kernel
theorem dL_law_498 : decode cL_law 498 = .ok (.aload 5, 2) := by decide +kernel
theorem dL_law_500 : decode cL_law 500 = .ok (.aload 8, 2) := by decide +kernel
theorem dL_law_502 : decode cL_law 502 = .ok (.invokestatic 11, 3) := by decide +kernel
theorem dL_law_505 : decode cL_law 505 = .ok (.sipush 1000, 3) := by decide +kernel
theorem dL_law_508 : decode cL_law 508 = .ok (.idiv, 1) := by decide +kernel
theorem dL_law_509 : decode cL_law 509 = .ok (.bipush 100, 2) := by decide +kernel
theorem dL_law_511 : decode cL_law 511 = .ok (.irem, 1) := by decide +kernel
theorem dL_law_512 : decode cL_law 512 = .ok (.if_icmp .ne 7, 3) := by decide +kernel
theorem dL_law_515 : decode cL_law 515 = .ok (.iconst 1, 1) := by decide +kernel
theorem dL_law_516 : decode cL_law 516 = .ok (.goto 4, 3) := by decide +kernel
theorem dL_law_519 : decode cL_law 519 = .ok (.iconst 0, 1) := by decide +kernel
theorem dL_law_520 : decode cL_law 520 = .ok (.istore 12, 2) := by decide +kernel
theorem dL_law_522 : decode cL_law 522 = .ok (.aload_n 2, 1) := by decide +kernel
theorem dL_law_523 : decode cL_law 523 = .ok (.aload_n 3, 1) := by decide +kernel
theorem dL_law_524 : decode cL_law 524 = .ok (.aload 4, 2) := by decide +kernel
theorem dL_law_526 : decode cL_law 526 = .ok (.aload 5, 2) := by decide +kernel
theorem dL_law_528 : decode cL_law 528 = .ok (.aload 6, 2) := by decide +kernel
theorem dL_law_530 : decode cL_law 530 = .ok (.aload 7, 2) := by decide +kernel
theorem dL_law_532 : decode cL_law 532 = .ok (.aload 8, 2) := by decide +kernel
theorem dL_law_534 : decode cL_law 534 = .ok (.invokestatic 39, 3) := by decide +kernel
theorem dL_law_537 : decode cL_law 537 = .ok (.iconst 0, 1) := by decide +kernel
theorem dL_law_538 : decode cL_law 538 = .ok (.istore 13, 2) := by decide +kernel
theorem dL_law_540 : decode cL_law 540 = .ok (.iload 13, 2) := by decide +kernel
theorem dL_law_542 : decode cL_law 542 = .ok (.aload 8, 2) := by decide +kernel
theorem dL_law_544 : decode cL_law 544 = .ok (.iconst 1, 1) := by decide +kernel
theorem dL_law_545 : decode cL_law 545 = .ok (.iaload, 1) := by decide +kernel
theorem dL_law_546 : decode cL_law 546 = .ok (.if_icmp .ge 109, 3) := by decide +kernel
theorem dL_law_549 : decode cL_law 549 = .ok (.iload 12, 2) := by decide +kernel
theorem dL_law_551 : decode cL_law 551 = .ok (.ifCond .eq 104, 3) := by decide +kernel
theorem dL_law_554 : decode cL_law 554 = .ok (.aload_n 1, 1) := by decide +kernel
theorem dL_law_555 : decode cL_law 555 = .ok (.iload 13, 2) := by decide +kernel
theorem dL_law_557 : decode cL_law 557 = .ok (.iconst 0, 1) := by decide +kernel
theorem dL_law_558 : decode cL_law 558 = .ok (.invokevirtual 84, 3) := by decide +kernel
theorem dL_law_561 : decode cL_law 561 = .ok (.aload_n 2, 1) := by decide +kernel
theorem dL_law_562 : decode cL_law 562 = .ok (.iload 13, 2) := by decide +kernel
theorem dL_law_564 : decode cL_law 564 = .ok (.iaload, 1) := by decide +kernel
theorem dL_law_565 : decode cL_law 565 = .ok (.if_icmp .ne 81, 3) := by decide +kernel
theorem dL_law_568 : decode cL_law 568 = .ok (.aload_n 1, 1) := by decide +kernel
theorem dL_law_569 : decode cL_law 569 = .ok (.iload 13, 2) := by decide +kernel
theorem dL_law_571 : decode cL_law 571 = .ok (.iconst 1, 1) := by decide +kernel
theorem dL_law_572 : decode cL_law 572 = .ok (.invokevirtual 84, 3) := by decide +kernel
theorem dL_law_575 : decode cL_law 575 = .ok (.aload_n 3, 1) := by decide +kernel
theorem dL_law_576 : decode cL_law 576 = .ok (.iload 13, 2) := by decide +kernel
theorem dL_law_578 : decode cL_law 578 = .ok (.iaload, 1) := by decide +kernel
theorem dL_law_579 : decode cL_law 579 = .ok (.if_icmp .ne 67, 3) := by decide +kernel
theorem dL_law_582 : decode cL_law 582 = .ok (.aload_n 1, 1) := by decide +kernel
theorem dL_law_583 : decode cL_law 583 = .ok (.iload 13, 2) := by decide +kernel
theorem dL_law_585 : decode cL_law 585 = .ok (.iconst 2, 1) := by decide +kernel
theorem dL_law_586 : decode cL_law 586 = .ok (.invokevirtual 84, 3) := by decide +kernel
theorem dL_law_589 : decode cL_law 589 = .ok (.aload 4, 2) := by decide +kernel
theorem dL_law_591 : decode cL_law 591 = .ok (.iload 13, 2) := by decide +kernel
theorem dL_law_593 : decode cL_law 593 = .ok (.iaload, 1) := by decide +kernel
theorem dL_law_594 : decode cL_law 594 = .ok (.if_icmp .ne 52, 3) := by decide +kernel
theorem dL_law_597 : decode cL_law 597 = .ok (.aload_n 1, 1) := by decide +kernel
theorem dL_law_598 : decode cL_law 598 = .ok (.iload 13, 2) := by decide +kernel
theorem dL_law_600 : decode cL_law 600 = .ok (.iconst 3, 1) := by decide +kernel
theorem dL_law_601 : decode cL_law 601 = .ok (.invokevirtual 84, 3) := by decide +kernel
theorem dL_law_604 : decode cL_law 604 = .ok (.aload 5, 2) := by decide +kernel
theorem dL_law_606 : decode cL_law 606 = .ok (.iload 13, 2) := by decide +kernel
theorem dL_law_608 : decode cL_law 608 = .ok (.iaload, 1) := by decide +kernel
theorem dL_law_609 : decode cL_law 609 = .ok (.if_icmp .ne 37, 3) := by decide +kernel
theorem dL_law_612 : decode cL_law 612 = .ok (.aload_n 1, 1) := by decide +kernel
theorem dL_law_613 : decode cL_law 613 = .ok (.iload 13, 2) := by decide +kernel
theorem dL_law_615 : decode cL_law 615 = .ok (.iconst 4, 1) := by decide +kernel
theorem dL_law_616 : decode cL_law 616 = .ok (.invokevirtual 84, 3) := by decide +kernel
theorem dL_law_619 : decode cL_law 619 = .ok (.aload 6, 2) := by decide +kernel
theorem dL_law_621 : decode cL_law 621 = .ok (.iload 13, 2) := by decide +kernel
theorem dL_law_623 : decode cL_law 623 = .ok (.iaload, 1) := by decide +kernel
theorem dL_law_624 : decode cL_law 624 = .ok (.if_icmp .ne 22, 3) := by decide +kernel
theorem dL_law_627 : decode cL_law 627 = .ok (.aload_n 1, 1) := by decide +kernel
theorem dL_law_628 : decode cL_law 628 = .ok (.iload 13, 2) := by decide +kernel
theorem dL_law_630 : decode cL_law 630 = .ok (.iconst 5, 1) := by decide +kernel
theorem dL_law_631 : decode cL_law 631 = .ok (.invokevirtual 84, 3) := by decide +kernel
theorem dL_law_634 : decode cL_law 634 = .ok (.aload 7, 2) := by decide +kernel
theorem dL_law_636 : decode cL_law 636 = .ok (.iload 13, 2) := by decide +kernel
theorem dL_law_638 : decode cL_law 638 = .ok (.iaload, 1) := by decide +kernel
theorem dL_law_639 : decode cL_law 639 = .ok (.if_icmp .ne 7, 3) := by decide +kernel
theorem dL_law_642 : decode cL_law 642 = .ok (.iconst 1, 1) := by decide +kernel
theorem dL_law_643 : decode cL_law 643 = .ok (.goto 4, 3) := by decide +kernel
theorem dL_law_646 : decode cL_law 646 = .ok (.iconst 0, 1) := by decide +kernel
theorem dL_law_647 : decode cL_law 647 = .ok (.istore 12, 2) := by decide +kernel
theorem dL_law_649 : decode cL_law 649 = .ok (.iinc 13 1, 3) := by decide +kernel
theorem dL_law_652 : decode cL_law 652 = .ok (.goto (-112), 3) := by decide +kernel
theorem dL_law_655 : decode cL_law 655 = .ok (.iload 12, 2) := by decide +kernel
theorem dL_law_657 : decode cL_law 657 = .ok (.ifCond .eq 89, 3) := by decide +kernel
theorem dL_law_660 : decode cL_law 660 = .ok (.aload_n 1, 1) := by decide +kernel
theorem dL_law_661 : decode cL_law 661 = .ok (.aload_n 2, 1) := by decide +kernel
theorem dL_law_662 : decode cL_law 662 = .ok (.aload_n 3, 1) := by decide +kernel
theorem dL_law_663 : decode cL_law 663 = .ok (.aload 4, 2) := by decide +kernel
theorem dL_law_665 : decode cL_law 665 = .ok (.aload 5, 2) := by decide +kernel
theorem dL_law_667 : decode cL_law 667 = .ok (.aload 6, 2) := by decide +kernel
theorem dL_law_669 : decode cL_law 669 = .ok (.aload 7, 2) := by decide +kernel
theorem dL_law_671 : decode cL_law 671 = .ok (.aload 8, 2) := by decide +kernel
theorem dL_law_673 : decode cL_law 673 = .ok (.invokestatic 87, 3) := by decide +kernel
theorem dL_law_676 : decode cL_law 676 = .ok (.ifCond .eq 70, 3) := by decide +kernel
theorem dL_law_679 : decode cL_law 679 = .ok (.aload_n 1, 1) := by decide +kernel
theorem dL_law_680 : decode cL_law 680 = .ok (.aload_n 2, 1) := by decide +kernel
theorem dL_law_681 : decode cL_law 681 = .ok (.aload_n 3, 1) := by decide +kernel
theorem dL_law_682 : decode cL_law 682 = .ok (.aload 5, 2) := by decide +kernel
theorem dL_law_684 : decode cL_law 684 = .ok (.aload 6, 2) := by decide +kernel
theorem dL_law_686 : decode cL_law 686 = .ok (.aload 7, 2) := by decide +kernel
theorem dL_law_688 : decode cL_law 688 = .ok (.aload 8, 2) := by decide +kernel
theorem dL_law_690 : decode cL_law 690 = .ok (.iload 10, 2) := by decide +kernel
theorem dL_law_692 : decode cL_law 692 = .ok (.bipush 9, 2) := by decide +kernel
theorem dL_law_694 : decode cL_law 694 = .ok (.ishr, 1) := by decide +kernel
theorem dL_law_695 : decode cL_law 695 = .ok (.bipush 16, 2) := by decide +kernel
theorem dL_law_697 : decode cL_law 697 = .ok (.invokestatic 62, 3) := by decide +kernel
theorem dL_law_700 : decode cL_law 700 = .ok (.invokestatic 91, 3) := by decide +kernel
theorem dL_law_703 : decode cL_law 703 = .ok (.ifCond .eq 43, 3) := by decide +kernel
theorem dL_law_706 : decode cL_law 706 = .ok (.iload 9, 2) := by decide +kernel
theorem dL_law_708 : decode cL_law 708 = .ok (.iconst 5, 1) := by decide +kernel
theorem dL_law_709 : decode cL_law 709 = .ok (.irem, 1) := by decide +kernel
theorem dL_law_710 : decode cL_law 710 = .ok (.iconst 4, 1) := by decide +kernel
theorem dL_law_711 : decode cL_law 711 = .ok (.if_icmp .ne 37, 3) := by decide +kernel
theorem dL_law_714 : decode cL_law 714 = .ok (.aload 8, 2) := by decide +kernel
theorem dL_law_716 : decode cL_law 716 = .ok (.iconst 1, 1) := by decide +kernel
theorem dL_law_717 : decode cL_law 717 = .ok (.iaload, 1) := by decide +kernel
theorem dL_law_718 : decode cL_law 718 = .ok (.ifCond .le 30, 3) := by decide +kernel
theorem dL_law_721 : decode cL_law 721 = .ok (.aload_n 1, 1) := by decide +kernel
theorem dL_law_722 : decode cL_law 722 = .ok (.aload_n 2, 1) := by decide +kernel
theorem dL_law_723 : decode cL_law 723 = .ok (.aload_n 3, 1) := by decide +kernel
theorem dL_law_724 : decode cL_law 724 = .ok (.aload 4, 2) := by decide +kernel
theorem dL_law_726 : decode cL_law 726 = .ok (.aload 8, 2) := by decide +kernel
theorem dL_law_728 : decode cL_law 728 = .ok (.iload 10, 2) := by decide +kernel
theorem dL_law_730 : decode cL_law 730 = .ok (.bipush 13, 2) := by decide +kernel
theorem dL_law_732 : decode cL_law 732 = .ok (.ishr, 1) := by decide +kernel
theorem dL_law_733 : decode cL_law 733 = .ok (.aload 8, 2) := by decide +kernel
theorem dL_law_735 : decode cL_law 735 = .ok (.iconst 1, 1) := by decide +kernel
theorem dL_law_736 : decode cL_law 736 = .ok (.iaload, 1) := by decide +kernel
theorem dL_law_737 : decode cL_law 737 = .ok (.invokestatic 62, 3) := by decide +kernel
theorem dL_law_740 : decode cL_law 740 = .ok (.invokestatic 95, 3) := by decide +kernel
theorem dL_law_743 : decode cL_law 743 = .ok (.ifCond .ne 5, 3) := by decide +kernel
theorem dL_law_746 : decode cL_law 746 = .ok (.iconst 0, 1) := by decide +kernel
theorem dL_law_747 : decode cL_law 747 = .ok (.ireturn, 1) := by decide +kernel
theorem dL_law_748 : decode cL_law 748 = .ok (.iinc 9 1, 3) := by decide +kernel
theorem dL_law_751 : decode cL_law 751 = .ok (.goto (-695), 3) := by decide +kernel
theorem dL_law_754 : decode cL_law 754 = .ok (.iconst 1, 1) := by decide +kernel
theorem dL_law_755 : decode cL_law 755 = .ok (.ireturn, 1) := by decide +kernel
abbrev vwCl : List vw_C := [(RX0, TX0, 2), (RX1, TX1, 15), (RX2, TX2, 5), (RX3, TX3, 2), (RX4, TX4, 6)]
