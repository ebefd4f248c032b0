theorem dX2_init_0 : decode cX2_init 0 = .ok (.aload_n 0, 1) := by decide +kernel
theorem dX2_init_1 : decode cX2_init 1 = .ok (.invokespecial 3, 3) := by decide +kernel
theorem dX2_init_4 : decode cX2_init 4 = .ok (.aload_n 0, 1) := by decide +kernel
theorem dX2_init_5 : decode cX2_init 5 = .ok (.bipush 60, 2) := by decide +kernel
theorem dX2_init_7 : decode cX2_init 7 = .ok (.newarray .int, 2) := by decide +kernel
theorem dX2_init_9 : decode cX2_init 9 = .ok (.putfield 9, 3) := by decide +kernel
theorem dX2_init_12 : decode cX2_init 12 = .ok (.aload_n 0, 1) := by decide +kernel
theorem dX2_init_13 : decode cX2_init 13 = .ok (.iconst 0, 1) := by decide +kernel
theorem dX2_init_14 : decode cX2_init 14 = .ok (.putfield 15, 3) := by decide +kernel
theorem dX2_init_17 : decode cX2_init 17 = .ok (.return_, 1) := by decide +kernel
theorem dL_cell_0 : decode cL_cell 0 = .ok (.iload_n 1, 1) := by decide +kernel
theorem dL_cell_1 : decode cL_cell 1 = .ok (.aload_n 0, 1) := by decide +kernel
theorem dL_cell_2 : decode cL_cell 2 = .ok (.arraylength, 1) := by decide +kernel
theorem dL_cell_3 : decode cL_cell 3 = .ok (.if_icmp .ge 9, 3) := by decide +kernel
theorem dL_cell_6 : decode cL_cell 6 = .ok (.aload_n 0, 1) := by decide +kernel
theorem dL_cell_7 : decode cL_cell 7 = .ok (.iload_n 1, 1) := by decide +kernel
theorem dL_cell_8 : decode cL_cell 8 = .ok (.iaload, 1) := by decide +kernel
theorem dL_cell_9 : decode cL_cell 9 = .ok (.goto 11, 3) := by decide +kernel
theorem dL_cell_12 : decode cL_cell 12 = .ok (.ldc 7, 2) := by decide +kernel
theorem dL_cell_14 : decode cL_cell 14 = .ok (.iload_n 1, 1) := by decide +kernel
theorem dL_cell_15 : decode cL_cell 15 = .ok (.imul, 1) := by decide +kernel
theorem dL_cell_16 : decode cL_cell 16 = .ok (.sipush 29803, 3) := by decide +kernel
theorem dL_cell_19 : decode cL_cell 19 = .ok (.iadd, 1) := by decide +kernel
theorem dL_cell_20 : decode cL_cell 20 = .ok (.ireturn, 1) := by decide +kernel
theorem dL_low_0 : decode cL_low 0 = .ok (.iload_n 0, 1) := by decide +kernel
theorem dL_low_1 : decode cL_low 1 = .ok (.ldc 8, 2) := by decide +kernel
theorem dL_low_3 : decode cL_low 3 = .ok (.iand, 1) := by decide +kernel
theorem dL_low_4 : decode cL_low 4 = .ok (.iload_n 1, 1) := by decide +kernel
theorem dL_low_5 : decode cL_low 5 = .ok (.irem, 1) := by decide +kernel
theorem dL_low_6 : decode cL_low 6 = .ok (.ireturn, 1) := by decide +kernel
theorem dL_greater_0 : decode cL_greater 0 = .ok (.iload_n 0, 1) := by decide +kernel
theorem dL_greater_1 : decode cL_greater 1 = .ok (.iload_n 1, 1) := by decide +kernel
theorem dL_greater_2 : decode cL_greater 2 = .ok (.if_icmp .le 7, 3) := by decide +kernel
theorem dL_greater_5 : decode cL_greater 5 = .ok (.iload_n 0, 1) := by decide +kernel
theorem dL_greater_6 : decode cL_greater 6 = .ok (.goto 4, 3) := by decide +kernel
theorem dL_greater_9 : decode cL_greater 9 = .ok (.iload_n 1, 1) := by decide +kernel
theorem dL_greater_10 : decode cL_greater 10 = .ok (.ireturn, 1) := by decide +kernel
theorem dL_rows_0 : decode cL_rows 0 = .ok (.aload_n 0, 1) := by decide +kernel
theorem dL_rows_1 : decode cL_rows 1 = .ok (.iconst 3, 1) := by decide +kernel
theorem dL_rows_2 : decode cL_rows 2 = .ok (.invokevirtual 9, 3) := by decide +kernel
theorem dL_rows_5 : decode cL_rows 5 = .ok (.istore_n 1, 1) := by decide +kernel
theorem dL_rows_6 : decode cL_rows 6 = .ok (.iconst (-1), 1) := by decide +kernel
theorem dL_rows_7 : decode cL_rows 7 = .ok (.istore_n 2, 1) := by decide +kernel
theorem dL_rows_8 : decode cL_rows 8 = .ok (.iconst 3, 1) := by decide +kernel
theorem dL_rows_9 : decode cL_rows 9 = .ok (.newarray .int, 2) := by decide +kernel
theorem dL_rows_11 : decode cL_rows 11 = .ok (.astore_n 3, 1) := by decide +kernel
theorem dL_rows_12 : decode cL_rows 12 = .ok (.iconst 0, 1) := by decide +kernel
theorem dL_rows_13 : decode cL_rows 13 = .ok (.istore 4, 2) := by decide +kernel
theorem dL_rows_15 : decode cL_rows 15 = .ok (.iload 4, 2) := by decide +kernel
theorem dL_rows_17 : decode cL_rows 17 = .ok (.iload_n 1, 1) := by decide +kernel
theorem dL_rows_18 : decode cL_rows 18 = .ok (.if_icmp .ge 313, 3) := by decide +kernel
theorem dL_rows_21 : decode cL_rows 21 = .ok (.aload_n 0, 1) := by decide +kernel
theorem dL_rows_22 : decode cL_rows 22 = .ok (.iload 4, 2) := by decide +kernel
theorem dL_rows_24 : decode cL_rows 24 = .ok (.iconst 0, 1) := by decide +kernel
theorem dL_rows_25 : decode cL_rows 25 = .ok (.invokevirtual 15, 3) := by decide +kernel
theorem dL_rows_28 : decode cL_rows 28 = .ok (.istore 5, 2) := by decide +kernel
theorem dL_rows_30 : decode cL_rows 30 = .ok (.aload_n 0, 1) := by decide +kernel
theorem dL_rows_31 : decode cL_rows 31 = .ok (.iload 4, 2) := by decide +kernel
theorem dL_rows_33 : decode cL_rows 33 = .ok (.iconst 3, 1) := by decide +kernel
theorem dL_rows_34 : decode cL_rows 34 = .ok (.invokevirtual 15, 3) := by decide +kernel
theorem dL_rows_37 : decode cL_rows 37 = .ok (.istore 6, 2) := by decide +kernel
theorem dL_rows_39 : decode cL_rows 39 = .ok (.iconst 0, 1) := by decide +kernel
theorem dL_rows_40 : decode cL_rows 40 = .ok (.istore 7, 2) := by decide +kernel
theorem dL_rows_42 : decode cL_rows 42 = .ok (.iconst 0, 1) := by decide +kernel
theorem dL_rows_43 : decode cL_rows 43 = .ok (.istore 8, 2) := by decide +kernel
theorem dL_rows_45 : decode cL_rows 45 = .ok (.iconst 2, 1) := by decide +kernel
theorem dL_rows_46 : decode cL_rows 46 = .ok (.istore 9, 2) := by decide +kernel
theorem dL_rows_48 : decode cL_rows 48 = .ok (.iload 9, 2) := by decide +kernel
theorem dL_rows_50 : decode cL_rows 50 = .ok (.ifCond .lt 124, 3) := by decide +kernel
theorem dL_rows_53 : decode cL_rows 53 = .ok (.aload_n 0, 1) := by decide +kernel
theorem dL_rows_54 : decode cL_rows 54 = .ok (.iload 9, 2) := by decide +kernel
theorem dL_rows_56 : decode cL_rows 56 = .ok (.iconst 0, 1) := by decide +kernel
theorem dL_rows_57 : decode cL_rows 57 = .ok (.invokevirtual 19, 3) := by decide +kernel
theorem dL_rows_60 : decode cL_rows 60 = .ok (.iload 6, 2) := by decide +kernel
theorem dL_rows_62 : decode cL_rows 62 = .ok (.ishr, 1) := by decide +kernel
theorem dL_rows_63 : decode cL_rows 63 = .ok (.iconst 1, 1) := by decide +kernel
theorem dL_rows_64 : decode cL_rows 64 = .ok (.iand, 1) := by decide +kernel
theorem dL_rows_65 : decode cL_rows 65 = .ok (.ifCond .eq 16, 3) := by decide +kernel
theorem dL_rows_68 : decode cL_rows 68 = .ok (.iload 5, 2) := by decide +kernel
theorem dL_rows_70 : decode cL_rows 70 = .ok (.aload_n 0, 1) := by decide +kernel
theorem dL_rows_71 : decode cL_rows 71 = .ok (.iload 9, 2) := by decide +kernel
theorem dL_rows_73 : decode cL_rows 73 = .ok (.bipush 8, 2) := by decide +kernel
theorem dL_rows_75 : decode cL_rows 75 = .ok (.invokevirtual 19, 3) := by decide +kernel
theorem dL_rows_78 : decode cL_rows 78 = .ok (.if_icmp .gt 7, 3) := by decide +kernel
theorem dL_rows_81 : decode cL_rows 81 = .ok (.iconst 1, 1) := by decide +kernel
theorem dL_rows_82 : decode cL_rows 82 = .ok (.goto 4, 3) := by decide +kernel
theorem dL_rows_85 : decode cL_rows 85 = .ok (.iconst 0, 1) := by decide +kernel
theorem dL_rows_86 : decode cL_rows 86 = .ok (.istore 10, 2) := by decide +kernel
theorem dL_rows_88 : decode cL_rows 88 = .ok (.iload 7, 2) := by decide +kernel
theorem dL_rows_90 : decode cL_rows 90 = .ok (.iload 10, 2) := by decide +kernel
theorem dL_rows_92 : decode cL_rows 92 = .ok (.ifCond .eq 10, 3) := by decide +kernel
theorem dL_rows_95 : decode cL_rows 95 = .ok (.iconst 1, 1) := by decide +kernel
theorem dL_rows_96 : decode cL_rows 96 = .ok (.iload 9, 2) := by decide +kernel
theorem dL_rows_98 : decode cL_rows 98 = .ok (.ishl, 1) := by decide +kernel
theorem dL_rows_99 : decode cL_rows 99 = .ok (.goto 4, 3) := by decide +kernel
theorem dL_rows_102 : decode cL_rows 102 = .ok (.iconst 0, 1) := by decide +kernel
theorem dL_rows_103 : decode cL_rows 103 = .ok (.ior, 1) := by decide +kernel
theorem dL_rows_104 : decode cL_rows 104 = .ok (.istore 7, 2) := by decide +kernel
theorem dL_rows_106 : decode cL_rows 106 = .ok (.aload_n 3, 1) := by decide +kernel
theorem dL_rows_107 : decode cL_rows 107 = .ok (.iload 9, 2) := by decide +kernel
theorem dL_rows_109 : decode cL_rows 109 = .ok (.dup2, 1) := by decide +kernel
theorem dL_rows_110 : decode cL_rows 110 = .ok (.iaload, 1) := by decide +kernel
theorem dL_rows_111 : decode cL_rows 111 = .ok (.iload 10, 2) := by decide +kernel
theorem dL_rows_113 : decode cL_rows 113 = .ok (.ifCond .eq 7, 3) := by decide +kernel
theorem dL_rows_116 : decode cL_rows 116 = .ok (.iconst 0, 1) := by decide +kernel
theorem dL_rows_117 : decode cL_rows 117 = .ok (.goto 4, 3) := by decide +kernel
theorem dL_rows_120 : decode cL_rows 120 = .ok (.iconst 1, 1) := by decide +kernel
theorem dL_rows_121 : decode cL_rows 121 = .ok (.iadd, 1) := by decide +kernel
theorem dL_rows_122 : decode cL_rows 122 = .ok (.iastore, 1) := by decide +kernel
theorem dL_rows_123 : decode cL_rows 123 = .ok (.aload_n 0, 1) := by decide +kernel
theorem dL_rows_124 : decode cL_rows 124 = .ok (.iload 4, 2) := by decide +kernel
theorem dL_rows_126 : decode cL_rows 126 = .ok (.iconst 5, 1) := by decide +kernel
theorem dL_rows_127 : decode cL_rows 127 = .ok (.invokevirtual 15, 3) := by decide +kernel
theorem dL_rows_130 : decode cL_rows 130 = .ok (.iload 9, 2) := by decide +kernel
theorem dL_rows_132 : decode cL_rows 132 = .ok (.ishr, 1) := by decide +kernel
theorem dL_rows_133 : decode cL_rows 133 = .ok (.iconst 1, 1) := by decide +kernel
theorem dL_rows_134 : decode cL_rows 134 = .ok (.iand, 1) := by decide +kernel
theorem dL_rows_135 : decode cL_rows 135 = .ok (.iconst 1, 1) := by decide +kernel
theorem dL_rows_136 : decode cL_rows 136 = .ok (.if_icmp .ne 7, 3) := by decide +kernel
theorem dL_rows_139 : decode cL_rows 139 = .ok (.iconst 1, 1) := by decide +kernel
theorem dL_rows_140 : decode cL_rows 140 = .ok (.goto 4, 3) := by decide +kernel
theorem dL_rows_143 : decode cL_rows 143 = .ok (.iconst 0, 1) := by decide +kernel
theorem dL_rows_144 : decode cL_rows 144 = .ok (.istore 11, 2) := by decide +kernel
theorem dL_rows_146 : decode cL_rows 146 = .ok (.iload 10, 2) := by decide +kernel
theorem dL_rows_148 : decode cL_rows 148 = .ok (.ifCond .eq 8, 3) := by decide +kernel
theorem dL_rows_151 : decode cL_rows 151 = .ok (.iload 8, 2) := by decide +kernel
theorem dL_rows_153 : decode cL_rows 153 = .ok (.goto 13, 3) := by decide +kernel
theorem dL_rows_156 : decode cL_rows 156 = .ok (.iload 11, 2) := by decide +kernel
theorem dL_rows_158 : decode cL_rows 158 = .ok (.ifCond .eq 7, 3) := by decide +kernel
theorem dL_rows_161 : decode cL_rows 161 = .ok (.iconst 2, 1) := by decide +kernel
theorem dL_rows_162 : decode cL_rows 162 = .ok (.goto 4, 3) := by decide +kernel
theorem dL_rows_165 : decode cL_rows 165 = .ok (.iconst 1, 1) := by decide +kernel
theorem dL_rows_166 : decode cL_rows 166 = .ok (.istore 8, 2) := by decide +kernel
theorem dL_rows_168 : decode cL_rows 168 = .ok (.iinc 9 (-1), 3) := by decide +kernel
theorem dL_rows_171 : decode cL_rows 171 = .ok (.goto (-123), 3) := by decide +kernel
theorem dL_rows_174 : decode cL_rows 174 = .ok (.aload_n 0, 1) := by decide +kernel
theorem dL_rows_175 : decode cL_rows 175 = .ok (.iload 4, 2) := by decide +kernel
theorem dL_rows_177 : decode cL_rows 177 = .ok (.bipush 7, 2) := by decide +kernel
theorem dL_rows_179 : decode cL_rows 179 = .ok (.invokevirtual 15, 3) := by decide +kernel
theorem dL_rows_182 : decode cL_rows 182 = .ok (.istore 9, 2) := by decide +kernel
theorem dL_rows_184 : decode cL_rows 184 = .ok (.iload 5, 2) := by decide +kernel
theorem dL_rows_186 : decode cL_rows 186 = .ok (.iload_n 2, 1) := by decide +kernel
theorem dL_rows_187 : decode cL_rows 187 = .ok (.if_icmp .le 95, 3) := by decide +kernel
theorem dL_rows_190 : decode cL_rows 190 = .ok (.iload 5, 2) := by decide +kernel
theorem dL_rows_192 : decode cL_rows 192 = .ok (.aload_n 0, 1) := by decide +kernel
theorem dL_rows_193 : decode cL_rows 193 = .ok (.iconst 0, 1) := by decide +kernel
theorem dL_rows_194 : decode cL_rows 194 = .ok (.invokevirtual 22, 3) := by decide +kernel
theorem dL_rows_197 : decode cL_rows 197 = .ok (.ifCond .ne 13, 3) := by decide +kernel
theorem dL_rows_200 : decode cL_rows 200 = .ok (.aload_n 0, 1) := by decide +kernel
theorem dL_rows_201 : decode cL_rows 201 = .ok (.iload 4, 2) := by decide +kernel
theorem dL_rows_203 : decode cL_rows 203 = .ok (.iconst 2, 1) := by decide +kernel
theorem dL_rows_204 : decode cL_rows 204 = .ok (.invokevirtual 15, 3) := by decide +kernel
theorem dL_rows_207 : decode cL_rows 207 = .ok (.goto 10, 3) := by decide +kernel
theorem dL_rows_210 : decode cL_rows 210 = .ok (.aload_n 0, 1) := by decide +kernel
theorem dL_rows_211 : decode cL_rows 211 = .ok (.iload 4, 2) := by decide +kernel
theorem dL_rows_213 : decode cL_rows 213 = .ok (.iconst 1, 1) := by decide +kernel
theorem dL_rows_214 : decode cL_rows 214 = .ok (.invokevirtual 15, 3) := by decide +kernel
theorem dL_rows_217 : decode cL_rows 217 = .ok (.if_icmp .ne 65, 3) := by decide +kernel
theorem dL_rows_220 : decode cL_rows 220 = .ok (.aload_n 0, 1) := by decide +kernel
theorem dL_rows_221 : decode cL_rows 221 = .ok (.iload 4, 2) := by decide +kernel
theorem dL_rows_223 : decode cL_rows 223 = .ok (.bipush 6, 2) := by decide +kernel
theorem dL_rows_225 : decode cL_rows 225 = .ok (.invokevirtual 15, 3) := by decide +kernel
theorem dL_rows_228 : decode cL_rows 228 = .ok (.iload 7, 2) := by decide +kernel
theorem dL_rows_230 : decode cL_rows 230 = .ok (.if_icmp .ne 52, 3) := by decide +kernel
theorem dL_rows_233 : decode cL_rows 233 = .ok (.iload 9, 2) := by decide +kernel
theorem dL_rows_235 : decode cL_rows 235 = .ok (.iload 8, 2) := by decide +kernel
theorem dL_rows_237 : decode cL_rows 237 = .ok (.if_icmp .eq 15, 3) := by decide +kernel
theorem dL_rows_240 : decode cL_rows 240 = .ok (.iload 8, 2) := by decide +kernel
theorem dL_rows_242 : decode cL_rows 242 = .ok (.iconst 1, 1) := by decide +kernel
theorem dL_rows_243 : decode cL_rows 243 = .ok (.if_icmp .ne 39, 3) := by decide +kernel
theorem dL_rows_246 : decode cL_rows 246 = .ok (.iload 9, 2) := by decide +kernel
theorem dL_rows_248 : decode cL_rows 248 = .ok (.iconst 3, 1) := by decide +kernel
theorem dL_rows_249 : decode cL_rows 249 = .ok (.if_icmp .ne 33, 3) := by decide +kernel
theorem dL_rows_252 : decode cL_rows 252 = .ok (.aload_n 0, 1) := by decide +kernel
theorem dL_rows_253 : decode cL_rows 253 = .ok (.iload 4, 2) := by decide +kernel
theorem dL_rows_255 : decode cL_rows 255 = .ok (.iconst 4, 1) := by decide +kernel
theorem dL_rows_256 : decode cL_rows 256 = .ok (.invokevirtual 15, 3) := by decide +kernel
theorem dL_rows_259 : decode cL_rows 259 = .ok (.iconst 0, 1) := by decide +kernel
theorem dL_rows_260 : decode cL_rows 260 = .ok (.bipush 99, 2) := by decide +kernel
theorem dL_rows_262 : decode cL_rows 262 = .ok (.invokestatic 25, 3) := by decide +kernel
theorem dL_rows_265 : decode cL_rows 265 = .ok (.ifCond .eq 17, 3) := by decide +kernel
theorem dL_rows_268 : decode cL_rows 268 = .ok (.iload 6, 2) := by decide +kernel
theorem dL_rows_270 : decode cL_rows 270 = .ok (.iconst 0, 1) := by decide +kernel
theorem dL_rows_271 : decode cL_rows 271 = .ok (.iconst 3, 1) := by decide +kernel
theorem dL_rows_272 : decode cL_rows 272 = .ok (.invokestatic 25, 3) := by decide +kernel
theorem dL_rows_275 : decode cL_rows 275 = .ok (.ifCond .eq 7, 3) := by decide +kernel
theorem dL_rows_278 : decode cL_rows 278 = .ok (.iconst 1, 1) := by decide +kernel
theorem dL_rows_279 : decode cL_rows 279 = .ok (.goto 4, 3) := by decide +kernel
theorem dL_rows_282 : decode cL_rows 282 = .ok (.iconst 0, 1) := by decide +kernel
theorem dL_rows_283 : decode cL_rows 283 = .ok (.istore 10, 2) := by decide +kernel
theorem dL_rows_285 : decode cL_rows 285 = .ok (.iload 10, 2) := by decide +kernel
theorem dL_rows_287 : decode cL_rows 287 = .ok (.ifCond .eq 33, 3) := by decide +kernel
theorem dL_rows_290 : decode cL_rows 290 = .ok (.aload_n 0, 1) := by decide +kernel
theorem dL_rows_291 : decode cL_rows 291 = .ok (.iload 4, 2) := by decide +kernel
theorem dL_rows_293 : decode cL_rows 293 = .ok (.iconst 2, 1) := by decide +kernel
theorem dL_rows_294 : decode cL_rows 294 = .ok (.invokevirtual 15, 3) := by decide +kernel
theorem dL_rows_297 : decode cL_rows 297 = .ok (.aload_n 0, 1) := by decide +kernel
theorem dL_rows_298 : decode cL_rows 298 = .ok (.iconst 2, 1) := by decide +kernel
theorem dL_rows_299 : decode cL_rows 299 = .ok (.invokevirtual 9, 3) := by decide +kernel
theorem dL_rows_302 : decode cL_rows 302 = .ok (.if_icmp .ge 18, 3) := by decide +kernel
theorem dL_rows_305 : decode cL_rows 305 = .ok (.aload_n 0, 1) := by decide +kernel
theorem dL_rows_306 : decode cL_rows 306 = .ok (.iload 4, 2) := by decide +kernel
theorem dL_rows_308 : decode cL_rows 308 = .ok (.iconst 1, 1) := by decide +kernel
theorem dL_rows_309 : decode cL_rows 309 = .ok (.invokevirtual 15, 3) := by decide +kernel
theorem dL_rows_312 : decode cL_rows 312 = .ok (.aload_n 0, 1) := by decide +kernel
theorem dL_rows_313 : decode cL_rows 313 = .ok (.iconst 1, 1) := by decide +kernel
theorem dL_rows_314 : decode cL_rows 314 = .ok (.invokevirtual 9, 3) := by decide +kernel
theorem dL_rows_317 : decode cL_rows 317 = .ok (.if_icmp .lt 5, 3) := by decide +kernel
theorem dL_rows_320 : decode cL_rows 320 = .ok (.iconst 0, 1) := by decide +kernel
theorem dL_rows_321 : decode cL_rows 321 = .ok (.ireturn, 1) := by decide +kernel
theorem dL_rows_322 : decode cL_rows 322 = .ok (.iload 5, 2) := by decide +kernel
theorem dL_rows_324 : decode cL_rows 324 = .ok (.istore_n 2, 1) := by decide +kernel
theorem dL_rows_325 : decode cL_rows 325 = .ok (.iinc 4 1, 3) := by decide +kernel
theorem dL_rows_328 : decode cL_rows 328 = .ok (.goto (-313), 3) := by decide +kernel
theorem dL_rows_331 : decode cL_rows 331 = .ok (.iconst (-1), 1) := by decide +kernel
theorem dL_rows_332 : decode cL_rows 332 = .ok (.istore 4, 2) := by decide +kernel
theorem dL_rows_334 : decode cL_rows 334 = .ok (.iconst 0, 1) := by decide +kernel
theorem dL_rows_335 : decode cL_rows 335 = .ok (.istore 5, 2) := by decide +kernel
theorem dL_rows_337 : decode cL_rows 337 = .ok (.iload 5, 2) := by decide +kernel
theorem dL_rows_339 : decode cL_rows 339 = .ok (.iconst 3, 1) := by decide +kernel
theorem dL_rows_340 : decode cL_rows 340 = .ok (.if_icmp .ge 38, 3) := by decide +kernel
theorem dL_rows_343 : decode cL_rows 343 = .ok (.aload_n 3, 1) := by decide +kernel
theorem dL_rows_344 : decode cL_rows 344 = .ok (.iload 5, 2) := by decide +kernel
theorem dL_rows_346 : decode cL_rows 346 = .ok (.iaload, 1) := by decide +kernel
theorem dL_rows_347 : decode cL_rows 347 = .ok (.iload 4, 2) := by decide +kernel
theorem dL_rows_349 : decode cL_rows 349 = .ok (.ifCond .ge 7, 3) := by decide +kernel
theorem dL_rows_352 : decode cL_rows 352 = .ok (.iconst 0, 1) := by decide +kernel
theorem dL_rows_353 : decode cL_rows 353 = .ok (.goto 7, 3) := by decide +kernel
theorem dL_rows_356 : decode cL_rows 356 = .ok (.aload_n 3, 1) := by decide +kernel
theorem dL_rows_357 : decode cL_rows 357 = .ok (.iload 4, 2) := by decide +kernel
theorem dL_rows_359 : decode cL_rows 359 = .ok (.iaload, 1) := by decide +kernel
theorem dL_rows_360 : decode cL_rows 360 = .ok (.if_icmp .le 8, 3) := by decide +kernel
theorem dL_rows_363 : decode cL_rows 363 = .ok (.iload 5, 2) := by decide +kernel
theorem dL_rows_365 : decode cL_rows 365 = .ok (.goto 5, 3) := by decide +kernel
theorem dL_rows_368 : decode cL_rows 368 = .ok (.iload 4, 2) := by decide +kernel
theorem dL_rows_370 : decode cL_rows 370 = .ok (.istore 4, 2) := by decide +kernel
theorem dL_rows_372 : decode cL_rows 372 = .ok (.iinc 5 1, 3) := by decide +kernel
theorem dL_rows_375 : decode cL_rows 375 = .ok (.goto (-38), 3) := by decide +kernel
theorem dL_rows_378 : decode cL_rows 378 = .ok (.aload_n 0, 1) := by decide +kernel
theorem dL_rows_379 : decode cL_rows 379 = .ok (.iconst 0, 1) := by decide +kernel
theorem dL_rows_380 : decode cL_rows 380 = .ok (.bipush 10, 2) := by decide +kernel
theorem dL_rows_382 : decode cL_rows 382 = .ok (.invokevirtual 19, 3) := by decide +kernel
theorem dL_rows_385 : decode cL_rows 385 = .ok (.aload_n 3, 1) := by decide +kernel
theorem dL_rows_386 : decode cL_rows 386 = .ok (.iconst 0, 1) := by decide +kernel
theorem dL_rows_387 : decode cL_rows 387 = .ok (.iaload, 1) := by decide +kernel
theorem dL_rows_388 : decode cL_rows 388 = .ok (.if_icmp .ne 57, 3) := by decide +kernel
theorem dL_rows_391 : decode cL_rows 391 = .ok (.aload_n 0, 1) := by decide +kernel
theorem dL_rows_392 : decode cL_rows 392 = .ok (.iconst 1, 1) := by decide +kernel
theorem dL_rows_393 : decode cL_rows 393 = .ok (.bipush 10, 2) := by decide +kernel
theorem dL_rows_395 : decode cL_rows 395 = .ok (.invokevirtual 19, 3) := by decide +kernel
theorem dL_rows_398 : decode cL_rows 398 = .ok (.aload_n 3, 1) := by decide +kernel
theorem dL_rows_399 : decode cL_rows 399 = .ok (.iconst 1, 1) := by decide +kernel
theorem dL_rows_400 : decode cL_rows 400 = .ok (.iaload, 1) := by decide +kernel
theorem dL_rows_401 : decode cL_rows 401 = .ok (.if_icmp .ne 44, 3) := by decide +kernel
theorem dL_rows_404 : decode cL_rows 404 = .ok (.aload_n 0, 1) := by decide +kernel
theorem dL_rows_405 : decode cL_rows 405 = .ok (.iconst 2, 1) := by decide +kernel
theorem dL_rows_406 : decode cL_rows 406 = .ok (.bipush 10, 2) := by decide +kernel
theorem dL_rows_408 : decode cL_rows 408 = .ok (.invokevirtual 19, 3) := by decide +kernel
theorem dL_rows_411 : decode cL_rows 411 = .ok (.aload_n 3, 1) := by decide +kernel
theorem dL_rows_412 : decode cL_rows 412 = .ok (.iconst 2, 1) := by decide +kernel
theorem dL_rows_413 : decode cL_rows 413 = .ok (.iaload, 1) := by decide +kernel
theorem dL_rows_414 : decode cL_rows 414 = .ok (.if_icmp .ne 31, 3) := by decide +kernel
theorem dL_rows_417 : decode cL_rows 417 = .ok (.aload_n 0, 1) := by decide +kernel
theorem dL_rows_418 : decode cL_rows 418 = .ok (.invokevirtual 31, 3) := by decide +kernel
theorem dL_rows_421 : decode cL_rows 421 = .ok (.iload 4, 2) := by decide +kernel
theorem dL_rows_423 : decode cL_rows 423 = .ok (.if_icmp .ne 22, 3) := by decide +kernel
theorem dL_rows_426 : decode cL_rows 426 = .ok (.aload_n 0, 1) := by decide +kernel
theorem dL_rows_427 : decode cL_rows 427 = .ok (.iconst 2, 1) := by decide +kernel
theorem dL_rows_428 : decode cL_rows 428 = .ok (.invokevirtual 9, 3) := by decide +kernel
theorem dL_rows_431 : decode cL_rows 431 = .ok (.iload_n 1, 1) := by decide +kernel
theorem dL_rows_432 : decode cL_rows 432 = .ok (.aload_n 0, 1) := by decide +kernel
theorem dL_rows_433 : decode cL_rows 433 = .ok (.iconst 4, 1) := by decide +kernel
theorem dL_rows_434 : decode cL_rows 434 = .ok (.invokevirtual 9, 3) := by decide +kernel
theorem dL_rows_437 : decode cL_rows 437 = .ok (.iadd, 1) := by decide +kernel
theorem dL_rows_438 : decode cL_rows 438 = .ok (.if_icmp .ne 7, 3) := by decide +kernel
theorem dL_rows_441 : decode cL_rows 441 = .ok (.iconst 1, 1) := by decide +kernel
theorem dL_rows_442 : decode cL_rows 442 = .ok (.goto 4, 3) := by decide +kernel
theorem dL_rows_445 : decode cL_rows 445 = .ok (.iconst 0, 1) := by decide +kernel
theorem dL_rows_446 : decode cL_rows 446 = .ok (.ireturn, 1) := by decide +kernel
theorem dL_in_0 : decode cL_in 0 = .ok (.iload_n 0, 1) := by decide +kernel
theorem dL_in_1 : decode cL_in 1 = .ok (.iload_n 1, 1) := by decide +kernel
theorem dL_in_2 : decode cL_in 2 = .ok (.if_icmp .lt 12, 3) := by decide +kernel
theorem dL_in_5 : decode cL_in 5 = .ok (.iload_n 0, 1) := by decide +kernel
theorem dL_in_6 : decode cL_in 6 = .ok (.iload_n 2, 1) := by decide +kernel
theorem dL_in_7 : decode cL_in 7 = .ok (.if_icmp .gt 7, 3) := by decide +kernel
theorem dL_in_10 : decode cL_in 10 = .ok (.iconst 1, 1) := by decide +kernel
theorem dL_in_11 : decode cL_in 11 = .ok (.goto 4, 3) := by decide +kernel
theorem dL_in_14 : decode cL_in 14 = .ok (.iconst 0, 1) := by decide +kernel
theorem dL_in_15 : decode cL_in 15 = .ok (.ireturn, 1) := by decide +kernel
theorem dL_ways_0 : decode cL_ways 0 = .ok (.aload_n 0, 1) := by decide +kernel
theorem dL_ways_1 : decode cL_ways 1 = .ok (.bipush 7, 2) := by decide +kernel
theorem dL_ways_3 : decode cL_ways 3 = .ok (.invokevirtual 9, 3) := by decide +kernel
theorem dL_ways_6 : decode cL_ways 6 = .ok (.istore_n 1, 1) := by decide +kernel
theorem dL_ways_7 : decode cL_ways 7 = .ok (.iconst 3, 1) := by decide +kernel
theorem dL_ways_8 : decode cL_ways 8 = .ok (.newarray .int, 2) := by decide +kernel
theorem dL_ways_10 : decode cL_ways 10 = .ok (.astore_n 2, 1) := by decide +kernel
theorem dL_ways_11 : decode cL_ways 11 = .ok (.iconst 0, 1) := by decide +kernel
theorem dL_ways_12 : decode cL_ways 12 = .ok (.istore_n 3, 1) := by decide +kernel
theorem dL_ways_13 : decode cL_ways 13 = .ok (.iconst 0, 1) := by decide +kernel
theorem dL_ways_14 : decode cL_ways 14 = .ok (.istore 4, 2) := by decide +kernel
theorem dL_ways_16 : decode cL_ways 16 = .ok (.iload 4, 2) := by decide +kernel
theorem dL_ways_18 : decode cL_ways 18 = .ok (.iload_n 1, 1) := by decide +kernel
theorem dL_ways_19 : decode cL_ways 19 = .ok (.if_icmp .ge 116, 3) := by decide +kernel
theorem dL_ways_22 : decode cL_ways 22 = .ok (.aload_n 0, 1) := by decide +kernel
theorem dL_ways_23 : decode cL_ways 23 = .ok (.iload 4, 2) := by decide +kernel
theorem dL_ways_25 : decode cL_ways 25 = .ok (.iconst 2, 1) := by decide +kernel
theorem dL_ways_26 : decode cL_ways 26 = .ok (.invokevirtual 35, 3) := by decide +kernel
theorem dL_ways_29 : decode cL_ways 29 = .ok (.istore 5, 2) := by decide +kernel
theorem dL_ways_31 : decode cL_ways 31 = .ok (.aload_n 0, 1) := by decide +kernel
theorem dL_ways_32 : decode cL_ways 32 = .ok (.iload 4, 2) := by decide +kernel
theorem dL_ways_34 : decode cL_ways 34 = .ok (.iconst 0, 1) := by decide +kernel
theorem dL_ways_35 : decode cL_ways 35 = .ok (.invokevirtual 35, 3) := by decide +kernel
theorem dL_ways_38 : decode cL_ways 38 = .ok (.istore 6, 2) := by decide +kernel
theorem dL_ways_40 : decode cL_ways 40 = .ok (.aload_n 0, 1) := by decide +kernel
theorem dL_ways_41 : decode cL_ways 41 = .ok (.iload 4, 2) := by decide +kernel
theorem dL_ways_43 : decode cL_ways 43 = .ok (.iconst 3, 1) := by decide +kernel
theorem dL_ways_44 : decode cL_ways 44 = .ok (.invokevirtual 35, 3) := by decide +kernel
theorem dL_ways_47 : decode cL_ways 47 = .ok (.istore 7, 2) := by decide +kernel
theorem dL_ways_49 : decode cL_ways 49 = .ok (.iload 5, 2) := by decide +kernel
theorem dL_ways_51 : decode cL_ways 51 = .ok (.iconst 1, 1) := by decide +kernel
theorem dL_ways_52 : decode cL_ways 52 = .ok (.if_icmp .lt 59, 3) := by decide +kernel
theorem dL_ways_55 : decode cL_ways 55 = .ok (.iload 5, 2) := by decide +kernel
theorem dL_ways_57 : decode cL_ways 57 = .ok (.bipush 9, 2) := by decide +kernel
theorem dL_ways_59 : decode cL_ways 59 = .ok (.if_icmp .gt 52, 3) := by decide +kernel
theorem dL_ways_62 : decode cL_ways 62 = .ok (.iload 5, 2) := by decide +kernel
theorem dL_ways_64 : decode cL_ways 64 = .ok (.iload_n 3, 1) := by decide +kernel
theorem dL_ways_65 : decode cL_ways 65 = .ok (.if_icmp .lt 46, 3) := by decide +kernel
theorem dL_ways_68 : decode cL_ways 68 = .ok (.iload 6, 2) := by decide +kernel
theorem dL_ways_70 : decode cL_ways 70 = .ok (.iconst 1, 1) := by decide +kernel
theorem dL_ways_71 : decode cL_ways 71 = .ok (.if_icmp .ne 8, 3) := by decide +kernel
theorem dL_ways_74 : decode cL_ways 74 = .ok (.iload 7, 2) := by decide +kernel
theorem dL_ways_76 : decode cL_ways 76 = .ok (.ifCond .ne 35, 3) := by decide +kernel
theorem dL_ways_79 : decode cL_ways 79 = .ok (.iload 6, 2) := by decide +kernel
theorem dL_ways_81 : decode cL_ways 81 = .ok (.ifCond .ne 16, 3) := by decide +kernel
theorem dL_ways_84 : decode cL_ways 84 = .ok (.iload 7, 2) := by decide +kernel
theorem dL_ways_86 : decode cL_ways 86 = .ok (.iconst 1, 1) := by decide +kernel
theorem dL_ways_87 : decode cL_ways 87 = .ok (.if_icmp .lt 24, 3) := by decide +kernel
theorem dL_ways_90 : decode cL_ways 90 = .ok (.iload 7, 2) := by decide +kernel
theorem dL_ways_92 : decode cL_ways 92 = .ok (.bipush 8, 2) := by decide +kernel
theorem dL_ways_94 : decode cL_ways 94 = .ok (.if_icmp .gt 17, 3) := by decide +kernel
theorem dL_ways_97 : decode cL_ways 97 = .ok (.aload_n 0, 1) := by decide +kernel
theorem dL_ways_98 : decode cL_ways 98 = .ok (.iload 4, 2) := by decide +kernel
theorem dL_ways_100 : decode cL_ways 100 = .ok (.iconst 4, 1) := by decide +kernel
theorem dL_ways_101 : decode cL_ways 101 = .ok (.invokevirtual 35, 3) := by decide +kernel
theorem dL_ways_104 : decode cL_ways 104 = .ok (.iload 7, 2) := by decide +kernel
theorem dL_ways_106 : decode cL_ways 106 = .ok (.iconst 1, 1) := by decide +kernel
theorem dL_ways_107 : decode cL_ways 107 = .ok (.isub, 1) := by decide +kernel
theorem dL_ways_108 : decode cL_ways 108 = .ok (.if_icmp .ge 5, 3) := by decide +kernel
theorem dL_ways_111 : decode cL_ways 111 = .ok (.iconst 0, 1) := by decide +kernel
theorem dL_ways_112 : decode cL_ways 112 = .ok (.ireturn, 1) := by decide +kernel
theorem dL_ways_113 : decode cL_ways 113 = .ok (.aload_n 2, 1) := by decide +kernel
theorem dL_ways_114 : decode cL_ways 114 = .ok (.aload_n 0, 1) := by decide +kernel
theorem dL_ways_115 : decode cL_ways 115 = .ok (.iload 4, 2) := by decide +kernel
theorem dL_ways_117 : decode cL_ways 117 = .ok (.iconst 1, 1) := by decide +kernel
theorem dL_ways_118 : decode cL_ways 118 = .ok (.invokevirtual 35, 3) := by decide +kernel
theorem dL_ways_121 : decode cL_ways 121 = .ok (.dup2, 1) := by decide +kernel
theorem dL_ways_122 : decode cL_ways 122 = .ok (.iaload, 1) := by decide +kernel
theorem dL_ways_123 : decode cL_ways 123 = .ok (.iconst 1, 1) := by decide +kernel
theorem dL_ways_124 : decode cL_ways 124 = .ok (.iadd, 1) := by decide +kernel
theorem dL_ways_125 : decode cL_ways 125 = .ok (.iastore, 1) := by decide +kernel
theorem dL_ways_126 : decode cL_ways 126 = .ok (.iload 5, 2) := by decide +kernel
theorem dL_ways_128 : decode cL_ways 128 = .ok (.istore_n 3, 1) := by decide +kernel
theorem dL_ways_129 : decode cL_ways 129 = .ok (.iinc 4 1, 3) := by decide +kernel
theorem dL_ways_132 : decode cL_ways 132 = .ok (.goto (-116), 3) := by decide +kernel
theorem dL_ways_135 : decode cL_ways 135 = .ok (.aload_n 0, 1) := by decide +kernel
theorem dL_ways_136 : decode cL_ways 136 = .ok (.iconst 0, 1) := by decide +kernel
theorem dL_ways_137 : decode cL_ways 137 = .ok (.bipush 13, 2) := by decide +kernel
theorem dL_ways_139 : decode cL_ways 139 = .ok (.invokevirtual 19, 3) := by decide +kernel
theorem dL_ways_142 : decode cL_ways 142 = .ok (.aload_n 2, 1) := by decide +kernel
theorem dL_ways_143 : decode cL_ways 143 = .ok (.iconst 0, 1) := by decide +kernel
theorem dL_ways_144 : decode cL_ways 144 = .ok (.iaload, 1) := by decide +kernel
theorem dL_ways_145 : decode cL_ways 145 = .ok (.if_icmp .ne 49, 3) := by decide +kernel
theorem dL_ways_148 : decode cL_ways 148 = .ok (.aload_n 0, 1) := by decide +kernel
theorem dL_ways_149 : decode cL_ways 149 = .ok (.iconst 1, 1) := by decide +kernel
theorem dL_ways_150 : decode cL_ways 150 = .ok (.bipush 13, 2) := by decide +kernel
theorem dL_ways_152 : decode cL_ways 152 = .ok (.invokevirtual 19, 3) := by decide +kernel
theorem dL_ways_155 : decode cL_ways 155 = .ok (.aload_n 2, 1) := by decide +kernel
theorem dL_ways_156 : decode cL_ways 156 = .ok (.iconst 1, 1) := by decide +kernel
theorem dL_ways_157 : decode cL_ways 157 = .ok (.iaload, 1) := by decide +kernel
theorem dL_ways_158 : decode cL_ways 158 = .ok (.if_icmp .ne 36, 3) := by decide +kernel
theorem dL_ways_161 : decode cL_ways 161 = .ok (.aload_n 0, 1) := by decide +kernel
theorem dL_ways_162 : decode cL_ways 162 = .ok (.iconst 2, 1) := by decide +kernel
theorem dL_ways_163 : decode cL_ways 163 = .ok (.bipush 13, 2) := by decide +kernel
theorem dL_ways_165 : decode cL_ways 165 = .ok (.invokevirtual 19, 3) := by decide +kernel
theorem dL_ways_168 : decode cL_ways 168 = .ok (.aload_n 2, 1) := by decide +kernel
theorem dL_ways_169 : decode cL_ways 169 = .ok (.iconst 2, 1) := by decide +kernel
theorem dL_ways_170 : decode cL_ways 170 = .ok (.iaload, 1) := by decide +kernel
theorem dL_ways_171 : decode cL_ways 171 = .ok (.if_icmp .ne 23, 3) := by decide +kernel
theorem dL_ways_174 : decode cL_ways 174 = .ok (.aload_n 0, 1) := by decide +kernel
theorem dL_ways_175 : decode cL_ways 175 = .ok (.iconst 5, 1) := by decide +kernel
theorem dL_ways_176 : decode cL_ways 176 = .ok (.invokevirtual 9, 3) := by decide +kernel
theorem dL_ways_179 : decode cL_ways 179 = .ok (.aload_n 0, 1) := by decide +kernel
theorem dL_ways_180 : decode cL_ways 180 = .ok (.bipush 6, 2) := by decide +kernel
theorem dL_ways_182 : decode cL_ways 182 = .ok (.invokevirtual 9, 3) := by decide +kernel
theorem dL_ways_185 : decode cL_ways 185 = .ok (.iload_n 1, 1) := by decide +kernel
theorem dL_ways_186 : decode cL_ways 186 = .ok (.iadd, 1) := by decide +kernel
theorem dL_ways_187 : decode cL_ways 187 = .ok (.if_icmp .lt 7, 3) := by decide +kernel
theorem dL_ways_190 : decode cL_ways 190 = .ok (.iconst 1, 1) := by decide +kernel
theorem dL_ways_191 : decode cL_ways 191 = .ok (.goto 4, 3) := by decide +kernel
theorem dL_ways_194 : decode cL_ways 194 = .ok (.iconst 0, 1) := by decide +kernel
theorem dL_ways_195 : decode cL_ways 195 = .ok (.ireturn, 1) := by decide +kernel
theorem dL_ticks_0 : decode cL_ticks 0 = .ok (.iconst 3, 1) := by decide +kernel
theorem dL_ticks_1 : decode cL_ticks 1 = .ok (.newarray .int, 2) := by decide +kernel
theorem dL_ticks_3 : decode cL_ticks 3 = .ok (.astore_n 1, 1) := by decide +kernel
theorem dL_ticks_4 : decode cL_ticks 4 = .ok (.iconst 3, 1) := by decide +kernel
theorem dL_ticks_5 : decode cL_ticks 5 = .ok (.newarray .int, 2) := by decide +kernel
theorem dL_ticks_7 : decode cL_ticks 7 = .ok (.astore_n 2, 1) := by decide +kernel
theorem dL_ticks_8 : decode cL_ticks 8 = .ok (.iconst 3, 1) := by decide +kernel
theorem dL_ticks_9 : decode cL_ticks 9 = .ok (.newarray .int, 2) := by decide +kernel
theorem dL_ticks_11 : decode cL_ticks 11 = .ok (.astore_n 3, 1) := by decide +kernel
theorem dL_ticks_12 : decode cL_ticks 12 = .ok (.iconst 0, 1) := by decide +kernel
theorem dL_ticks_13 : decode cL_ticks 13 = .ok (.istore 4, 2) := by decide +kernel
theorem dL_ticks_15 : decode cL_ticks 15 = .ok (.iconst 0, 1) := by decide +kernel
theorem dL_ticks_16 : decode cL_ticks 16 = .ok (.istore 5, 2) := by decide +kernel
theorem dL_ticks_18 : decode cL_ticks 18 = .ok (.iconst 0, 1) := by decide +kernel
theorem dL_ticks_19 : decode cL_ticks 19 = .ok (.istore 6, 2) := by decide +kernel
theorem dL_ticks_21 : decode cL_ticks 21 = .ok (.iload 6, 2) := by decide +kernel
theorem dL_ticks_23 : decode cL_ticks 23 = .ok (.iconst 3, 1) := by decide +kernel
theorem dL_ticks_24 : decode cL_ticks 24 = .ok (.if_icmp .ge 51, 3) := by decide +kernel
theorem dL_ticks_27 : decode cL_ticks 27 = .ok (.aload_n 2, 1) := by decide +kernel
theorem dL_ticks_28 : decode cL_ticks 28 = .ok (.iload 6, 2) := by decide +kernel
theorem dL_ticks_30 : decode cL_ticks 30 = .ok (.aload_n 0, 1) := by decide +kernel
theorem dL_ticks_31 : decode cL_ticks 31 = .ok (.iload 6, 2) := by decide +kernel
theorem dL_ticks_33 : decode cL_ticks 33 = .ok (.iconst 1, 1) := by decide +kernel
theorem dL_ticks_34 : decode cL_ticks 34 = .ok (.invokevirtual 19, 3) := by decide +kernel
theorem dL_ticks_37 : decode cL_ticks 37 = .ok (.iastore, 1) := by decide +kernel
theorem dL_ticks_38 : decode cL_ticks 38 = .ok (.aload_n 3, 1) := by decide +kernel
theorem dL_ticks_39 : decode cL_ticks 39 = .ok (.iload 6, 2) := by decide +kernel
theorem dL_ticks_41 : decode cL_ticks 41 = .ok (.aload_n 0, 1) := by decide +kernel
theorem dL_ticks_42 : decode cL_ticks 42 = .ok (.iload 6, 2) := by decide +kernel
theorem dL_ticks_44 : decode cL_ticks 44 = .ok (.bipush 8, 2) := by decide +kernel
theorem dL_ticks_46 : decode cL_ticks 46 = .ok (.invokevirtual 19, 3) := by decide +kernel
theorem dL_ticks_49 : decode cL_ticks 49 = .ok (.iastore, 1) := by decide +kernel
theorem dL_ticks_50 : decode cL_ticks 50 = .ok (.aload_n 1, 1) := by decide +kernel
theorem dL_ticks_51 : decode cL_ticks 51 = .ok (.iload 6, 2) := by decide +kernel
theorem dL_ticks_53 : decode cL_ticks 53 = .ok (.aload_n 0, 1) := by decide +kernel
theorem dL_ticks_54 : decode cL_ticks 54 = .ok (.iload 6, 2) := by decide +kernel
theorem dL_ticks_56 : decode cL_ticks 56 = .ok (.iconst 3, 1) := by decide +kernel
theorem dL_ticks_57 : decode cL_ticks 57 = .ok (.invokevirtual 19, 3) := by decide +kernel
theorem dL_ticks_60 : decode cL_ticks 60 = .ok (.aload_n 0, 1) := by decide +kernel
theorem dL_ticks_61 : decode cL_ticks 61 = .ok (.iload 6, 2) := by decide +kernel
theorem dL_ticks_63 : decode cL_ticks 63 = .ok (.iconst 5, 1) := by decide +kernel
theorem dL_ticks_64 : decode cL_ticks 64 = .ok (.invokevirtual 19, 3) := by decide +kernel
theorem dL_ticks_67 : decode cL_ticks 67 = .ok (.iadd, 1) := by decide +kernel
theorem dL_ticks_68 : decode cL_ticks 68 = .ok (.iastore, 1) := by decide +kernel
theorem dL_ticks_69 : decode cL_ticks 69 = .ok (.iinc 6 1, 3) := by decide +kernel
theorem dL_ticks_72 : decode cL_ticks 72 = .ok (.goto (-51), 3) := by decide +kernel
theorem dL_ticks_75 : decode cL_ticks 75 = .ok (.aload_n 0, 1) := by decide +kernel
theorem dL_ticks_76 : decode cL_ticks 76 = .ok (.bipush 7, 2) := by decide +kernel
theorem dL_ticks_78 : decode cL_ticks 78 = .ok (.invokevirtual 9, 3) := by decide +kernel
theorem dL_ticks_81 : decode cL_ticks 81 = .ok (.istore 6, 2) := by decide +kernel
theorem dL_ticks_83 : decode cL_ticks 83 = .ok (.iconst 0, 1) := by decide +kernel
theorem dL_ticks_84 : decode cL_ticks 84 = .ok (.istore 7, 2) := by decide +kernel
theorem dL_ticks_86 : decode cL_ticks 86 = .ok (.iload 7, 2) := by decide +kernel
theorem dL_ticks_88 : decode cL_ticks 88 = .ok (.iload 6, 2) := by decide +kernel
theorem dL_ticks_90 : decode cL_ticks 90 = .ok (.if_icmp .ge 98, 3) := by decide +kernel
theorem dL_ticks_93 : decode cL_ticks 93 = .ok (.aload_n 0, 1) := by decide +kernel
theorem dL_ticks_94 : decode cL_ticks 94 = .ok (.iload 7, 2) := by decide +kernel
theorem dL_ticks_96 : decode cL_ticks 96 = .ok (.iconst 2, 1) := by decide +kernel
theorem dL_ticks_97 : decode cL_ticks 97 = .ok (.invokevirtual 35, 3) := by decide +kernel
theorem dL_ticks_100 : decode cL_ticks 100 = .ok (.iconst 1, 1) := by decide +kernel
theorem dL_ticks_101 : decode cL_ticks 101 = .ok (.if_icmp .ne 87, 3) := by decide +kernel
theorem dL_ticks_104 : decode cL_ticks 104 = .ok (.aload_n 0, 1) := by decide +kernel
theorem dL_ticks_105 : decode cL_ticks 105 = .ok (.iload 7, 2) := by decide +kernel
theorem dL_ticks_107 : decode cL_ticks 107 = .ok (.iconst 1, 1) := by decide +kernel
theorem dL_ticks_108 : decode cL_ticks 108 = .ok (.invokevirtual 35, 3) := by decide +kernel
theorem dL_ticks_111 : decode cL_ticks 111 = .ok (.istore 8, 2) := by decide +kernel
theorem dL_ticks_113 : decode cL_ticks 113 = .ok (.aload_n 0, 1) := by decide +kernel
theorem dL_ticks_114 : decode cL_ticks 114 = .ok (.iload 7, 2) := by decide +kernel
theorem dL_ticks_116 : decode cL_ticks 116 = .ok (.iconst 0, 1) := by decide +kernel
theorem dL_ticks_117 : decode cL_ticks 117 = .ok (.invokevirtual 35, 3) := by decide +kernel
theorem dL_ticks_120 : decode cL_ticks 120 = .ok (.ifCond .ne 41, 3) := by decide +kernel
theorem dL_ticks_123 : decode cL_ticks 123 = .ok (.aload_n 1, 1) := by decide +kernel
theorem dL_ticks_124 : decode cL_ticks 124 = .ok (.iload 8, 2) := by decide +kernel
theorem dL_ticks_126 : decode cL_ticks 126 = .ok (.dup2, 1) := by decide +kernel
theorem dL_ticks_127 : decode cL_ticks 127 = .ok (.iaload, 1) := by decide +kernel
theorem dL_ticks_128 : decode cL_ticks 128 = .ok (.aload_n 0, 1) := by decide +kernel
theorem dL_ticks_129 : decode cL_ticks 129 = .ok (.iload 7, 2) := by decide +kernel
theorem dL_ticks_131 : decode cL_ticks 131 = .ok (.iconst 3, 1) := by decide +kernel
theorem dL_ticks_132 : decode cL_ticks 132 = .ok (.invokevirtual 35, 3) := by decide +kernel
theorem dL_ticks_135 : decode cL_ticks 135 = .ok (.iadd, 1) := by decide +kernel
theorem dL_ticks_136 : decode cL_ticks 136 = .ok (.iastore, 1) := by decide +kernel
theorem dL_ticks_137 : decode cL_ticks 137 = .ok (.aload_n 2, 1) := by decide +kernel
theorem dL_ticks_138 : decode cL_ticks 138 = .ok (.iload 8, 2) := by decide +kernel
theorem dL_ticks_140 : decode cL_ticks 140 = .ok (.aload_n 2, 1) := by decide +kernel
theorem dL_ticks_141 : decode cL_ticks 141 = .ok (.iload 8, 2) := by decide +kernel
theorem dL_ticks_143 : decode cL_ticks 143 = .ok (.iaload, 1) := by decide +kernel
theorem dL_ticks_144 : decode cL_ticks 144 = .ok (.aload_n 0, 1) := by decide +kernel
theorem dL_ticks_145 : decode cL_ticks 145 = .ok (.iload 7, 2) := by decide +kernel
theorem dL_ticks_147 : decode cL_ticks 147 = .ok (.iconst 4, 1) := by decide +kernel
theorem dL_ticks_148 : decode cL_ticks 148 = .ok (.invokevirtual 35, 3) := by decide +kernel
theorem dL_ticks_151 : decode cL_ticks 151 = .ok (.invokestatic 38, 3) := by decide +kernel
theorem dL_ticks_154 : decode cL_ticks 154 = .ok (.iastore, 1) := by decide +kernel
theorem dL_ticks_155 : decode cL_ticks 155 = .ok (.iinc 5 1, 3) := by decide +kernel
theorem dL_ticks_158 : decode cL_ticks 158 = .ok (.goto 24, 3) := by decide +kernel
theorem dL_ticks_161 : decode cL_ticks 161 = .ok (.aload_n 3, 1) := by decide +kernel
theorem dL_ticks_162 : decode cL_ticks 162 = .ok (.iload 8, 2) := by decide +kernel
theorem dL_ticks_164 : decode cL_ticks 164 = .ok (.aload_n 3, 1) := by decide +kernel
theorem dL_ticks_165 : decode cL_ticks 165 = .ok (.iload 8, 2) := by decide +kernel
theorem dL_ticks_167 : decode cL_ticks 167 = .ok (.iaload, 1) := by decide +kernel
theorem dL_ticks_168 : decode cL_ticks 168 = .ok (.aload_n 0, 1) := by decide +kernel
theorem dL_ticks_169 : decode cL_ticks 169 = .ok (.iload 7, 2) := by decide +kernel
theorem dL_ticks_171 : decode cL_ticks 171 = .ok (.iconst 4, 1) := by decide +kernel
theorem dL_ticks_172 : decode cL_ticks 172 = .ok (.invokevirtual 35, 3) := by decide +kernel
theorem dL_ticks_175 : decode cL_ticks 175 = .ok (.invokestatic 38, 3) := by decide +kernel
theorem dL_ticks_178 : decode cL_ticks 178 = .ok (.iastore, 1) := by decide +kernel
theorem dL_ticks_179 : decode cL_ticks 179 = .ok (.iinc 4 1, 3) := by decide +kernel
theorem dL_ticks_182 : decode cL_ticks 182 = .ok (.iinc 7 1, 3) := by decide +kernel
theorem dL_ticks_185 : decode cL_ticks 185 = .ok (.goto (-99), 3) := by decide +kernel
theorem dL_ticks_188 : decode cL_ticks 188 = .ok (.aload_n 0, 1) := by decide +kernel
theorem dL_ticks_189 : decode cL_ticks 189 = .ok (.iconst 0, 1) := by decide +kernel
theorem dL_ticks_190 : decode cL_ticks 190 = .ok (.invokevirtual 9, 3) := by decide +kernel
theorem dL_ticks_193 : decode cL_ticks 193 = .ok (.istore 7, 2) := by decide +kernel
theorem dL_ticks_195 : decode cL_ticks 195 = .ok (.aload_n 0, 1) := by decide +kernel
theorem dL_ticks_196 : decode cL_ticks 196 = .ok (.iconst 5, 1) := by decide +kernel
theorem dL_ticks_197 : decode cL_ticks 197 = .ok (.invokevirtual 9, 3) := by decide +kernel
theorem dL_ticks_200 : decode cL_ticks 200 = .ok (.istore 8, 2) := by decide +kernel
theorem dL_ticks_202 : decode cL_ticks 202 = .ok (.aload_n 0, 1) := by decide +kernel
theorem dL_ticks_203 : decode cL_ticks 203 = .ok (.bipush 6, 2) := by decide +kernel
theorem dL_ticks_205 : decode cL_ticks 205 = .ok (.invokevirtual 9, 3) := by decide +kernel
theorem dL_ticks_208 : decode cL_ticks 208 = .ok (.istore 9, 2) := by decide +kernel
theorem dL_ticks_210 : decode cL_ticks 210 = .ok (.aload_n 0, 1) := by decide +kernel
theorem dL_ticks_211 : decode cL_ticks 211 = .ok (.bipush 8, 2) := by decide +kernel
theorem dL_ticks_213 : decode cL_ticks 213 = .ok (.invokevirtual 9, 3) := by decide +kernel
theorem dL_ticks_216 : decode cL_ticks 216 = .ok (.istore 10, 2) := by decide +kernel
theorem dL_ticks_218 : decode cL_ticks 218 = .ok (.aload_n 0, 1) := by decide +kernel
theorem dL_ticks_219 : decode cL_ticks 219 = .ok (.bipush 9, 2) := by decide +kernel
theorem dL_ticks_221 : decode cL_ticks 221 = .ok (.invokevirtual 9, 3) := by decide +kernel
theorem dL_ticks_224 : decode cL_ticks 224 = .ok (.istore 11, 2) := by decide +kernel
theorem dL_ticks_226 : decode cL_ticks 226 = .ok (.aload_n 0, 1) := by decide +kernel
theorem dL_ticks_227 : decode cL_ticks 227 = .ok (.iconst 0, 1) := by decide +kernel
theorem dL_ticks_228 : decode cL_ticks 228 = .ok (.iconst 3, 1) := by decide +kernel
theorem dL_ticks_229 : decode cL_ticks 229 = .ok (.invokevirtual 19, 3) := by decide +kernel
theorem dL_ticks_232 : decode cL_ticks 232 = .ok (.aload_n 0, 1) := by decide +kernel
theorem dL_ticks_233 : decode cL_ticks 233 = .ok (.iconst 1, 1) := by decide +kernel
theorem dL_ticks_234 : decode cL_ticks 234 = .ok (.iconst 3, 1) := by decide +kernel
theorem dL_ticks_235 : decode cL_ticks 235 = .ok (.invokevirtual 19, 3) := by decide +kernel
theorem dL_ticks_238 : decode cL_ticks 238 = .ok (.iadd, 1) := by decide +kernel
theorem dL_ticks_239 : decode cL_ticks 239 = .ok (.aload_n 0, 1) := by decide +kernel
theorem dL_ticks_240 : decode cL_ticks 240 = .ok (.iconst 2, 1) := by decide +kernel
theorem dL_ticks_241 : decode cL_ticks 241 = .ok (.iconst 3, 1) := by decide +kernel
theorem dL_ticks_242 : decode cL_ticks 242 = .ok (.invokevirtual 19, 3) := by decide +kernel
theorem dL_ticks_245 : decode cL_ticks 245 = .ok (.iadd, 1) := by decide +kernel
theorem dL_ticks_246 : decode cL_ticks 246 = .ok (.istore 12, 2) := by decide +kernel
theorem dL_ticks_248 : decode cL_ticks 248 = .ok (.aload_n 0, 1) := by decide +kernel
theorem dL_ticks_249 : decode cL_ticks 249 = .ok (.iconst 1, 1) := by decide +kernel
theorem dL_ticks_250 : decode cL_ticks 250 = .ok (.invokevirtual 41, 3) := by decide +kernel
theorem dL_ticks_253 : decode cL_ticks 253 = .ok (.istore 13, 2) := by decide +kernel
theorem dL_ticks_255 : decode cL_ticks 255 = .ok (.aload_n 0, 1) := by decide +kernel
theorem dL_ticks_256 : decode cL_ticks 256 = .ok (.iconst 0, 1) := by decide +kernel
theorem dL_ticks_257 : decode cL_ticks 257 = .ok (.invokevirtual 9, 3) := by decide +kernel
theorem dL_ticks_260 : decode cL_ticks 260 = .ok (.iload 7, 2) := by decide +kernel
theorem dL_ticks_262 : decode cL_ticks 262 = .ok (.iconst 1, 1) := by decide +kernel
theorem dL_ticks_263 : decode cL_ticks 263 = .ok (.iadd, 1) := by decide +kernel
theorem dL_ticks_264 : decode cL_ticks 264 = .ok (.if_icmp .ne 80, 3) := by decide +kernel
theorem dL_ticks_267 : decode cL_ticks 267 = .ok (.aload_n 0, 1) := by decide +kernel
theorem dL_ticks_268 : decode cL_ticks 268 = .ok (.bipush 9, 2) := by decide +kernel
theorem dL_ticks_270 : decode cL_ticks 270 = .ok (.invokevirtual 9, 3) := by decide +kernel
theorem dL_ticks_273 : decode cL_ticks 273 = .ok (.iload 11, 2) := by decide +kernel
theorem dL_ticks_275 : decode cL_ticks 275 = .ok (.iload 4, 2) := by decide +kernel
theorem dL_ticks_277 : decode cL_ticks 277 = .ok (.iadd, 1) := by decide +kernel
theorem dL_ticks_278 : decode cL_ticks 278 = .ok (.if_icmp .ne 66, 3) := by decide +kernel
theorem dL_ticks_281 : decode cL_ticks 281 = .ok (.aload_n 0, 1) := by decide +kernel
theorem dL_ticks_282 : decode cL_ticks 282 = .ok (.iconst 5, 1) := by decide +kernel
theorem dL_ticks_283 : decode cL_ticks 283 = .ok (.invokevirtual 9, 3) := by decide +kernel
theorem dL_ticks_286 : decode cL_ticks 286 = .ok (.iload 8, 2) := by decide +kernel
theorem dL_ticks_288 : decode cL_ticks 288 = .ok (.isub, 1) := by decide +kernel
theorem dL_ticks_289 : decode cL_ticks 289 = .ok (.iload 5, 2) := by decide +kernel
theorem dL_ticks_291 : decode cL_ticks 291 = .ok (.aload_n 0, 1) := by decide +kernel
theorem dL_ticks_292 : decode cL_ticks 292 = .ok (.bipush 8, 2) := by decide +kernel
theorem dL_ticks_294 : decode cL_ticks 294 = .ok (.invokevirtual 9, 3) := by decide +kernel
theorem dL_ticks_297 : decode cL_ticks 297 = .ok (.iadd, 1) := by decide +kernel
theorem dL_ticks_298 : decode cL_ticks 298 = .ok (.iload 10, 2) := by decide +kernel
theorem dL_ticks_300 : decode cL_ticks 300 = .ok (.isub, 1) := by decide +kernel
theorem dL_ticks_301 : decode cL_ticks 301 = .ok (.if_icmp .ne 43, 3) := by decide +kernel
theorem dL_ticks_304 : decode cL_ticks 304 = .ok (.aload_n 0, 1) := by decide +kernel
theorem dL_ticks_305 : decode cL_ticks 305 = .ok (.bipush 7, 2) := by decide +kernel
theorem dL_ticks_307 : decode cL_ticks 307 = .ok (.invokevirtual 9, 3) := by decide +kernel
theorem dL_ticks_310 : decode cL_ticks 310 = .ok (.iload 6, 2) := by decide +kernel
theorem dL_ticks_312 : decode cL_ticks 312 = .ok (.iload 4, 2) := by decide +kernel
theorem dL_ticks_314 : decode cL_ticks 314 = .ok (.isub, 1) := by decide +kernel
theorem dL_ticks_315 : decode cL_ticks 315 = .ok (.iload 5, 2) := by decide +kernel
theorem dL_ticks_317 : decode cL_ticks 317 = .ok (.isub, 1) := by decide +kernel
theorem dL_ticks_318 : decode cL_ticks 318 = .ok (.aload_n 0, 1) := by decide +kernel
theorem dL_ticks_319 : decode cL_ticks 319 = .ok (.iconst 5, 1) := by decide +kernel
theorem dL_ticks_320 : decode cL_ticks 320 = .ok (.invokevirtual 9, 3) := by decide +kernel
theorem dL_ticks_323 : decode cL_ticks 323 = .ok (.iload 8, 2) := by decide +kernel
theorem dL_ticks_325 : decode cL_ticks 325 = .ok (.isub, 1) := by decide +kernel
theorem dL_ticks_326 : decode cL_ticks 326 = .ok (.iadd, 1) := by decide +kernel
theorem dL_ticks_327 : decode cL_ticks 327 = .ok (.aload_n 0, 1) := by decide +kernel
theorem dL_ticks_328 : decode cL_ticks 328 = .ok (.bipush 6, 2) := by decide +kernel
theorem dL_ticks_330 : decode cL_ticks 330 = .ok (.invokevirtual 9, 3) := by decide +kernel
theorem dL_ticks_333 : decode cL_ticks 333 = .ok (.iload 9, 2) := by decide +kernel
theorem dL_ticks_335 : decode cL_ticks 335 = .ok (.isub, 1) := by decide +kernel
theorem dL_ticks_336 : decode cL_ticks 336 = .ok (.isub, 1) := by decide +kernel
theorem dL_ticks_337 : decode cL_ticks 337 = .ok (.if_icmp .ne 7, 3) := by decide +kernel
theorem dL_ticks_340 : decode cL_ticks 340 = .ok (.iconst 1, 1) := by decide +kernel
theorem dL_ticks_341 : decode cL_ticks 341 = .ok (.goto 4, 3) := by decide +kernel
theorem dL_ticks_344 : decode cL_ticks 344 = .ok (.iconst 0, 1) := by decide +kernel
theorem dL_ticks_345 : decode cL_ticks 345 = .ok (.istore 14, 2) := by decide +kernel
theorem dL_ticks_347 : decode cL_ticks 347 = .ok (.iload 14, 2) := by decide +kernel
theorem dL_ticks_349 : decode cL_ticks 349 = .ok (.ifCond .eq 48, 3) := by decide +kernel
theorem dL_ticks_352 : decode cL_ticks 352 = .ok (.iload 13, 2) := by decide +kernel
theorem dL_ticks_354 : decode cL_ticks 354 = .ok (.aload_n 0, 1) := by decide +kernel
theorem dL_ticks_355 : decode cL_ticks 355 = .ok (.iconst 0, 1) := by decide +kernel
theorem dL_ticks_356 : decode cL_ticks 356 = .ok (.iconst 3, 1) := by decide +kernel
theorem dL_ticks_357 : decode cL_ticks 357 = .ok (.invokevirtual 19, 3) := by decide +kernel
theorem dL_ticks_360 : decode cL_ticks 360 = .ok (.aload_n 0, 1) := by decide +kernel
theorem dL_ticks_361 : decode cL_ticks 361 = .ok (.iconst 1, 1) := by decide +kernel
theorem dL_ticks_362 : decode cL_ticks 362 = .ok (.iconst 3, 1) := by decide +kernel
theorem dL_ticks_363 : decode cL_ticks 363 = .ok (.invokevirtual 19, 3) := by decide +kernel
theorem dL_ticks_366 : decode cL_ticks 366 = .ok (.iadd, 1) := by decide +kernel
theorem dL_ticks_367 : decode cL_ticks 367 = .ok (.aload_n 0, 1) := by decide +kernel
theorem dL_ticks_368 : decode cL_ticks 368 = .ok (.iconst 2, 1) := by decide +kernel
theorem dL_ticks_369 : decode cL_ticks 369 = .ok (.iconst 3, 1) := by decide +kernel
theorem dL_ticks_370 : decode cL_ticks 370 = .ok (.invokevirtual 19, 3) := by decide +kernel
theorem dL_ticks_373 : decode cL_ticks 373 = .ok (.iadd, 1) := by decide +kernel
theorem dL_ticks_374 : decode cL_ticks 374 = .ok (.iload 12, 2) := by decide +kernel
theorem dL_ticks_376 : decode cL_ticks 376 = .ok (.isub, 1) := by decide +kernel
theorem dL_ticks_377 : decode cL_ticks 377 = .ok (.if_icmp .ne 20, 3) := by decide +kernel
theorem dL_ticks_380 : decode cL_ticks 380 = .ok (.aload_n 0, 1) := by decide +kernel
theorem dL_ticks_381 : decode cL_ticks 381 = .ok (.bipush 8, 2) := by decide +kernel
theorem dL_ticks_383 : decode cL_ticks 383 = .ok (.invokevirtual 9, 3) := by decide +kernel
theorem dL_ticks_386 : decode cL_ticks 386 = .ok (.iload 10, 2) := by decide +kernel
theorem dL_ticks_388 : decode cL_ticks 388 = .ok (.isub, 1) := by decide +kernel
theorem dL_ticks_389 : decode cL_ticks 389 = .ok (.iconst 3, 1) := by decide +kernel
theorem dL_ticks_390 : decode cL_ticks 390 = .ok (.if_icmp .gt 7, 3) := by decide +kernel
theorem dL_ticks_393 : decode cL_ticks 393 = .ok (.iconst 1, 1) := by decide +kernel
theorem dL_ticks_394 : decode cL_ticks 394 = .ok (.goto 4, 3) := by decide +kernel
theorem dL_ticks_397 : decode cL_ticks 397 = .ok (.iconst 0, 1) := by decide +kernel
theorem dL_ticks_398 : decode cL_ticks 398 = .ok (.istore 14, 2) := by decide +kernel
theorem dL_ticks_400 : decode cL_ticks 400 = .ok (.iconst 0, 1) := by decide +kernel
theorem dL_ticks_401 : decode cL_ticks 401 = .ok (.istore 15, 2) := by decide +kernel
theorem dL_ticks_403 : decode cL_ticks 403 = .ok (.iload 15, 2) := by decide +kernel
theorem dL_ticks_405 : decode cL_ticks 405 = .ok (.iconst 3, 1) := by decide +kernel
theorem dL_ticks_406 : decode cL_ticks 406 = .ok (.if_icmp .ge 171, 3) := by decide +kernel
theorem dL_ticks_409 : decode cL_ticks 409 = .ok (.iload 14, 2) := by decide +kernel
theorem dL_ticks_411 : decode cL_ticks 411 = .ok (.ifCond .eq 166, 3) := by decide +kernel
theorem dL_ticks_414 : decode cL_ticks 414 = .ok (.aload_n 0, 1) := by decide +kernel
theorem dL_ticks_415 : decode cL_ticks 415 = .ok (.iload 15, 2) := by decide +kernel
theorem dL_ticks_417 : decode cL_ticks 417 = .ok (.iconst 3, 1) := by decide +kernel
theorem dL_ticks_418 : decode cL_ticks 418 = .ok (.invokevirtual 19, 3) := by decide +kernel
theorem dL_ticks_421 : decode cL_ticks 421 = .ok (.aload_n 0, 1) := by decide +kernel
theorem dL_ticks_422 : decode cL_ticks 422 = .ok (.iload 15, 2) := by decide +kernel
theorem dL_ticks_424 : decode cL_ticks 424 = .ok (.iconst 5, 1) := by decide +kernel
theorem dL_ticks_425 : decode cL_ticks 425 = .ok (.invokevirtual 19, 3) := by decide +kernel
theorem dL_ticks_428 : decode cL_ticks 428 = .ok (.iadd, 1) := by decide +kernel
theorem dL_ticks_429 : decode cL_ticks 429 = .ok (.aload_n 1, 1) := by decide +kernel
theorem dL_ticks_430 : decode cL_ticks 430 = .ok (.iload 15, 2) := by decide +kernel
theorem dL_ticks_432 : decode cL_ticks 432 = .ok (.iaload, 1) := by decide +kernel
theorem dL_ticks_433 : decode cL_ticks 433 = .ok (.if_icmp .ne 66, 3) := by decide +kernel
theorem dL_ticks_436 : decode cL_ticks 436 = .ok (.aload_n 0, 1) := by decide +kernel
theorem dL_ticks_437 : decode cL_ticks 437 = .ok (.iload 15, 2) := by decide +kernel
theorem dL_ticks_439 : decode cL_ticks 439 = .ok (.iconst 1, 1) := by decide +kernel
theorem dL_ticks_440 : decode cL_ticks 440 = .ok (.invokevirtual 19, 3) := by decide +kernel
theorem dL_ticks_443 : decode cL_ticks 443 = .ok (.aload_n 2, 1) := by decide +kernel
theorem dL_ticks_444 : decode cL_ticks 444 = .ok (.iload 15, 2) := by decide +kernel
theorem dL_ticks_446 : decode cL_ticks 446 = .ok (.iaload, 1) := by decide +kernel
theorem dL_ticks_447 : decode cL_ticks 447 = .ok (.if_icmp .ne 52, 3) := by decide +kernel
theorem dL_ticks_450 : decode cL_ticks 450 = .ok (.aload_n 0, 1) := by decide +kernel
theorem dL_ticks_451 : decode cL_ticks 451 = .ok (.iload 15, 2) := by decide +kernel
theorem dL_ticks_453 : decode cL_ticks 453 = .ok (.bipush 8, 2) := by decide +kernel
theorem dL_ticks_455 : decode cL_ticks 455 = .ok (.invokevirtual 19, 3) := by decide +kernel
theorem dL_ticks_458 : decode cL_ticks 458 = .ok (.aload_n 3, 1) := by decide +kernel
theorem dL_ticks_459 : decode cL_ticks 459 = .ok (.iload 15, 2) := by decide +kernel
theorem dL_ticks_461 : decode cL_ticks 461 = .ok (.iaload, 1) := by decide +kernel
theorem dL_ticks_462 : decode cL_ticks 462 = .ok (.if_icmp .ne 37, 3) := by decide +kernel
theorem dL_ticks_465 : decode cL_ticks 465 = .ok (.aload_n 0, 1) := by decide +kernel
theorem dL_ticks_466 : decode cL_ticks 466 = .ok (.iload 15, 2) := by decide +kernel
theorem dL_ticks_468 : decode cL_ticks 468 = .ok (.bipush 8, 2) := by decide +kernel
theorem dL_ticks_470 : decode cL_ticks 470 = .ok (.invokevirtual 19, 3) := by decide +kernel
theorem dL_ticks_473 : decode cL_ticks 473 = .ok (.aload_n 0, 1) := by decide +kernel
theorem dL_ticks_474 : decode cL_ticks 474 = .ok (.iload 15, 2) := by decide +kernel
theorem dL_ticks_476 : decode cL_ticks 476 = .ok (.iconst 1, 1) := by decide +kernel
theorem dL_ticks_477 : decode cL_ticks 477 = .ok (.invokevirtual 19, 3) := by decide +kernel
theorem dL_ticks_480 : decode cL_ticks 480 = .ok (.if_icmp .gt 19, 3) := by decide +kernel
theorem dL_ticks_483 : decode cL_ticks 483 = .ok (.aload_n 0, 1) := by decide +kernel
theorem dL_ticks_484 : decode cL_ticks 484 = .ok (.iload 15, 2) := by decide +kernel
theorem dL_ticks_486 : decode cL_ticks 486 = .ok (.iconst 2, 1) := by decide +kernel
theorem dL_ticks_487 : decode cL_ticks 487 = .ok (.invokevirtual 19, 3) := by decide +kernel
theorem dL_ticks_490 : decode cL_ticks 490 = .ok (.bipush 20, 2) := by decide +kernel
theorem dL_ticks_492 : decode cL_ticks 492 = .ok (.if_icmp .gt 7, 3) := by decide +kernel
theorem dL_ticks_495 : decode cL_ticks 495 = .ok (.iconst 1, 1) := by decide +kernel
theorem dL_ticks_496 : decode cL_ticks 496 = .ok (.goto 4, 3) := by decide +kernel
theorem dL_ticks_499 : decode cL_ticks 499 = .ok (.iconst 0, 1) := by decide +kernel
theorem dL_ticks_500 : decode cL_ticks 500 = .ok (.istore 14, 2) := by decide +kernel
theorem dL_ticks_502 : decode cL_ticks 502 = .ok (.iload 14, 2) := by decide +kernel
theorem dL_ticks_504 : decode cL_ticks 504 = .ok (.ifCond .eq 64, 3) := by decide +kernel
theorem dL_ticks_507 : decode cL_ticks 507 = .ok (.aload_n 0, 1) := by decide +kernel
theorem dL_ticks_508 : decode cL_ticks 508 = .ok (.iload 15, 2) := by decide +kernel
theorem dL_ticks_510 : decode cL_ticks 510 = .ok (.bipush 6, 2) := by decide +kernel
theorem dL_ticks_512 : decode cL_ticks 512 = .ok (.invokevirtual 19, 3) := by decide +kernel
theorem dL_ticks_515 : decode cL_ticks 515 = .ok (.aload_n 0, 1) := by decide +kernel
theorem dL_ticks_516 : decode cL_ticks 516 = .ok (.iload 15, 2) := by decide +kernel
theorem dL_ticks_518 : decode cL_ticks 518 = .ok (.bipush 7, 2) := by decide +kernel
theorem dL_ticks_520 : decode cL_ticks 520 = .ok (.invokevirtual 19, 3) := by decide +kernel
theorem dL_ticks_523 : decode cL_ticks 523 = .ok (.iadd, 1) := by decide +kernel
theorem dL_ticks_524 : decode cL_ticks 524 = .ok (.iconst 2, 1) := by decide +kernel
theorem dL_ticks_525 : decode cL_ticks 525 = .ok (.aload_n 0, 1) := by decide +kernel
theorem dL_ticks_526 : decode cL_ticks 526 = .ok (.iload 15, 2) := by decide +kernel
theorem dL_ticks_528 : decode cL_ticks 528 = .ok (.iconst 3, 1) := by decide +kernel
theorem dL_ticks_529 : decode cL_ticks 529 = .ok (.invokevirtual 19, 3) := by decide +kernel
theorem dL_ticks_532 : decode cL_ticks 532 = .ok (.imul, 1) := by decide +kernel
theorem dL_ticks_533 : decode cL_ticks 533 = .ok (.if_icmp .gt 35, 3) := by decide +kernel
theorem dL_ticks_536 : decode cL_ticks 536 = .ok (.aload_n 0, 1) := by decide +kernel
theorem dL_ticks_537 : decode cL_ticks 537 = .ok (.iconst 5, 1) := by decide +kernel
theorem dL_ticks_538 : decode cL_ticks 538 = .ok (.invokevirtual 22, 3) := by decide +kernel
theorem dL_ticks_541 : decode cL_ticks 541 = .ok (.ifCond .eq 23, 3) := by decide +kernel
theorem dL_ticks_544 : decode cL_ticks 544 = .ok (.aload_n 0, 1) := by decide +kernel
theorem dL_ticks_545 : decode cL_ticks 545 = .ok (.iload 15, 2) := by decide +kernel
theorem dL_ticks_547 : decode cL_ticks 547 = .ok (.iconst 3, 1) := by decide +kernel
theorem dL_ticks_548 : decode cL_ticks 548 = .ok (.invokevirtual 19, 3) := by decide +kernel
theorem dL_ticks_551 : decode cL_ticks 551 = .ok (.ifCond .gt 13, 3) := by decide +kernel
theorem dL_ticks_554 : decode cL_ticks 554 = .ok (.aload_n 0, 1) := by decide +kernel
theorem dL_ticks_555 : decode cL_ticks 555 = .ok (.iload 15, 2) := by decide +kernel
theorem dL_ticks_557 : decode cL_ticks 557 = .ok (.iconst 1, 1) := by decide +kernel
theorem dL_ticks_558 : decode cL_ticks 558 = .ok (.invokevirtual 19, 3) := by decide +kernel
theorem dL_ticks_561 : decode cL_ticks 561 = .ok (.ifCond .ge 7, 3) := by decide +kernel
theorem dL_ticks_564 : decode cL_ticks 564 = .ok (.iconst 1, 1) := by decide +kernel
theorem dL_ticks_565 : decode cL_ticks 565 = .ok (.goto 4, 3) := by decide +kernel
theorem dL_ticks_568 : decode cL_ticks 568 = .ok (.iconst 0, 1) := by decide +kernel
theorem dL_ticks_569 : decode cL_ticks 569 = .ok (.istore 14, 2) := by decide +kernel
theorem dL_ticks_571 : decode cL_ticks 571 = .ok (.iinc 15 1, 3) := by decide +kernel
theorem dL_ticks_574 : decode cL_ticks 574 = .ok (.goto (-171), 3) := by decide +kernel
theorem dL_ticks_577 : decode cL_ticks 577 = .ok (.iload 14, 2) := by decide +kernel
theorem dL_ticks_579 : decode cL_ticks 579 = .ok (.ireturn, 1) := by decide +kernel
theorem dL_sweeps_0 : decode cL_sweeps 0 = .ok (.aload_n 0, 1) := by decide +kernel
theorem dL_sweeps_1 : decode cL_sweeps 1 = .ok (.iconst 3, 1) := by decide +kernel
theorem dL_sweeps_2 : decode cL_sweeps 2 = .ok (.invokevirtual 9, 3) := by decide +kernel
theorem dL_sweeps_5 : decode cL_sweeps 5 = .ok (.istore_n 1, 1) := by decide +kernel
theorem dL_sweeps_6 : decode cL_sweeps 6 = .ok (.iconst 0, 1) := by decide +kernel
theorem dL_sweeps_7 : decode cL_sweeps 7 = .ok (.istore_n 2, 1) := by decide +kernel
theorem dL_sweeps_8 : decode cL_sweeps 8 = .ok (.iconst 3, 1) := by decide +kernel
theorem dL_sweeps_9 : decode cL_sweeps 9 = .ok (.newarray .int, 2) := by decide +kernel
theorem dL_sweeps_11 : decode cL_sweeps 11 = .ok (.astore_n 3, 1) := by decide +kernel
theorem dL_sweeps_12 : decode cL_sweeps 12 = .ok (.iconst 0, 1) := by decide +kernel
theorem dL_sweeps_13 : decode cL_sweeps 13 = .ok (.istore 4, 2) := by decide +kernel
theorem dL_sweeps_15 : decode cL_sweeps 15 = .ok (.iload 4, 2) := by decide +kernel
theorem dL_sweeps_17 : decode cL_sweeps 17 = .ok (.iload_n 1, 1) := by decide +kernel
theorem dL_sweeps_18 : decode cL_sweeps 18 = .ok (.if_icmp .ge 108, 3) := by decide +kernel
theorem dL_sweeps_21 : decode cL_sweeps 21 = .ok (.aload_n 0, 1) := by decide +kernel
theorem dL_sweeps_22 : decode cL_sweeps 22 = .ok (.iload 4, 2) := by decide +kernel
theorem dL_sweeps_24 : decode cL_sweeps 24 = .ok (.bipush 7, 2) := by decide +kernel
theorem dL_sweeps_26 : decode cL_sweeps 26 = .ok (.invokevirtual 15, 3) := by decide +kernel
theorem dL_sweeps_29 : decode cL_sweeps 29 = .ok (.ifCond .ne 7, 3) := by decide +kernel
theorem dL_sweeps_32 : decode cL_sweeps 32 = .ok (.iconst 1, 1) := by decide +kernel
theorem dL_sweeps_33 : decode cL_sweeps 33 = .ok (.goto 4, 3) := by decide +kernel
theorem dL_sweeps_36 : decode cL_sweeps 36 = .ok (.iconst 0, 1) := by decide +kernel
theorem dL_sweeps_37 : decode cL_sweeps 37 = .ok (.istore 5, 2) := by decide +kernel
theorem dL_sweeps_39 : decode cL_sweeps 39 = .ok (.iload_n 2, 1) := by decide +kernel
theorem dL_sweeps_40 : decode cL_sweeps 40 = .ok (.iload 5, 2) := by decide +kernel
theorem dL_sweeps_42 : decode cL_sweeps 42 = .ok (.ifCond .eq 7, 3) := by decide +kernel
theorem dL_sweeps_45 : decode cL_sweeps 45 = .ok (.iconst 1, 1) := by decide +kernel
theorem dL_sweeps_46 : decode cL_sweeps 46 = .ok (.goto 4, 3) := by decide +kernel
theorem dL_sweeps_49 : decode cL_sweeps 49 = .ok (.iconst 0, 1) := by decide +kernel
theorem dL_sweeps_50 : decode cL_sweeps 50 = .ok (.iadd, 1) := by decide +kernel
theorem dL_sweeps_51 : decode cL_sweeps 51 = .ok (.istore_n 2, 1) := by decide +kernel
theorem dL_sweeps_52 : decode cL_sweeps 52 = .ok (.iconst 0, 1) := by decide +kernel
theorem dL_sweeps_53 : decode cL_sweeps 53 = .ok (.istore 6, 2) := by decide +kernel
theorem dL_sweeps_55 : decode cL_sweeps 55 = .ok (.iload 6, 2) := by decide +kernel
theorem dL_sweeps_57 : decode cL_sweeps 57 = .ok (.iconst 3, 1) := by decide +kernel
theorem dL_sweeps_58 : decode cL_sweeps 58 = .ok (.if_icmp .ge 62, 3) := by decide +kernel
theorem dL_sweeps_61 : decode cL_sweeps 61 = .ok (.iload 5, 2) := by decide +kernel
theorem dL_sweeps_63 : decode cL_sweeps 63 = .ok (.ifCond .eq 57, 3) := by decide +kernel
theorem dL_sweeps_66 : decode cL_sweeps 66 = .ok (.aload_n 3, 1) := by decide +kernel
theorem dL_sweeps_67 : decode cL_sweeps 67 = .ok (.iload 6, 2) := by decide +kernel
theorem dL_sweeps_69 : decode cL_sweeps 69 = .ok (.dup2, 1) := by decide +kernel
theorem dL_sweeps_70 : decode cL_sweeps 70 = .ok (.iaload, 1) := by decide +kernel
theorem dL_sweeps_71 : decode cL_sweeps 71 = .ok (.aload_n 0, 1) := by decide +kernel
theorem dL_sweeps_72 : decode cL_sweeps 72 = .ok (.iload 6, 2) := by decide +kernel
theorem dL_sweeps_74 : decode cL_sweeps 74 = .ok (.iconst 0, 1) := by decide +kernel
theorem dL_sweeps_75 : decode cL_sweeps 75 = .ok (.invokevirtual 19, 3) := by decide +kernel
theorem dL_sweeps_78 : decode cL_sweeps 78 = .ok (.aload_n 0, 1) := by decide +kernel
theorem dL_sweeps_79 : decode cL_sweeps 79 = .ok (.iload 4, 2) := by decide +kernel
theorem dL_sweeps_81 : decode cL_sweeps 81 = .ok (.iconst 3, 1) := by decide +kernel
theorem dL_sweeps_82 : decode cL_sweeps 82 = .ok (.invokevirtual 15, 3) := by decide +kernel
theorem dL_sweeps_85 : decode cL_sweeps 85 = .ok (.ishr, 1) := by decide +kernel
theorem dL_sweeps_86 : decode cL_sweeps 86 = .ok (.iconst 1, 1) := by decide +kernel
theorem dL_sweeps_87 : decode cL_sweeps 87 = .ok (.iand, 1) := by decide +kernel
theorem dL_sweeps_88 : decode cL_sweeps 88 = .ok (.iconst 1, 1) := by decide +kernel
theorem dL_sweeps_89 : decode cL_sweeps 89 = .ok (.if_icmp .ne 22, 3) := by decide +kernel
theorem dL_sweeps_92 : decode cL_sweeps 92 = .ok (.aload_n 0, 1) := by decide +kernel
theorem dL_sweeps_93 : decode cL_sweeps 93 = .ok (.iload 4, 2) := by decide +kernel
theorem dL_sweeps_95 : decode cL_sweeps 95 = .ok (.iconst 5, 1) := by decide +kernel
theorem dL_sweeps_96 : decode cL_sweeps 96 = .ok (.invokevirtual 15, 3) := by decide +kernel
theorem dL_sweeps_99 : decode cL_sweeps 99 = .ok (.iload 6, 2) := by decide +kernel
theorem dL_sweeps_101 : decode cL_sweeps 101 = .ok (.ishr, 1) := by decide +kernel
theorem dL_sweeps_102 : decode cL_sweeps 102 = .ok (.iconst 1, 1) := by decide +kernel
theorem dL_sweeps_103 : decode cL_sweeps 103 = .ok (.iand, 1) := by decide +kernel
theorem dL_sweeps_104 : decode cL_sweeps 104 = .ok (.ifCond .ne 7, 3) := by decide +kernel
theorem dL_sweeps_107 : decode cL_sweeps 107 = .ok (.iconst 1, 1) := by decide +kernel
theorem dL_sweeps_108 : decode cL_sweeps 108 = .ok (.goto 4, 3) := by decide +kernel
theorem dL_sweeps_111 : decode cL_sweeps 111 = .ok (.iconst 0, 1) := by decide +kernel
theorem dL_sweeps_112 : decode cL_sweeps 112 = .ok (.iadd, 1) := by decide +kernel
theorem dL_sweeps_113 : decode cL_sweeps 113 = .ok (.iastore, 1) := by decide +kernel
theorem dL_sweeps_114 : decode cL_sweeps 114 = .ok (.iinc 6 1, 3) := by decide +kernel
theorem dL_sweeps_117 : decode cL_sweeps 117 = .ok (.goto (-62), 3) := by decide +kernel
theorem dL_sweeps_120 : decode cL_sweeps 120 = .ok (.iinc 4 1, 3) := by decide +kernel
theorem dL_sweeps_123 : decode cL_sweeps 123 = .ok (.goto (-108), 3) := by decide +kernel
theorem dL_sweeps_126 : decode cL_sweeps 126 = .ok (.aload_n 0, 1) := by decide +kernel
theorem dL_sweeps_127 : decode cL_sweeps 127 = .ok (.iconst 4, 1) := by decide +kernel
theorem dL_sweeps_128 : decode cL_sweeps 128 = .ok (.invokevirtual 9, 3) := by decide +kernel
theorem dL_sweeps_131 : decode cL_sweeps 131 = .ok (.istore 4, 2) := by decide +kernel
theorem dL_sweeps_133 : decode cL_sweeps 133 = .ok (.iconst 3, 1) := by decide +kernel
theorem dL_sweeps_134 : decode cL_sweeps 134 = .ok (.newarray .int, 2) := by decide +kernel
theorem dL_sweeps_136 : decode cL_sweeps 136 = .ok (.astore 5, 2) := by decide +kernel
theorem dL_sweeps_138 : decode cL_sweeps 138 = .ok (.iconst 0, 1) := by decide +kernel
theorem dL_sweeps_139 : decode cL_sweeps 139 = .ok (.istore 6, 2) := by decide +kernel
theorem dL_sweeps_141 : decode cL_sweeps 141 = .ok (.iload 6, 2) := by decide +kernel
theorem dL_sweeps_143 : decode cL_sweeps 143 = .ok (.iconst 3, 1) := by decide +kernel
theorem dL_sweeps_144 : decode cL_sweeps 144 = .ok (.if_icmp .ge 22, 3) := by decide +kernel
theorem dL_sweeps_147 : decode cL_sweeps 147 = .ok (.aload 5, 2) := by decide +kernel
theorem dL_sweeps_149 : decode cL_sweeps 149 = .ok (.iload 6, 2) := by decide +kernel
theorem dL_sweeps_151 : decode cL_sweeps 151 = .ok (.aload_n 0, 1) := by decide +kernel
theorem dL_sweeps_152 : decode cL_sweeps 152 = .ok (.iload 6, 2) := by decide +kernel
theorem dL_sweeps_154 : decode cL_sweeps 154 = .ok (.bipush 11, 2) := by decide +kernel
theorem dL_sweeps_156 : decode cL_sweeps 156 = .ok (.invokevirtual 19, 3) := by decide +kernel
theorem dL_sweeps_159 : decode cL_sweeps 159 = .ok (.iastore, 1) := by decide +kernel
theorem dL_sweeps_160 : decode cL_sweeps 160 = .ok (.iinc 6 1, 3) := by decide +kernel
theorem dL_sweeps_163 : decode cL_sweeps 163 = .ok (.goto (-22), 3) := by decide +kernel
theorem dL_sweeps_166 : decode cL_sweeps 166 = .ok (.aload_n 0, 1) := by decide +kernel
theorem dL_sweeps_167 : decode cL_sweeps 167 = .ok (.invokevirtual 44, 3) := by decide +kernel
theorem dL_sweeps_170 : decode cL_sweeps 170 = .ok (.iload_n 2, 1) := by decide +kernel
theorem dL_sweeps_171 : decode cL_sweeps 171 = .ok (.if_icmp .ne 30, 3) := by decide +kernel
theorem dL_sweeps_174 : decode cL_sweeps 174 = .ok (.aload_n 0, 1) := by decide +kernel
theorem dL_sweeps_175 : decode cL_sweeps 175 = .ok (.iconst 3, 1) := by decide +kernel
theorem dL_sweeps_176 : decode cL_sweeps 176 = .ok (.invokevirtual 9, 3) := by decide +kernel
theorem dL_sweeps_179 : decode cL_sweeps 179 = .ok (.iload_n 1, 1) := by decide +kernel
theorem dL_sweeps_180 : decode cL_sweeps 180 = .ok (.iload_n 2, 1) := by decide +kernel
theorem dL_sweeps_181 : decode cL_sweeps 181 = .ok (.isub, 1) := by decide +kernel
theorem dL_sweeps_182 : decode cL_sweeps 182 = .ok (.if_icmp .ne 19, 3) := by decide +kernel
theorem dL_sweeps_185 : decode cL_sweeps 185 = .ok (.aload_n 0, 1) := by decide +kernel
theorem dL_sweeps_186 : decode cL_sweeps 186 = .ok (.iconst 4, 1) := by decide +kernel
theorem dL_sweeps_187 : decode cL_sweeps 187 = .ok (.invokevirtual 9, 3) := by decide +kernel
theorem dL_sweeps_190 : decode cL_sweeps 190 = .ok (.iload 4, 2) := by decide +kernel
theorem dL_sweeps_192 : decode cL_sweeps 192 = .ok (.iload_n 2, 1) := by decide +kernel
theorem dL_sweeps_193 : decode cL_sweeps 193 = .ok (.iadd, 1) := by decide +kernel
theorem dL_sweeps_194 : decode cL_sweeps 194 = .ok (.if_icmp .ne 7, 3) := by decide +kernel
theorem dL_sweeps_197 : decode cL_sweeps 197 = .ok (.iconst 1, 1) := by decide +kernel
theorem dL_sweeps_198 : decode cL_sweeps 198 = .ok (.goto 4, 3) := by decide +kernel
theorem dL_sweeps_201 : decode cL_sweeps 201 = .ok (.iconst 0, 1) := by decide +kernel
theorem dL_sweeps_202 : decode cL_sweeps 202 = .ok (.istore 6, 2) := by decide +kernel
theorem dL_sweeps_204 : decode cL_sweeps 204 = .ok (.iload 6, 2) := by decide +kernel
theorem dL_sweeps_206 : decode cL_sweeps 206 = .ok (.ifCond .eq 79, 3) := by decide +kernel
theorem dL_sweeps_209 : decode cL_sweeps 209 = .ok (.aload_n 0, 1) := by decide +kernel
theorem dL_sweeps_210 : decode cL_sweeps 210 = .ok (.iconst 0, 1) := by decide +kernel
theorem dL_sweeps_211 : decode cL_sweeps 211 = .ok (.bipush 11, 2) := by decide +kernel
theorem dL_sweeps_213 : decode cL_sweeps 213 = .ok (.invokevirtual 19, 3) := by decide +kernel
theorem dL_sweeps_216 : decode cL_sweeps 216 = .ok (.aload 5, 2) := by decide +kernel
theorem dL_sweeps_218 : decode cL_sweeps 218 = .ok (.iconst 0, 1) := by decide +kernel
theorem dL_sweeps_219 : decode cL_sweeps 219 = .ok (.iaload, 1) := by decide +kernel
theorem dL_sweeps_220 : decode cL_sweeps 220 = .ok (.aload_n 3, 1) := by decide +kernel
theorem dL_sweeps_221 : decode cL_sweeps 221 = .ok (.iconst 0, 1) := by decide +kernel
theorem dL_sweeps_222 : decode cL_sweeps 222 = .ok (.iaload, 1) := by decide +kernel
theorem dL_sweeps_223 : decode cL_sweeps 223 = .ok (.iadd, 1) := by decide +kernel
theorem dL_sweeps_224 : decode cL_sweeps 224 = .ok (.if_icmp .ne 61, 3) := by decide +kernel
theorem dL_sweeps_227 : decode cL_sweeps 227 = .ok (.aload_n 0, 1) := by decide +kernel
theorem dL_sweeps_228 : decode cL_sweeps 228 = .ok (.iconst 1, 1) := by decide +kernel
theorem dL_sweeps_229 : decode cL_sweeps 229 = .ok (.bipush 11, 2) := by decide +kernel
theorem dL_sweeps_231 : decode cL_sweeps 231 = .ok (.invokevirtual 19, 3) := by decide +kernel
theorem dL_sweeps_234 : decode cL_sweeps 234 = .ok (.aload 5, 2) := by decide +kernel
theorem dL_sweeps_236 : decode cL_sweeps 236 = .ok (.iconst 1, 1) := by decide +kernel
theorem dL_sweeps_237 : decode cL_sweeps 237 = .ok (.iaload, 1) := by decide +kernel
theorem dL_sweeps_238 : decode cL_sweeps 238 = .ok (.aload_n 3, 1) := by decide +kernel
theorem dL_sweeps_239 : decode cL_sweeps 239 = .ok (.iconst 1, 1) := by decide +kernel
theorem dL_sweeps_240 : decode cL_sweeps 240 = .ok (.iaload, 1) := by decide +kernel
theorem dL_sweeps_241 : decode cL_sweeps 241 = .ok (.iadd, 1) := by decide +kernel
theorem dL_sweeps_242 : decode cL_sweeps 242 = .ok (.if_icmp .ne 43, 3) := by decide +kernel
theorem dL_sweeps_245 : decode cL_sweeps 245 = .ok (.aload_n 0, 1) := by decide +kernel
theorem dL_sweeps_246 : decode cL_sweeps 246 = .ok (.iconst 2, 1) := by decide +kernel
theorem dL_sweeps_247 : decode cL_sweeps 247 = .ok (.bipush 11, 2) := by decide +kernel
theorem dL_sweeps_249 : decode cL_sweeps 249 = .ok (.invokevirtual 19, 3) := by decide +kernel
theorem dL_sweeps_252 : decode cL_sweeps 252 = .ok (.aload 5, 2) := by decide +kernel
theorem dL_sweeps_254 : decode cL_sweeps 254 = .ok (.iconst 2, 1) := by decide +kernel
theorem dL_sweeps_255 : decode cL_sweeps 255 = .ok (.iaload, 1) := by decide +kernel
theorem dL_sweeps_256 : decode cL_sweeps 256 = .ok (.aload_n 3, 1) := by decide +kernel
theorem dL_sweeps_257 : decode cL_sweeps 257 = .ok (.iconst 2, 1) := by decide +kernel
theorem dL_sweeps_258 : decode cL_sweeps 258 = .ok (.iaload, 1) := by decide +kernel
theorem dL_sweeps_259 : decode cL_sweeps 259 = .ok (.iadd, 1) := by decide +kernel
theorem dL_sweeps_260 : decode cL_sweeps 260 = .ok (.if_icmp .ne 25, 3) := by decide +kernel
theorem dL_sweeps_263 : decode cL_sweeps 263 = .ok (.aload_n 0, 1) := by decide +kernel
theorem dL_sweeps_264 : decode cL_sweeps 264 = .ok (.iconst 3, 1) := by decide +kernel
theorem dL_sweeps_265 : decode cL_sweeps 265 = .ok (.invokevirtual 9, 3) := by decide +kernel
theorem dL_sweeps_268 : decode cL_sweeps 268 = .ok (.ifCond .eq 13, 3) := by decide +kernel
theorem dL_sweeps_271 : decode cL_sweeps 271 = .ok (.aload_n 0, 1) := by decide +kernel
theorem dL_sweeps_272 : decode cL_sweeps 272 = .ok (.iconst 0, 1) := by decide +kernel
theorem dL_sweeps_273 : decode cL_sweeps 273 = .ok (.bipush 7, 2) := by decide +kernel
theorem dL_sweeps_275 : decode cL_sweeps 275 = .ok (.invokevirtual 15, 3) := by decide +kernel
theorem dL_sweeps_278 : decode cL_sweeps 278 = .ok (.ifCond .eq 7, 3) := by decide +kernel
theorem dL_sweeps_281 : decode cL_sweeps 281 = .ok (.iconst 1, 1) := by decide +kernel
theorem dL_sweeps_282 : decode cL_sweeps 282 = .ok (.goto 4, 3) := by decide +kernel
theorem dL_sweeps_285 : decode cL_sweeps 285 = .ok (.iconst 0, 1) := by decide +kernel
theorem dL_sweeps_286 : decode cL_sweeps 286 = .ok (.ireturn, 1) := by decide +kernel
theorem dL_act_0 : decode cL_act 0 = .ok (.iload_n 1, 1) := by decide +kernel
theorem dL_act_1 : decode cL_act 1 = .ok (.bipush 18, 2) := by decide +kernel
theorem dL_act_3 : decode cL_act 3 = .ok (.invokestatic 47, 3) := by decide +kernel
theorem dL_act_6 : decode cL_act 6 = .ok (.istore_n 3, 1) := by decide +kernel
theorem dL_act_7 : decode cL_act 7 = .ok (.iload_n 1, 1) := by decide +kernel
theorem dL_act_8 : decode cL_act 8 = .ok (.iconst 5, 1) := by decide +kernel
theorem dL_act_9 : decode cL_act 9 = .ok (.ishr, 1) := by decide +kernel
theorem dL_act_10 : decode cL_act 10 = .ok (.iconst 4, 1) := by decide +kernel
theorem dL_act_11 : decode cL_act 11 = .ok (.invokestatic 47, 3) := by decide +kernel
theorem dL_act_14 : decode cL_act 14 = .ok (.istore 4, 2) := by decide +kernel
theorem dL_act_16 : decode cL_act 16 = .ok (.aload_n 0, 1) := by decide +kernel
theorem dL_act_17 : decode cL_act 17 = .ok (.iload 4, 2) := by decide +kernel
theorem dL_act_19 : decode cL_act 19 = .ok (.iconst 0, 1) := by decide +kernel
theorem dL_act_20 : decode cL_act 20 = .ok (.invokevirtual 50, 3) := by decide +kernel
theorem dL_act_23 : decode cL_act 23 = .ok (.istore 5, 2) := by decide +kernel
theorem dL_act_25 : decode cL_act 25 = .ok (.iload_n 3, 1) := by decide +kernel
theorem dL_act_26 : decode cL_act 26 = .ok (.iconst 3, 1) := by decide +kernel
theorem dL_act_27 : decode cL_act 27 = .ok (.if_icmp .ge 84, 3) := by decide +kernel
theorem dL_act_30 : decode cL_act 30 = .ok (.aload_n 0, 1) := by decide +kernel
theorem dL_act_31 : decode cL_act 31 = .ok (.bipush 10, 2) := by decide +kernel
theorem dL_act_33 : decode cL_act 33 = .ok (.invokevirtual 9, 3) := by decide +kernel
theorem dL_act_36 : decode cL_act 36 = .ok (.iconst 4, 1) := by decide +kernel
theorem dL_act_37 : decode cL_act 37 = .ok (.if_icmp .ne 5, 3) := by decide +kernel
theorem dL_act_40 : decode cL_act 40 = .ok (.iconst 1, 1) := by decide +kernel
theorem dL_act_41 : decode cL_act 41 = .ok (.ireturn, 1) := by decide +kernel
theorem dL_act_42 : decode cL_act 42 = .ok (.aload_n 0, 1) := by decide +kernel
theorem dL_act_43 : decode cL_act 43 = .ok (.bipush 10, 2) := by decide +kernel
theorem dL_act_45 : decode cL_act 45 = .ok (.invokevirtual 9, 3) := by decide +kernel
theorem dL_act_48 : decode cL_act 48 = .ok (.istore 6, 2) := by decide +kernel
theorem dL_act_50 : decode cL_act 50 = .ok (.aload_n 0, 1) := by decide +kernel
theorem dL_act_51 : decode cL_act 51 = .ok (.invokevirtual 53, 3) := by decide +kernel
theorem dL_act_54 : decode cL_act 54 = .ok (.istore 7, 2) := by decide +kernel
theorem dL_act_56 : decode cL_act 56 = .ok (.iload 7, 2) := by decide +kernel
theorem dL_act_58 : decode cL_act 58 = .ok (.ifCond .lt 51, 3) := by decide +kernel
theorem dL_act_61 : decode cL_act 61 = .ok (.aload_n 0, 1) := by decide +kernel
theorem dL_act_62 : decode cL_act 62 = .ok (.bipush 10, 2) := by decide +kernel
theorem dL_act_64 : decode cL_act 64 = .ok (.invokevirtual 9, 3) := by decide +kernel
theorem dL_act_67 : decode cL_act 67 = .ok (.iload 6, 2) := by decide +kernel
theorem dL_act_69 : decode cL_act 69 = .ok (.iconst 1, 1) := by decide +kernel
theorem dL_act_70 : decode cL_act 70 = .ok (.iadd, 1) := by decide +kernel
theorem dL_act_71 : decode cL_act 71 = .ok (.if_icmp .ne 38, 3) := by decide +kernel
theorem dL_act_74 : decode cL_act 74 = .ok (.aload_n 0, 1) := by decide +kernel
theorem dL_act_75 : decode cL_act 75 = .ok (.iload 7, 2) := by decide +kernel
theorem dL_act_77 : decode cL_act 77 = .ok (.iconst 0, 1) := by decide +kernel
theorem dL_act_78 : decode cL_act 78 = .ok (.invokevirtual 50, 3) := by decide +kernel
theorem dL_act_81 : decode cL_act 81 = .ok (.ifCond .ne 28, 3) := by decide +kernel
theorem dL_act_84 : decode cL_act 84 = .ok (.aload_n 0, 1) := by decide +kernel
theorem dL_act_85 : decode cL_act 85 = .ok (.iload 7, 2) := by decide +kernel
theorem dL_act_87 : decode cL_act 87 = .ok (.iconst 1, 1) := by decide +kernel
theorem dL_act_88 : decode cL_act 88 = .ok (.invokevirtual 50, 3) := by decide +kernel
theorem dL_act_91 : decode cL_act 91 = .ok (.iconst (-1), 1) := by decide +kernel
theorem dL_act_92 : decode cL_act 92 = .ok (.if_icmp .ne 17, 3) := by decide +kernel
theorem dL_act_95 : decode cL_act 95 = .ok (.aload_n 0, 1) := by decide +kernel
theorem dL_act_96 : decode cL_act 96 = .ok (.iload 7, 2) := by decide +kernel
theorem dL_act_98 : decode cL_act 98 = .ok (.iconst 2, 1) := by decide +kernel
theorem dL_act_99 : decode cL_act 99 = .ok (.invokevirtual 50, 3) := by decide +kernel
theorem dL_act_102 : decode cL_act 102 = .ok (.ifCond .ne 7, 3) := by decide +kernel
theorem dL_act_105 : decode cL_act 105 = .ok (.iconst 1, 1) := by decide +kernel
theorem dL_act_106 : decode cL_act 106 = .ok (.goto 4, 3) := by decide +kernel
theorem dL_act_109 : decode cL_act 109 = .ok (.iconst 0, 1) := by decide +kernel
theorem dL_act_110 : decode cL_act 110 = .ok (.ireturn, 1) := by decide +kernel
theorem dL_act_111 : decode cL_act 111 = .ok (.iload_n 3, 1) := by decide +kernel
theorem dL_act_112 : decode cL_act 112 = .ok (.bipush 8, 2) := by decide +kernel
theorem dL_act_114 : decode cL_act 114 = .ok (.if_icmp .ge 143, 3) := by decide +kernel
theorem dL_act_117 : decode cL_act 117 = .ok (.iload 5, 2) := by decide +kernel
theorem dL_act_119 : decode cL_act 119 = .ok (.ifCond .lt 10, 3) := by decide +kernel
theorem dL_act_122 : decode cL_act 122 = .ok (.iload 5, 2) := by decide +kernel
theorem dL_act_124 : decode cL_act 124 = .ok (.bipush 6, 2) := by decide +kernel
theorem dL_act_126 : decode cL_act 126 = .ok (.if_icmp .ne 38, 3) := by decide +kernel
theorem dL_act_129 : decode cL_act 129 = .ok (.iload 5, 2) := by decide +kernel
theorem dL_act_131 : decode cL_act 131 = .ok (.bipush 6, 2) := by decide +kernel
theorem dL_act_133 : decode cL_act 133 = .ok (.if_icmp .eq 25, 3) := by decide +kernel
theorem dL_act_136 : decode cL_act 136 = .ok (.aload_n 0, 1) := by decide +kernel
theorem dL_act_137 : decode cL_act 137 = .ok (.iload 4, 2) := by decide +kernel
theorem dL_act_139 : decode cL_act 139 = .ok (.iconst 2, 1) := by decide +kernel
theorem dL_act_140 : decode cL_act 140 = .ok (.invokevirtual 50, 3) := by decide +kernel
theorem dL_act_143 : decode cL_act 143 = .ok (.iconst (-1), 1) := by decide +kernel
theorem dL_act_144 : decode cL_act 144 = .ok (.if_icmp .ne 18, 3) := by decide +kernel
theorem dL_act_147 : decode cL_act 147 = .ok (.aload_n 0, 1) := by decide +kernel
theorem dL_act_148 : decode cL_act 148 = .ok (.iload 4, 2) := by decide +kernel
theorem dL_act_150 : decode cL_act 150 = .ok (.iconst 0, 1) := by decide +kernel
theorem dL_act_151 : decode cL_act 151 = .ok (.invokevirtual 56, 3) := by decide +kernel
theorem dL_act_154 : decode cL_act 154 = .ok (.iconst (-1), 1) := by decide +kernel
theorem dL_act_155 : decode cL_act 155 = .ok (.if_icmp .ne 7, 3) := by decide +kernel
theorem dL_act_158 : decode cL_act 158 = .ok (.iconst 1, 1) := by decide +kernel
theorem dL_act_159 : decode cL_act 159 = .ok (.goto 4, 3) := by decide +kernel
theorem dL_act_162 : decode cL_act 162 = .ok (.iconst 0, 1) := by decide +kernel
theorem dL_act_163 : decode cL_act 163 = .ok (.ireturn, 1) := by decide +kernel
theorem dL_act_164 : decode cL_act 164 = .ok (.aload_n 0, 1) := by decide +kernel
theorem dL_act_165 : decode cL_act 165 = .ok (.iload 4, 2) := by decide +kernel
theorem dL_act_167 : decode cL_act 167 = .ok (.iconst 2, 1) := by decide +kernel
theorem dL_act_168 : decode cL_act 168 = .ok (.invokevirtual 50, 3) := by decide +kernel
theorem dL_act_171 : decode cL_act 171 = .ok (.istore 6, 2) := by decide +kernel
theorem dL_act_173 : decode cL_act 173 = .ok (.aload_n 0, 1) := by decide +kernel
theorem dL_act_174 : decode cL_act 174 = .ok (.iconst 1, 1) := by decide +kernel
theorem dL_act_175 : decode cL_act 175 = .ok (.invokevirtual 9, 3) := by decide +kernel
theorem dL_act_178 : decode cL_act 178 = .ok (.istore 7, 2) := by decide +kernel
theorem dL_act_180 : decode cL_act 180 = .ok (.aload_n 0, 1) := by decide +kernel
theorem dL_act_181 : decode cL_act 181 = .ok (.iload 4, 2) := by decide +kernel
theorem dL_act_183 : decode cL_act 183 = .ok (.iload_n 2, 1) := by decide +kernel
theorem dL_act_184 : decode cL_act 184 = .ok (.iconst 4, 1) := by decide +kernel
theorem dL_act_185 : decode cL_act 185 = .ok (.invokestatic 47, 3) := by decide +kernel
theorem dL_act_188 : decode cL_act 188 = .ok (.iload_n 2, 1) := by decide +kernel
theorem dL_act_189 : decode cL_act 189 = .ok (.iconst 2, 1) := by decide +kernel
theorem dL_act_190 : decode cL_act 190 = .ok (.ishr, 1) := by decide +kernel
theorem dL_act_191 : decode cL_act 191 = .ok (.bipush 100, 2) := by decide +kernel
theorem dL_act_193 : decode cL_act 193 = .ok (.invokestatic 47, 3) := by decide +kernel
theorem dL_act_196 : decode cL_act 196 = .ok (.invokevirtual 59, 3) := by decide +kernel
theorem dL_act_199 : decode cL_act 199 = .ok (.iload 7, 2) := by decide +kernel
theorem dL_act_201 : decode cL_act 201 = .ok (.if_icmp .ne 54, 3) := by decide +kernel
theorem dL_act_204 : decode cL_act 204 = .ok (.aload_n 0, 1) := by decide +kernel
theorem dL_act_205 : decode cL_act 205 = .ok (.iload 4, 2) := by decide +kernel
theorem dL_act_207 : decode cL_act 207 = .ok (.iconst 0, 1) := by decide +kernel
theorem dL_act_208 : decode cL_act 208 = .ok (.invokevirtual 50, 3) := by decide +kernel
theorem dL_act_211 : decode cL_act 211 = .ok (.iload 5, 2) := by decide +kernel
theorem dL_act_213 : decode cL_act 213 = .ok (.iconst 1, 1) := by decide +kernel
theorem dL_act_214 : decode cL_act 214 = .ok (.iadd, 1) := by decide +kernel
theorem dL_act_215 : decode cL_act 215 = .ok (.if_icmp .ne 40, 3) := by decide +kernel
theorem dL_act_218 : decode cL_act 218 = .ok (.aload_n 0, 1) := by decide +kernel
theorem dL_act_219 : decode cL_act 219 = .ok (.iload 4, 2) := by decide +kernel
theorem dL_act_221 : decode cL_act 221 = .ok (.iconst 2, 1) := by decide +kernel
theorem dL_act_222 : decode cL_act 222 = .ok (.invokevirtual 50, 3) := by decide +kernel
theorem dL_act_225 : decode cL_act 225 = .ok (.iload 6, 2) := by decide +kernel
theorem dL_act_227 : decode cL_act 227 = .ok (.iload_n 2, 1) := by decide +kernel
theorem dL_act_228 : decode cL_act 228 = .ok (.iconst 2, 1) := by decide +kernel
theorem dL_act_229 : decode cL_act 229 = .ok (.ishr, 1) := by decide +kernel
theorem dL_act_230 : decode cL_act 230 = .ok (.bipush 100, 2) := by decide +kernel
theorem dL_act_232 : decode cL_act 232 = .ok (.invokestatic 47, 3) := by decide +kernel
theorem dL_act_235 : decode cL_act 235 = .ok (.iadd, 1) := by decide +kernel
theorem dL_act_236 : decode cL_act 236 = .ok (.if_icmp .ne 19, 3) := by decide +kernel
theorem dL_act_239 : decode cL_act 239 = .ok (.aload_n 0, 1) := by decide +kernel
theorem dL_act_240 : decode cL_act 240 = .ok (.iconst 1, 1) := by decide +kernel
theorem dL_act_241 : decode cL_act 241 = .ok (.invokevirtual 9, 3) := by decide +kernel
theorem dL_act_244 : decode cL_act 244 = .ok (.iload 7, 2) := by decide +kernel
theorem dL_act_246 : decode cL_act 246 = .ok (.iconst 1, 1) := by decide +kernel
theorem dL_act_247 : decode cL_act 247 = .ok (.iadd, 1) := by decide +kernel
theorem dL_act_248 : decode cL_act 248 = .ok (.if_icmp .ne 7, 3) := by decide +kernel
theorem dL_act_251 : decode cL_act 251 = .ok (.iconst 1, 1) := by decide +kernel
theorem dL_act_252 : decode cL_act 252 = .ok (.goto 4, 3) := by decide +kernel
theorem dL_act_255 : decode cL_act 255 = .ok (.iconst 0, 1) := by decide +kernel
theorem dL_act_256 : decode cL_act 256 = .ok (.ireturn, 1) := by decide +kernel
theorem dL_act_257 : decode cL_act 257 = .ok (.iload_n 3, 1) := by decide +kernel
theorem dL_act_258 : decode cL_act 258 = .ok (.bipush 11, 2) := by decide +kernel
theorem dL_act_260 : decode cL_act 260 = .ok (.if_icmp .ge 95, 3) := by decide +kernel
theorem dL_act_263 : decode cL_act 263 = .ok (.iload 5, 2) := by decide +kernel
theorem dL_act_265 : decode cL_act 265 = .ok (.ifCond .lt 30, 3) := by decide +kernel
theorem dL_act_268 : decode cL_act 268 = .ok (.aload_n 0, 1) := by decide +kernel
theorem dL_act_269 : decode cL_act 269 = .ok (.iconst 3, 1) := by decide +kernel
theorem dL_act_270 : decode cL_act 270 = .ok (.invokevirtual 9, 3) := by decide +kernel
theorem dL_act_273 : decode cL_act 273 = .ok (.iload 5, 2) := by decide +kernel
theorem dL_act_275 : decode cL_act 275 = .ok (.iadd, 1) := by decide +kernel
theorem dL_act_276 : decode cL_act 276 = .ok (.bipush 60, 2) := by decide +kernel
theorem dL_act_278 : decode cL_act 278 = .ok (.if_icmp .gt 17, 3) := by decide +kernel
theorem dL_act_281 : decode cL_act 281 = .ok (.aload_n 0, 1) := by decide +kernel
theorem dL_act_282 : decode cL_act 282 = .ok (.iconst 2, 1) := by decide +kernel
theorem dL_act_283 : decode cL_act 283 = .ok (.invokevirtual 9, 3) := by decide +kernel
theorem dL_act_286 : decode cL_act 286 = .ok (.iload 5, 2) := by decide +kernel
theorem dL_act_288 : decode cL_act 288 = .ok (.iadd, 1) := by decide +kernel
theorem dL_act_289 : decode cL_act 289 = .ok (.sipush 200, 3) := by decide +kernel
theorem dL_act_292 : decode cL_act 292 = .ok (.if_icmp .le 5, 3) := by decide +kernel
theorem dL_act_295 : decode cL_act 295 = .ok (.iconst 1, 1) := by decide +kernel
theorem dL_act_296 : decode cL_act 296 = .ok (.ireturn, 1) := by decide +kernel
theorem dL_act_297 : decode cL_act 297 = .ok (.aload_n 0, 1) := by decide +kernel
theorem dL_act_298 : decode cL_act 298 = .ok (.iconst 3, 1) := by decide +kernel
theorem dL_act_299 : decode cL_act 299 = .ok (.invokevirtual 9, 3) := by decide +kernel
theorem dL_act_302 : decode cL_act 302 = .ok (.istore 6, 2) := by decide +kernel
theorem dL_act_304 : decode cL_act 304 = .ok (.aload_n 0, 1) := by decide +kernel
theorem dL_act_305 : decode cL_act 305 = .ok (.iconst 2, 1) := by decide +kernel
theorem dL_act_306 : decode cL_act 306 = .ok (.invokevirtual 9, 3) := by decide +kernel
theorem dL_act_309 : decode cL_act 309 = .ok (.istore 7, 2) := by decide +kernel
theorem dL_act_311 : decode cL_act 311 = .ok (.aload_n 0, 1) := by decide +kernel
theorem dL_act_312 : decode cL_act 312 = .ok (.iload 4, 2) := by decide +kernel
theorem dL_act_314 : decode cL_act 314 = .ok (.invokevirtual 63, 3) := by decide +kernel
theorem dL_act_317 : decode cL_act 317 = .ok (.iload 6, 2) := by decide +kernel
theorem dL_act_319 : decode cL_act 319 = .ok (.iload 5, 2) := by decide +kernel
theorem dL_act_321 : decode cL_act 321 = .ok (.iadd, 1) := by decide +kernel
theorem dL_act_322 : decode cL_act 322 = .ok (.if_icmp .ne 31, 3) := by decide +kernel
theorem dL_act_325 : decode cL_act 325 = .ok (.aload_n 0, 1) := by decide +kernel
theorem dL_act_326 : decode cL_act 326 = .ok (.iconst 2, 1) := by decide +kernel
theorem dL_act_327 : decode cL_act 327 = .ok (.invokevirtual 9, 3) := by decide +kernel
theorem dL_act_330 : decode cL_act 330 = .ok (.iload 7, 2) := by decide +kernel
theorem dL_act_332 : decode cL_act 332 = .ok (.iload 5, 2) := by decide +kernel
theorem dL_act_334 : decode cL_act 334 = .ok (.iadd, 1) := by decide +kernel
theorem dL_act_335 : decode cL_act 335 = .ok (.if_icmp .ne 18, 3) := by decide +kernel
theorem dL_act_338 : decode cL_act 338 = .ok (.aload_n 0, 1) := by decide +kernel
theorem dL_act_339 : decode cL_act 339 = .ok (.iload 4, 2) := by decide +kernel
theorem dL_act_341 : decode cL_act 341 = .ok (.iconst 0, 1) := by decide +kernel
theorem dL_act_342 : decode cL_act 342 = .ok (.invokevirtual 50, 3) := by decide +kernel
theorem dL_act_345 : decode cL_act 345 = .ok (.iconst (-1), 1) := by decide +kernel
theorem dL_act_346 : decode cL_act 346 = .ok (.if_icmp .ne 7, 3) := by decide +kernel
theorem dL_act_349 : decode cL_act 349 = .ok (.iconst 1, 1) := by decide +kernel
theorem dL_act_350 : decode cL_act 350 = .ok (.goto 4, 3) := by decide +kernel
theorem dL_act_353 : decode cL_act 353 = .ok (.iconst 0, 1) := by decide +kernel
theorem dL_act_354 : decode cL_act 354 = .ok (.ireturn, 1) := by decide +kernel
theorem dL_act_355 : decode cL_act 355 = .ok (.iload_n 3, 1) := by decide +kernel
theorem dL_act_356 : decode cL_act 356 = .ok (.bipush 11, 2) := by decide +kernel
theorem dL_act_358 : decode cL_act 358 = .ok (.if_icmp .ne 53, 3) := by decide +kernel
theorem dL_act_361 : decode cL_act 361 = .ok (.aload_n 0, 1) := by decide +kernel
theorem dL_act_362 : decode cL_act 362 = .ok (.iconst 3, 1) := by decide +kernel
theorem dL_act_363 : decode cL_act 363 = .ok (.invokevirtual 9, 3) := by decide +kernel
theorem dL_act_366 : decode cL_act 366 = .ok (.istore 6, 2) := by decide +kernel
theorem dL_act_368 : decode cL_act 368 = .ok (.iload 5, 2) := by decide +kernel
theorem dL_act_370 : decode cL_act 370 = .ok (.ifCond .lt 35, 3) := by decide +kernel
theorem dL_act_373 : decode cL_act 373 = .ok (.aload_n 0, 1) := by decide +kernel
theorem dL_act_374 : decode cL_act 374 = .ok (.iload 4, 2) := by decide +kernel
theorem dL_act_376 : decode cL_act 376 = .ok (.invokevirtual 66, 3) := by decide +kernel
theorem dL_act_379 : decode cL_act 379 = .ok (.iload 5, 2) := by decide +kernel
theorem dL_act_381 : decode cL_act 381 = .ok (.if_icmp .ne 28, 3) := by decide +kernel
theorem dL_act_384 : decode cL_act 384 = .ok (.aload_n 0, 1) := by decide +kernel
theorem dL_act_385 : decode cL_act 385 = .ok (.iconst 3, 1) := by decide +kernel
theorem dL_act_386 : decode cL_act 386 = .ok (.invokevirtual 9, 3) := by decide +kernel
theorem dL_act_389 : decode cL_act 389 = .ok (.iload 6, 2) := by decide +kernel
theorem dL_act_391 : decode cL_act 391 = .ok (.if_icmp .ne 18, 3) := by decide +kernel
theorem dL_act_394 : decode cL_act 394 = .ok (.aload_n 0, 1) := by decide +kernel
theorem dL_act_395 : decode cL_act 395 = .ok (.iload 4, 2) := by decide +kernel
theorem dL_act_397 : decode cL_act 397 = .ok (.iconst 1, 1) := by decide +kernel
theorem dL_act_398 : decode cL_act 398 = .ok (.invokevirtual 50, 3) := by decide +kernel
theorem dL_act_401 : decode cL_act 401 = .ok (.iconst (-1), 1) := by decide +kernel
theorem dL_act_402 : decode cL_act 402 = .ok (.if_icmp .ne 7, 3) := by decide +kernel
theorem dL_act_405 : decode cL_act 405 = .ok (.iconst 1, 1) := by decide +kernel
theorem dL_act_406 : decode cL_act 406 = .ok (.goto 4, 3) := by decide +kernel
theorem dL_act_409 : decode cL_act 409 = .ok (.iconst 0, 1) := by decide +kernel
theorem dL_act_410 : decode cL_act 410 = .ok (.ireturn, 1) := by decide +kernel
theorem dL_act_411 : decode cL_act 411 = .ok (.iload_n 3, 1) := by decide +kernel
theorem dL_act_412 : decode cL_act 412 = .ok (.bipush 12, 2) := by decide +kernel
theorem dL_act_414 : decode cL_act 414 = .ok (.if_icmp .ne 62, 3) := by decide +kernel
theorem dL_act_417 : decode cL_act 417 = .ok (.iload_n 2, 1) := by decide +kernel
theorem dL_act_418 : decode cL_act 418 = .ok (.iconst 3, 1) := by decide +kernel
theorem dL_act_419 : decode cL_act 419 = .ok (.invokestatic 47, 3) := by decide +kernel
theorem dL_act_422 : decode cL_act 422 = .ok (.istore 6, 2) := by decide +kernel
theorem dL_act_424 : decode cL_act 424 = .ok (.aload_n 0, 1) := by decide +kernel
theorem dL_act_425 : decode cL_act 425 = .ok (.iload 6, 2) := by decide +kernel
theorem dL_act_427 : decode cL_act 427 = .ok (.iconst 0, 1) := by decide +kernel
theorem dL_act_428 : decode cL_act 428 = .ok (.invokevirtual 19, 3) := by decide +kernel
theorem dL_act_431 : decode cL_act 431 = .ok (.istore 7, 2) := by decide +kernel
theorem dL_act_433 : decode cL_act 433 = .ok (.aload_n 0, 1) := by decide +kernel
theorem dL_act_434 : decode cL_act 434 = .ok (.iload 6, 2) := by decide +kernel
theorem dL_act_436 : decode cL_act 436 = .ok (.iload_n 2, 1) := by decide +kernel
theorem dL_act_437 : decode cL_act 437 = .ok (.iconst 2, 1) := by decide +kernel
theorem dL_act_438 : decode cL_act 438 = .ok (.ishr, 1) := by decide +kernel
theorem dL_act_439 : decode cL_act 439 = .ok (.bipush 16, 2) := by decide +kernel
theorem dL_act_441 : decode cL_act 441 = .ok (.invokestatic 47, 3) := by decide +kernel
theorem dL_act_444 : decode cL_act 444 = .ok (.invokevirtual 69, 3) := by decide +kernel
theorem dL_act_447 : decode cL_act 447 = .ok (.iload 7, 2) := by decide +kernel
theorem dL_act_449 : decode cL_act 449 = .ok (.if_icmp .ne 25, 3) := by decide +kernel
theorem dL_act_452 : decode cL_act 452 = .ok (.aload_n 0, 1) := by decide +kernel
theorem dL_act_453 : decode cL_act 453 = .ok (.iload 6, 2) := by decide +kernel
theorem dL_act_455 : decode cL_act 455 = .ok (.iconst 0, 1) := by decide +kernel
theorem dL_act_456 : decode cL_act 456 = .ok (.invokevirtual 19, 3) := by decide +kernel
theorem dL_act_459 : decode cL_act 459 = .ok (.iload_n 2, 1) := by decide +kernel
theorem dL_act_460 : decode cL_act 460 = .ok (.iconst 2, 1) := by decide +kernel
theorem dL_act_461 : decode cL_act 461 = .ok (.ishr, 1) := by decide +kernel
theorem dL_act_462 : decode cL_act 462 = .ok (.bipush 16, 2) := by decide +kernel
theorem dL_act_464 : decode cL_act 464 = .ok (.invokestatic 47, 3) := by decide +kernel
theorem dL_act_467 : decode cL_act 467 = .ok (.if_icmp .ne 7, 3) := by decide +kernel
theorem dL_act_470 : decode cL_act 470 = .ok (.iconst 1, 1) := by decide +kernel
theorem dL_act_471 : decode cL_act 471 = .ok (.goto 4, 3) := by decide +kernel
theorem dL_act_474 : decode cL_act 474 = .ok (.iconst 0, 1) := by decide +kernel
theorem dL_act_475 : decode cL_act 475 = .ok (.ireturn, 1) := by decide +kernel
theorem dL_act_476 : decode cL_act 476 = .ok (.iload_n 3, 1) := by decide +kernel
theorem dL_act_477 : decode cL_act 477 = .ok (.bipush 13, 2) := by decide +kernel
theorem dL_act_479 : decode cL_act 479 = .ok (.if_icmp .ne 54, 3) := by decide +kernel
theorem dL_act_482 : decode cL_act 482 = .ok (.aload_n 0, 1) := by decide +kernel
theorem dL_act_483 : decode cL_act 483 = .ok (.bipush 7, 2) := by decide +kernel
theorem dL_act_485 : decode cL_act 485 = .ok (.invokevirtual 9, 3) := by decide +kernel
theorem dL_act_488 : decode cL_act 488 = .ok (.istore 6, 2) := by decide +kernel
theorem dL_act_490 : decode cL_act 490 = .ok (.aload_n 0, 1) := by decide +kernel
theorem dL_act_491 : decode cL_act 491 = .ok (.bipush 6, 2) := by decide +kernel
theorem dL_act_493 : decode cL_act 493 = .ok (.invokevirtual 9, 3) := by decide +kernel
theorem dL_act_496 : decode cL_act 496 = .ok (.istore 7, 2) := by decide +kernel
theorem dL_act_498 : decode cL_act 498 = .ok (.iload 6, 2) := by decide +kernel
theorem dL_act_500 : decode cL_act 500 = .ok (.ifCond .eq 27, 3) := by decide +kernel
theorem dL_act_503 : decode cL_act 503 = .ok (.aload_n 0, 1) := by decide +kernel
theorem dL_act_504 : decode cL_act 504 = .ok (.invokevirtual 72, 3) := by decide +kernel
theorem dL_act_507 : decode cL_act 507 = .ok (.iload 6, 2) := by decide +kernel
theorem dL_act_509 : decode cL_act 509 = .ok (.iconst 1, 1) := by decide +kernel
theorem dL_act_510 : decode cL_act 510 = .ok (.isub, 1) := by decide +kernel
theorem dL_act_511 : decode cL_act 511 = .ok (.if_icmp .ne 20, 3) := by decide +kernel
theorem dL_act_514 : decode cL_act 514 = .ok (.aload_n 0, 1) := by decide +kernel
theorem dL_act_515 : decode cL_act 515 = .ok (.bipush 6, 2) := by decide +kernel
theorem dL_act_517 : decode cL_act 517 = .ok (.invokevirtual 9, 3) := by decide +kernel
theorem dL_act_520 : decode cL_act 520 = .ok (.iload 7, 2) := by decide +kernel
theorem dL_act_522 : decode cL_act 522 = .ok (.iconst 1, 1) := by decide +kernel
theorem dL_act_523 : decode cL_act 523 = .ok (.iadd, 1) := by decide +kernel
theorem dL_act_524 : decode cL_act 524 = .ok (.if_icmp .ne 7, 3) := by decide +kernel
theorem dL_act_527 : decode cL_act 527 = .ok (.iconst 1, 1) := by decide +kernel
theorem dL_act_528 : decode cL_act 528 = .ok (.goto 4, 3) := by decide +kernel
theorem dL_act_531 : decode cL_act 531 = .ok (.iconst 0, 1) := by decide +kernel
theorem dL_act_532 : decode cL_act 532 = .ok (.ireturn, 1) := by decide +kernel
theorem dL_act_533 : decode cL_act 533 = .ok (.iload_n 3, 1) := by decide +kernel
theorem dL_act_534 : decode cL_act 534 = .ok (.bipush 14, 2) := by decide +kernel
theorem dL_act_536 : decode cL_act 536 = .ok (.if_icmp .ne 8, 3) := by decide +kernel
theorem dL_act_539 : decode cL_act 539 = .ok (.aload_n 0, 1) := by decide +kernel
theorem dL_act_540 : decode cL_act 540 = .ok (.invokestatic 75, 3) := by decide +kernel
theorem dL_act_543 : decode cL_act 543 = .ok (.ireturn, 1) := by decide +kernel
theorem dL_act_544 : decode cL_act 544 = .ok (.iload_n 3, 1) := by decide +kernel
theorem dL_act_545 : decode cL_act 545 = .ok (.bipush 15, 2) := by decide +kernel
theorem dL_act_547 : decode cL_act 547 = .ok (.if_icmp .ne 162, 3) := by decide +kernel
theorem dL_act_550 : decode cL_act 550 = .ok (.iconst 1, 1) := by decide +kernel
theorem dL_act_551 : decode cL_act 551 = .ok (.iload_n 2, 1) := by decide +kernel
theorem dL_act_552 : decode cL_act 552 = .ok (.bipush 6, 2) := by decide +kernel
theorem dL_act_554 : decode cL_act 554 = .ok (.invokestatic 47, 3) := by decide +kernel
theorem dL_act_557 : decode cL_act 557 = .ok (.iadd, 1) := by decide +kernel
theorem dL_act_558 : decode cL_act 558 = .ok (.istore 6, 2) := by decide +kernel
theorem dL_act_560 : decode cL_act 560 = .ok (.iload_n 2, 1) := by decide +kernel
theorem dL_act_561 : decode cL_act 561 = .ok (.iconst 3, 1) := by decide +kernel
theorem dL_act_562 : decode cL_act 562 = .ok (.ishr, 1) := by decide +kernel
theorem dL_act_563 : decode cL_act 563 = .ok (.istore 7, 2) := by decide +kernel
theorem dL_act_565 : decode cL_act 565 = .ok (.iload 6, 2) := by decide +kernel
theorem dL_act_567 : decode cL_act 567 = .ok (.iconst 2, 1) := by decide +kernel
theorem dL_act_568 : decode cL_act 568 = .ok (.if_icmp .ne 15, 3) := by decide +kernel
theorem dL_act_571 : decode cL_act 571 = .ok (.iconst 1, 1) := by decide +kernel
theorem dL_act_572 : decode cL_act 572 = .ok (.iload 7, 2) := by decide +kernel
theorem dL_act_574 : decode cL_act 574 = .ok (.bipush 8, 2) := by decide +kernel
theorem dL_act_576 : decode cL_act 576 = .ok (.invokestatic 47, 3) := by decide +kernel
theorem dL_act_579 : decode cL_act 579 = .ok (.iadd, 1) := by decide +kernel
theorem dL_act_580 : decode cL_act 580 = .ok (.goto 68, 3) := by decide +kernel
theorem dL_act_583 : decode cL_act 583 = .ok (.iload 6, 2) := by decide +kernel
theorem dL_act_585 : decode cL_act 585 = .ok (.iconst 3, 1) := by decide +kernel
theorem dL_act_586 : decode cL_act 586 = .ok (.if_icmp .eq 10, 3) := by decide +kernel
theorem dL_act_589 : decode cL_act 589 = .ok (.iload 6, 2) := by decide +kernel
theorem dL_act_591 : decode cL_act 591 = .ok (.bipush 6, 2) := by decide +kernel
theorem dL_act_593 : decode cL_act 593 = .ok (.if_icmp .ne 15, 3) := by decide +kernel
theorem dL_act_596 : decode cL_act 596 = .ok (.iconst 1, 1) := by decide +kernel
theorem dL_act_597 : decode cL_act 597 = .ok (.iload 7, 2) := by decide +kernel
theorem dL_act_599 : decode cL_act 599 = .ok (.bipush 20, 2) := by decide +kernel
theorem dL_act_601 : decode cL_act 601 = .ok (.invokestatic 47, 3) := by decide +kernel
theorem dL_act_604 : decode cL_act 604 = .ok (.iadd, 1) := by decide +kernel
theorem dL_act_605 : decode cL_act 605 = .ok (.goto 43, 3) := by decide +kernel
theorem dL_act_608 : decode cL_act 608 = .ok (.iload 6, 2) := by decide +kernel
theorem dL_act_610 : decode cL_act 610 = .ok (.iconst 4, 1) := by decide +kernel
theorem dL_act_611 : decode cL_act 611 = .ok (.if_icmp .ne 13, 3) := by decide +kernel
theorem dL_act_614 : decode cL_act 614 = .ok (.iload 7, 2) := by decide +kernel
theorem dL_act_616 : decode cL_act 616 = .ok (.bipush 9, 2) := by decide +kernel
theorem dL_act_618 : decode cL_act 618 = .ok (.invokestatic 47, 3) := by decide +kernel
theorem dL_act_621 : decode cL_act 621 = .ok (.goto 27, 3) := by decide +kernel
theorem dL_act_624 : decode cL_act 624 = .ok (.iload 6, 2) := by decide +kernel
theorem dL_act_626 : decode cL_act 626 = .ok (.iconst 5, 1) := by decide +kernel
theorem dL_act_627 : decode cL_act 627 = .ok (.if_icmp .ne 12, 3) := by decide +kernel
theorem dL_act_630 : decode cL_act 630 = .ok (.iload 7, 2) := by decide +kernel
theorem dL_act_632 : decode cL_act 632 = .ok (.iconst 2, 1) := by decide +kernel
theorem dL_act_633 : decode cL_act 633 = .ok (.invokestatic 47, 3) := by decide +kernel
theorem dL_act_636 : decode cL_act 636 = .ok (.goto 12, 3) := by decide +kernel
theorem dL_act_639 : decode cL_act 639 = .ok (.iconst 1, 1) := by decide +kernel
theorem dL_act_640 : decode cL_act 640 = .ok (.iload 7, 2) := by decide +kernel
theorem dL_act_642 : decode cL_act 642 = .ok (.bipush 9, 2) := by decide +kernel
theorem dL_act_644 : decode cL_act 644 = .ok (.invokestatic 47, 3) := by decide +kernel
theorem dL_act_647 : decode cL_act 647 = .ok (.iadd, 1) := by decide +kernel
theorem dL_act_648 : decode cL_act 648 = .ok (.istore 8, 2) := by decide +kernel
theorem dL_act_650 : decode cL_act 650 = .ok (.iload 6, 2) := by decide +kernel
theorem dL_act_652 : decode cL_act 652 = .ok (.iconst 4, 1) := by decide +kernel
theorem dL_act_653 : decode cL_act 653 = .ok (.if_icmp .ne 14, 3) := by decide +kernel
theorem dL_act_656 : decode cL_act 656 = .ok (.iload 8, 2) := by decide +kernel
theorem dL_act_658 : decode cL_act 658 = .ok (.iconst 1, 1) := by decide +kernel
theorem dL_act_659 : decode cL_act 659 = .ok (.if_icmp .ne 8, 3) := by decide +kernel
theorem dL_act_662 : decode cL_act 662 = .ok (.bipush 9, 2) := by decide +kernel
theorem dL_act_664 : decode cL_act 664 = .ok (.goto 5, 3) := by decide +kernel
theorem dL_act_667 : decode cL_act 667 = .ok (.iload 8, 2) := by decide +kernel
theorem dL_act_669 : decode cL_act 669 = .ok (.istore 8, 2) := by decide +kernel
theorem dL_act_671 : decode cL_act 671 = .ok (.aload_n 0, 1) := by decide +kernel
theorem dL_act_672 : decode cL_act 672 = .ok (.iload 6, 2) := by decide +kernel
theorem dL_act_674 : decode cL_act 674 = .ok (.invokevirtual 22, 3) := by decide +kernel
theorem dL_act_677 : decode cL_act 677 = .ok (.istore 9, 2) := by decide +kernel
theorem dL_act_679 : decode cL_act 679 = .ok (.aload_n 0, 1) := by decide +kernel
theorem dL_act_680 : decode cL_act 680 = .ok (.iload 6, 2) := by decide +kernel
theorem dL_act_682 : decode cL_act 682 = .ok (.iload 8, 2) := by decide +kernel
theorem dL_act_684 : decode cL_act 684 = .ok (.invokevirtual 79, 3) := by decide +kernel
theorem dL_act_687 : decode cL_act 687 = .ok (.iload 9, 2) := by decide +kernel
theorem dL_act_689 : decode cL_act 689 = .ok (.if_icmp .ne 18, 3) := by decide +kernel
theorem dL_act_692 : decode cL_act 692 = .ok (.aload_n 0, 1) := by decide +kernel
theorem dL_act_693 : decode cL_act 693 = .ok (.iload 6, 2) := by decide +kernel
theorem dL_act_695 : decode cL_act 695 = .ok (.invokevirtual 22, 3) := by decide +kernel
theorem dL_act_698 : decode cL_act 698 = .ok (.iload 8, 2) := by decide +kernel
theorem dL_act_700 : decode cL_act 700 = .ok (.if_icmp .ne 7, 3) := by decide +kernel
theorem dL_act_703 : decode cL_act 703 = .ok (.iconst 1, 1) := by decide +kernel
theorem dL_act_704 : decode cL_act 704 = .ok (.goto 4, 3) := by decide +kernel
theorem dL_act_707 : decode cL_act 707 = .ok (.iconst 0, 1) := by decide +kernel
theorem dL_act_708 : decode cL_act 708 = .ok (.ireturn, 1) := by decide +kernel
theorem dL_act_709 : decode cL_act 709 = .ok (.aload_n 0, 1) := by decide +kernel
theorem dL_act_710 : decode cL_act 710 = .ok (.invokestatic 82, 3) := by decide +kernel
theorem dL_act_713 : decode cL_act 713 = .ok (.ireturn, 1) := by decide +kernel
theorem dL_law_0 : decode cL_law 0 = .ok (.new 10, 3) := by decide +kernel
theorem dL_law_3 : decode cL_law 3 = .ok (.dup, 1) := by decide +kernel
theorem dL_law_4 : decode cL_law 4 = .ok (.invokespecial 85, 3) := by decide +kernel
theorem dL_law_7 : decode cL_law 7 = .ok (.astore_n 1, 1) := by decide +kernel
theorem dL_law_8 : decode cL_law 8 = .ok (.aload_n 1, 1) := by decide +kernel
theorem dL_law_9 : decode cL_law 9 = .ok (.iconst 0, 1) := by decide +kernel
theorem dL_law_10 : decode cL_law 10 = .ok (.aload_n 0, 1) := by decide +kernel
theorem dL_law_11 : decode cL_law 11 = .ok (.iconst 0, 1) := by decide +kernel
theorem dL_law_12 : decode cL_law 12 = .ok (.invokestatic 86, 3) := by decide +kernel
theorem dL_law_15 : decode cL_law 15 = .ok (.iconst 2, 1) := by decide +kernel
theorem dL_law_16 : decode cL_law 16 = .ok (.invokestatic 47, 3) := by decide +kernel
theorem dL_law_19 : decode cL_law 19 = .ok (.invokevirtual 79, 3) := by decide +kernel
theorem dL_law_22 : decode cL_law 22 = .ok (.ifCond .ne 18, 3) := by decide +kernel
theorem dL_law_25 : decode cL_law 25 = .ok (.aload_n 1, 1) := by decide +kernel
theorem dL_law_26 : decode cL_law 26 = .ok (.invokevirtual 90, 3) := by decide +kernel
theorem dL_law_29 : decode cL_law 29 = .ok (.ifCond .ne 11, 3) := by decide +kernel
theorem dL_law_32 : decode cL_law 32 = .ok (.aload_n 1, 1) := by decide +kernel
theorem dL_law_33 : decode cL_law 33 = .ok (.invokevirtual 31, 3) := by decide +kernel
theorem dL_law_36 : decode cL_law 36 = .ok (.iconst (-1), 1) := by decide +kernel
theorem dL_law_37 : decode cL_law 37 = .ok (.if_icmp .eq 5, 3) := by decide +kernel
theorem dL_law_40 : decode cL_law 40 = .ok (.iconst 0, 1) := by decide +kernel
theorem dL_law_41 : decode cL_law 41 = .ok (.ireturn, 1) := by decide +kernel
theorem dL_law_42 : decode cL_law 42 = .ok (.iconst 0, 1) := by decide +kernel
theorem dL_law_43 : decode cL_law 43 = .ok (.istore_n 2, 1) := by decide +kernel
theorem dL_law_44 : decode cL_law 44 = .ok (.iload_n 2, 1) := by decide +kernel
theorem dL_law_45 : decode cL_law 45 = .ok (.bipush 70, 2) := by decide +kernel
theorem dL_law_47 : decode cL_law 47 = .ok (.if_icmp .ge 57, 3) := by decide +kernel
theorem dL_law_50 : decode cL_law 50 = .ok (.aload_n 1, 1) := by decide +kernel
theorem dL_law_51 : decode cL_law 51 = .ok (.aload_n 0, 1) := by decide +kernel
theorem dL_law_52 : decode cL_law 52 = .ok (.iconst 1, 1) := by decide +kernel
theorem dL_law_53 : decode cL_law 53 = .ok (.iconst 2, 1) := by decide +kernel
theorem dL_law_54 : decode cL_law 54 = .ok (.iload_n 2, 1) := by decide +kernel
theorem dL_law_55 : decode cL_law 55 = .ok (.imul, 1) := by decide +kernel
theorem dL_law_56 : decode cL_law 56 = .ok (.iadd, 1) := by decide +kernel
theorem dL_law_57 : decode cL_law 57 = .ok (.invokestatic 86, 3) := by decide +kernel
theorem dL_law_60 : decode cL_law 60 = .ok (.aload_n 0, 1) := by decide +kernel
theorem dL_law_61 : decode cL_law 61 = .ok (.iconst 2, 1) := by decide +kernel
theorem dL_law_62 : decode cL_law 62 = .ok (.iconst 2, 1) := by decide +kernel
theorem dL_law_63 : decode cL_law 63 = .ok (.iload_n 2, 1) := by decide +kernel
theorem dL_law_64 : decode cL_law 64 = .ok (.imul, 1) := by decide +kernel
theorem dL_law_65 : decode cL_law 65 = .ok (.iadd, 1) := by decide +kernel
theorem dL_law_66 : decode cL_law 66 = .ok (.invokestatic 86, 3) := by decide +kernel
theorem dL_law_69 : decode cL_law 69 = .ok (.invokestatic 93, 3) := by decide +kernel
theorem dL_law_72 : decode cL_law 72 = .ok (.ifCond .eq 24, 3) := by decide +kernel
theorem dL_law_75 : decode cL_law 75 = .ok (.aload_n 1, 1) := by decide +kernel
theorem dL_law_76 : decode cL_law 76 = .ok (.invokestatic 97, 3) := by decide +kernel
theorem dL_law_79 : decode cL_law 79 = .ok (.ifCond .eq 17, 3) := by decide +kernel
theorem dL_law_82 : decode cL_law 82 = .ok (.iload_n 2, 1) := by decide +kernel
theorem dL_law_83 : decode cL_law 83 = .ok (.iconst 2, 1) := by decide +kernel
theorem dL_law_84 : decode cL_law 84 = .ok (.irem, 1) := by decide +kernel
theorem dL_law_85 : decode cL_law 85 = .ok (.iconst 1, 1) := by decide +kernel
theorem dL_law_86 : decode cL_law 86 = .ok (.if_icmp .ne 12, 3) := by decide +kernel
theorem dL_law_89 : decode cL_law 89 = .ok (.aload_n 1, 1) := by decide +kernel
theorem dL_law_90 : decode cL_law 90 = .ok (.invokestatic 100, 3) := by decide +kernel
theorem dL_law_93 : decode cL_law 93 = .ok (.ifCond .ne 5, 3) := by decide +kernel
theorem dL_law_96 : decode cL_law 96 = .ok (.iconst 0, 1) := by decide +kernel
theorem dL_law_97 : decode cL_law 97 = .ok (.ireturn, 1) := by decide +kernel
theorem dL_law_98 : decode cL_law 98 = .ok (.iinc 2 1, 3) := by decide +kernel
theorem dL_law_101 : decode cL_law 101 = .ok (.goto (-57), 3) := by decide +kernel
theorem dL_law_104 : decode cL_law 104 = .ok (.iconst 0, 1) := by decide +kernel
theorem dL_law_105 : decode cL_law 105 = .ok (.istore_n 2, 1) := by decide +kernel
theorem dL_law_106 : decode cL_law 106 = .ok (.iconst 0, 1) := by decide +kernel
theorem dL_law_107 : decode cL_law 107 = .ok (.istore_n 3, 1) := by decide +kernel
theorem dL_law_108 : decode cL_law 108 = .ok (.iload_n 3, 1) := by decide +kernel
theorem dL_law_109 : decode cL_law 109 = .ok (.iconst 4, 1) := by decide +kernel
theorem dL_law_110 : decode cL_law 110 = .ok (.if_icmp .ge 26, 3) := by decide +kernel
theorem dL_law_113 : decode cL_law 113 = .ok (.iload_n 2, 1) := by decide +kernel
theorem dL_law_114 : decode cL_law 114 = .ok (.aload_n 1, 1) := by decide +kernel
theorem dL_law_115 : decode cL_law 115 = .ok (.iload_n 3, 1) := by decide +kernel
theorem dL_law_116 : decode cL_law 116 = .ok (.iconst 0, 1) := by decide +kernel
theorem dL_law_117 : decode cL_law 117 = .ok (.invokevirtual 50, 3) := by decide +kernel
theorem dL_law_120 : decode cL_law 120 = .ok (.ifCond .lt 7, 3) := by decide +kernel
theorem dL_law_123 : decode cL_law 123 = .ok (.iconst 1, 1) := by decide +kernel
theorem dL_law_124 : decode cL_law 124 = .ok (.goto 4, 3) := by decide +kernel
theorem dL_law_127 : decode cL_law 127 = .ok (.iconst 0, 1) := by decide +kernel
theorem dL_law_128 : decode cL_law 128 = .ok (.iadd, 1) := by decide +kernel
theorem dL_law_129 : decode cL_law 129 = .ok (.istore_n 2, 1) := by decide +kernel
theorem dL_law_130 : decode cL_law 130 = .ok (.iinc 3 1, 3) := by decide +kernel
theorem dL_law_133 : decode cL_law 133 = .ok (.goto (-25), 3) := by decide +kernel
theorem dL_law_136 : decode cL_law 136 = .ok (.aload_n 1, 1) := by decide +kernel
theorem dL_law_137 : decode cL_law 137 = .ok (.bipush 10, 2) := by decide +kernel
theorem dL_law_139 : decode cL_law 139 = .ok (.invokevirtual 9, 3) := by decide +kernel
theorem dL_law_142 : decode cL_law 142 = .ok (.iload_n 2, 1) := by decide +kernel
theorem dL_law_143 : decode cL_law 143 = .ok (.if_icmp .ne 18, 3) := by decide +kernel
theorem dL_law_146 : decode cL_law 146 = .ok (.aload_n 1, 1) := by decide +kernel
theorem dL_law_147 : decode cL_law 147 = .ok (.bipush 11, 2) := by decide +kernel
theorem dL_law_149 : decode cL_law 149 = .ok (.invokevirtual 9, 3) := by decide +kernel
theorem dL_law_152 : decode cL_law 152 = .ok (.bipush 6, 2) := by decide +kernel
theorem dL_law_154 : decode cL_law 154 = .ok (.if_icmp .gt 7, 3) := by decide +kernel
theorem dL_law_157 : decode cL_law 157 = .ok (.iconst 1, 1) := by decide +kernel
theorem dL_law_158 : decode cL_law 158 = .ok (.goto 4, 3) := by decide +kernel
theorem dL_law_161 : decode cL_law 161 = .ok (.iconst 0, 1) := by decide +kernel
theorem dL_law_162 : decode cL_law 162 = .ok (.ireturn, 1) := by decide +kernel
