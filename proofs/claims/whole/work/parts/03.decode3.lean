theorem dX9_limitOf_10 : decode cX9_limitOf 10 = .ok (.iconst 2, 1) := by decide +kernel
theorem dX9_limitOf_11 : decode cX9_limitOf 11 = .ok (.aload_n 0, 1) := by decide +kernel
theorem dX9_limitOf_12 : decode cX9_limitOf 12 = .ok (.getfield 51, 3) := by decide +kernel
theorem dX9_limitOf_15 : decode cX9_limitOf 15 = .ok (.iload_n 2, 1) := by decide +kernel
theorem dX9_limitOf_16 : decode cX9_limitOf 16 = .ok (.iaload, 1) := by decide +kernel
theorem dX9_limitOf_17 : decode cX9_limitOf 17 = .ok (.imul, 1) := by decide +kernel
theorem dX9_limitOf_18 : decode cX9_limitOf 18 = .ok (.goto 9, 3) := by decide +kernel
theorem dX9_limitOf_21 : decode cX9_limitOf 21 = .ok (.aload_n 0, 1) := by decide +kernel
theorem dX9_limitOf_22 : decode cX9_limitOf 22 = .ok (.getfield 51, 3) := by decide +kernel
theorem dX9_limitOf_25 : decode cX9_limitOf 25 = .ok (.iload_n 2, 1) := by decide +kernel
theorem dX9_limitOf_26 : decode cX9_limitOf 26 = .ok (.iaload, 1) := by decide +kernel
theorem dX9_limitOf_27 : decode cX9_limitOf 27 = .ok (.ireturn, 1) := by decide +kernel
theorem dX9_wait_0 : decode cX9_wait 0 = .ok (.aload_n 0, 1) := by decide +kernel
theorem dX9_wait_1 : decode cX9_wait 1 = .ok (.iload_n 1, 1) := by decide +kernel
theorem dX9_wait_2 : decode cX9_wait 2 = .ok (.invokevirtual 115, 3) := by decide +kernel
theorem dX9_wait_5 : decode cX9_wait 5 = .ok (.ifCond .ne 10, 3) := by decide +kernel
theorem dX9_wait_8 : decode cX9_wait 8 = .ok (.aload_n 0, 1) := by decide +kernel
theorem dX9_wait_9 : decode cX9_wait 9 = .ok (.ldc 109, 2) := by decide +kernel
theorem dX9_wait_11 : decode cX9_wait 11 = .ok (.invokevirtual 110, 3) := by decide +kernel
theorem dX9_wait_14 : decode cX9_wait 14 = .ok (.ireturn, 1) := by decide +kernel
theorem dX9_wait_15 : decode cX9_wait 15 = .ok (.aload_n 0, 1) := by decide +kernel
theorem dX9_wait_16 : decode cX9_wait 16 = .ok (.getfield 16, 3) := by decide +kernel
theorem dX9_wait_19 : decode cX9_wait 19 = .ok (.iload_n 1, 1) := by decide +kernel
theorem dX9_wait_20 : decode cX9_wait 20 = .ok (.baload, 1) := by decide +kernel
theorem dX9_wait_21 : decode cX9_wait 21 = .ok (.ifCond .eq 12, 3) := by decide +kernel
theorem dX9_wait_24 : decode cX9_wait 24 = .ok (.aload_n 0, 1) := by decide +kernel
theorem dX9_wait_25 : decode cX9_wait 25 = .ok (.iload_n 1, 1) := by decide +kernel
theorem dX9_wait_26 : decode cX9_wait 26 = .ok (.iconst 0, 1) := by decide +kernel
theorem dX9_wait_27 : decode cX9_wait 27 = .ok (.invokevirtual 132, 3) := by decide +kernel
theorem dX9_wait_30 : decode cX9_wait 30 = .ok (.ifCond .ge 10, 3) := by decide +kernel
theorem dX9_wait_33 : decode cX9_wait 33 = .ok (.aload_n 0, 1) := by decide +kernel
theorem dX9_wait_34 : decode cX9_wait 34 = .ok (.ldc 141, 2) := by decide +kernel
theorem dX9_wait_36 : decode cX9_wait 36 = .ok (.invokevirtual 110, 3) := by decide +kernel
theorem dX9_wait_39 : decode cX9_wait 39 = .ok (.ireturn, 1) := by decide +kernel
theorem dX9_wait_40 : decode cX9_wait 40 = .ok (.aload_n 0, 1) := by decide +kernel
theorem dX9_wait_41 : decode cX9_wait 41 = .ok (.getfield 126, 3) := by decide +kernel
theorem dX9_wait_44 : decode cX9_wait 44 = .ok (.istore_n 2, 1) := by decide +kernel
theorem dX9_wait_45 : decode cX9_wait 45 = .ok (.aload_n 0, 1) := by decide +kernel
theorem dX9_wait_46 : decode cX9_wait 46 = .ok (.getfield 35, 3) := by decide +kernel
theorem dX9_wait_49 : decode cX9_wait 49 = .ok (.istore_n 3, 1) := by decide +kernel
theorem dX9_wait_50 : decode cX9_wait 50 = .ok (.iconst 0, 1) := by decide +kernel
theorem dX9_wait_51 : decode cX9_wait 51 = .ok (.istore 4, 2) := by decide +kernel
theorem dX9_wait_53 : decode cX9_wait 53 = .ok (.iload 4, 2) := by decide +kernel
theorem dX9_wait_55 : decode cX9_wait 55 = .ok (.iload_n 2, 1) := by decide +kernel
theorem dX9_wait_56 : decode cX9_wait 56 = .ok (.if_icmp .ge 37, 3) := by decide +kernel
theorem dX9_wait_59 : decode cX9_wait 59 = .ok (.aload_n 0, 1) := by decide +kernel
theorem dX9_wait_60 : decode cX9_wait 60 = .ok (.getfield 84, 3) := by decide +kernel
theorem dX9_wait_63 : decode cX9_wait 63 = .ok (.iload 4, 2) := by decide +kernel
theorem dX9_wait_65 : decode cX9_wait 65 = .ok (.aload_n 0, 1) := by decide +kernel
theorem dX9_wait_66 : decode cX9_wait 66 = .ok (.getfield 26, 3) := by decide +kernel
theorem dX9_wait_69 : decode cX9_wait 69 = .ok (.iload 4, 2) := by decide +kernel
theorem dX9_wait_71 : decode cX9_wait 71 = .ok (.iaload, 1) := by decide +kernel
theorem dX9_wait_72 : decode cX9_wait 72 = .ok (.iastore, 1) := by decide +kernel
theorem dX9_wait_73 : decode cX9_wait 73 = .ok (.aload_n 0, 1) := by decide +kernel
theorem dX9_wait_74 : decode cX9_wait 74 = .ok (.getfield 87, 3) := by decide +kernel
theorem dX9_wait_77 : decode cX9_wait 77 = .ok (.iload 4, 2) := by decide +kernel
theorem dX9_wait_79 : decode cX9_wait 79 = .ok (.aload_n 0, 1) := by decide +kernel
theorem dX9_wait_80 : decode cX9_wait 80 = .ok (.getfield 29, 3) := by decide +kernel
theorem dX9_wait_83 : decode cX9_wait 83 = .ok (.iload 4, 2) := by decide +kernel
theorem dX9_wait_85 : decode cX9_wait 85 = .ok (.iaload, 1) := by decide +kernel
theorem dX9_wait_86 : decode cX9_wait 86 = .ok (.iastore, 1) := by decide +kernel
theorem dX9_wait_87 : decode cX9_wait 87 = .ok (.iinc 4 1, 3) := by decide +kernel
theorem dX9_wait_90 : decode cX9_wait 90 = .ok (.goto (-37), 3) := by decide +kernel
theorem dX9_wait_93 : decode cX9_wait 93 = .ok (.iconst 0, 1) := by decide +kernel
theorem dX9_wait_94 : decode cX9_wait 94 = .ok (.istore 4, 2) := by decide +kernel
theorem dX9_wait_96 : decode cX9_wait 96 = .ok (.iload 4, 2) := by decide +kernel
theorem dX9_wait_98 : decode cX9_wait 98 = .ok (.aload_n 0, 1) := by decide +kernel
theorem dX9_wait_99 : decode cX9_wait 99 = .ok (.getfield 102, 3) := by decide +kernel
theorem dX9_wait_102 : decode cX9_wait 102 = .ok (.if_icmp .ge 37, 3) := by decide +kernel
theorem dX9_wait_105 : decode cX9_wait 105 = .ok (.aload_n 0, 1) := by decide +kernel
theorem dX9_wait_106 : decode cX9_wait 106 = .ok (.getfield 90, 3) := by decide +kernel
theorem dX9_wait_109 : decode cX9_wait 109 = .ok (.iload 4, 2) := by decide +kernel
theorem dX9_wait_111 : decode cX9_wait 111 = .ok (.aload_n 0, 1) := by decide +kernel
theorem dX9_wait_112 : decode cX9_wait 112 = .ok (.getfield 20, 3) := by decide +kernel
theorem dX9_wait_115 : decode cX9_wait 115 = .ok (.iload 4, 2) := by decide +kernel
theorem dX9_wait_117 : decode cX9_wait 117 = .ok (.iaload, 1) := by decide +kernel
theorem dX9_wait_118 : decode cX9_wait 118 = .ok (.iastore, 1) := by decide +kernel
theorem dX9_wait_119 : decode cX9_wait 119 = .ok (.aload_n 0, 1) := by decide +kernel
theorem dX9_wait_120 : decode cX9_wait 120 = .ok (.getfield 93, 3) := by decide +kernel
theorem dX9_wait_123 : decode cX9_wait 123 = .ok (.iload 4, 2) := by decide +kernel
theorem dX9_wait_125 : decode cX9_wait 125 = .ok (.aload_n 0, 1) := by decide +kernel
theorem dX9_wait_126 : decode cX9_wait 126 = .ok (.getfield 23, 3) := by decide +kernel
theorem dX9_wait_129 : decode cX9_wait 129 = .ok (.iload 4, 2) := by decide +kernel
theorem dX9_wait_131 : decode cX9_wait 131 = .ok (.iaload, 1) := by decide +kernel
theorem dX9_wait_132 : decode cX9_wait 132 = .ok (.iastore, 1) := by decide +kernel
theorem dX9_wait_133 : decode cX9_wait 133 = .ok (.iinc 4 1, 3) := by decide +kernel
theorem dX9_wait_136 : decode cX9_wait 136 = .ok (.goto (-40), 3) := by decide +kernel
theorem dX9_wait_139 : decode cX9_wait 139 = .ok (.iconst 0, 1) := by decide +kernel
theorem dX9_wait_140 : decode cX9_wait 140 = .ok (.istore 4, 2) := by decide +kernel
theorem dX9_wait_142 : decode cX9_wait 142 = .ok (.aload_n 0, 1) := by decide +kernel
theorem dX9_wait_143 : decode cX9_wait 143 = .ok (.iconst 0, 1) := by decide +kernel
theorem dX9_wait_144 : decode cX9_wait 144 = .ok (.invokevirtual 165, 3) := by decide +kernel
theorem dX9_wait_147 : decode cX9_wait 147 = .ok (.istore 5, 2) := by decide +kernel
theorem dX9_wait_149 : decode cX9_wait 149 = .ok (.aload_n 0, 1) := by decide +kernel
theorem dX9_wait_150 : decode cX9_wait 150 = .ok (.getfield 26, 3) := by decide +kernel
theorem dX9_wait_153 : decode cX9_wait 153 = .ok (.iload 5, 2) := by decide +kernel
theorem dX9_wait_155 : decode cX9_wait 155 = .ok (.iaload, 1) := by decide +kernel
theorem dX9_wait_156 : decode cX9_wait 156 = .ok (.iload_n 1, 1) := by decide +kernel
theorem dX9_wait_157 : decode cX9_wait 157 = .ok (.if_icmp .eq 84, 3) := by decide +kernel
theorem dX9_wait_160 : decode cX9_wait 160 = .ok (.iload 4, 2) := by decide +kernel
theorem dX9_wait_162 : decode cX9_wait 162 = .ok (.bipush 100, 2) := by decide +kernel
theorem dX9_wait_164 : decode cX9_wait 164 = .ok (.if_icmp .ge 77, 3) := by decide +kernel
theorem dX9_wait_167 : decode cX9_wait 167 = .ok (.aload_n 0, 1) := by decide +kernel
theorem dX9_wait_168 : decode cX9_wait 168 = .ok (.getfield 26, 3) := by decide +kernel
theorem dX9_wait_171 : decode cX9_wait 171 = .ok (.iload 5, 2) := by decide +kernel
theorem dX9_wait_173 : decode cX9_wait 173 = .ok (.iaload, 1) := by decide +kernel
theorem dX9_wait_174 : decode cX9_wait 174 = .ok (.istore 6, 2) := by decide +kernel
theorem dX9_wait_176 : decode cX9_wait 176 = .ok (.aload_n 0, 1) := by decide +kernel
theorem dX9_wait_177 : decode cX9_wait 177 = .ok (.iload 5, 2) := by decide +kernel
theorem dX9_wait_179 : decode cX9_wait 179 = .ok (.invokevirtual 142, 3) := by decide +kernel
theorem dX9_wait_182 : decode cX9_wait 182 = .ok (.aload_n 0, 1) := by decide +kernel
theorem dX9_wait_183 : decode cX9_wait 183 = .ok (.getfield 23, 3) := by decide +kernel
theorem dX9_wait_186 : decode cX9_wait 186 = .ok (.iload 6, 2) := by decide +kernel
theorem dX9_wait_188 : decode cX9_wait 188 = .ok (.dup2, 1) := by decide +kernel
theorem dX9_wait_189 : decode cX9_wait 189 = .ok (.iaload, 1) := by decide +kernel
theorem dX9_wait_190 : decode cX9_wait 190 = .ok (.iconst 1, 1) := by decide +kernel
theorem dX9_wait_191 : decode cX9_wait 191 = .ok (.iadd, 1) := by decide +kernel
theorem dX9_wait_192 : decode cX9_wait 192 = .ok (.iastore, 1) := by decide +kernel
theorem dX9_wait_193 : decode cX9_wait 193 = .ok (.aload_n 0, 1) := by decide +kernel
theorem dX9_wait_194 : decode cX9_wait 194 = .ok (.aload_n 0, 1) := by decide +kernel
theorem dX9_wait_195 : decode cX9_wait 195 = .ok (.getfield 13, 3) := by decide +kernel
theorem dX9_wait_198 : decode cX9_wait 198 = .ok (.iload 6, 2) := by decide +kernel
theorem dX9_wait_200 : decode cX9_wait 200 = .ok (.iaload, 1) := by decide +kernel
theorem dX9_wait_201 : decode cX9_wait 201 = .ok (.putfield 35, 3) := by decide +kernel
theorem dX9_wait_204 : decode cX9_wait 204 = .ok (.aload_n 0, 1) := by decide +kernel
theorem dX9_wait_205 : decode cX9_wait 205 = .ok (.getfield 20, 3) := by decide +kernel
theorem dX9_wait_208 : decode cX9_wait 208 = .ok (.iload 6, 2) := by decide +kernel
theorem dX9_wait_210 : decode cX9_wait 210 = .ok (.dup2, 1) := by decide +kernel
theorem dX9_wait_211 : decode cX9_wait 211 = .ok (.iaload, 1) := by decide +kernel
theorem dX9_wait_212 : decode cX9_wait 212 = .ok (.aload_n 0, 1) := by decide +kernel
theorem dX9_wait_213 : decode cX9_wait 213 = .ok (.iload 6, 2) := by decide +kernel
theorem dX9_wait_215 : decode cX9_wait 215 = .ok (.iconst 0, 1) := by decide +kernel
theorem dX9_wait_216 : decode cX9_wait 216 = .ok (.invokevirtual 168, 3) := by decide +kernel
theorem dX9_wait_219 : decode cX9_wait 219 = .ok (.iadd, 1) := by decide +kernel
theorem dX9_wait_220 : decode cX9_wait 220 = .ok (.iastore, 1) := by decide +kernel
theorem dX9_wait_221 : decode cX9_wait 221 = .ok (.aload_n 0, 1) := by decide +kernel
theorem dX9_wait_222 : decode cX9_wait 222 = .ok (.iload 6, 2) := by decide +kernel
theorem dX9_wait_224 : decode cX9_wait 224 = .ok (.iconst 0, 1) := by decide +kernel
theorem dX9_wait_225 : decode cX9_wait 225 = .ok (.invokevirtual 137, 3) := by decide +kernel
theorem dX9_wait_228 : decode cX9_wait 228 = .ok (.iinc 4 1, 3) := by decide +kernel
theorem dX9_wait_231 : decode cX9_wait 231 = .ok (.aload_n 0, 1) := by decide +kernel
theorem dX9_wait_232 : decode cX9_wait 232 = .ok (.iconst 0, 1) := by decide +kernel
theorem dX9_wait_233 : decode cX9_wait 233 = .ok (.invokevirtual 165, 3) := by decide +kernel
theorem dX9_wait_236 : decode cX9_wait 236 = .ok (.istore 5, 2) := by decide +kernel
theorem dX9_wait_238 : decode cX9_wait 238 = .ok (.goto (-89), 3) := by decide +kernel
theorem dX9_wait_241 : decode cX9_wait 241 = .ok (.aload_n 0, 1) := by decide +kernel
theorem dX9_wait_242 : decode cX9_wait 242 = .ok (.iload_n 2, 1) := by decide +kernel
theorem dX9_wait_243 : decode cX9_wait 243 = .ok (.putfield 126, 3) := by decide +kernel
theorem dX9_wait_246 : decode cX9_wait 246 = .ok (.aload_n 0, 1) := by decide +kernel
theorem dX9_wait_247 : decode cX9_wait 247 = .ok (.iload_n 3, 1) := by decide +kernel
theorem dX9_wait_248 : decode cX9_wait 248 = .ok (.putfield 35, 3) := by decide +kernel
theorem dX9_wait_251 : decode cX9_wait 251 = .ok (.iconst 0, 1) := by decide +kernel
theorem dX9_wait_252 : decode cX9_wait 252 = .ok (.istore 6, 2) := by decide +kernel
theorem dX9_wait_254 : decode cX9_wait 254 = .ok (.iload 6, 2) := by decide +kernel
theorem dX9_wait_256 : decode cX9_wait 256 = .ok (.iload_n 2, 1) := by decide +kernel
theorem dX9_wait_257 : decode cX9_wait 257 = .ok (.if_icmp .ge 37, 3) := by decide +kernel
theorem dX9_wait_260 : decode cX9_wait 260 = .ok (.aload_n 0, 1) := by decide +kernel
theorem dX9_wait_261 : decode cX9_wait 261 = .ok (.getfield 26, 3) := by decide +kernel
theorem dX9_wait_264 : decode cX9_wait 264 = .ok (.iload 6, 2) := by decide +kernel
theorem dX9_wait_266 : decode cX9_wait 266 = .ok (.aload_n 0, 1) := by decide +kernel
theorem dX9_wait_267 : decode cX9_wait 267 = .ok (.getfield 84, 3) := by decide +kernel
theorem dX9_wait_270 : decode cX9_wait 270 = .ok (.iload 6, 2) := by decide +kernel
theorem dX9_wait_272 : decode cX9_wait 272 = .ok (.iaload, 1) := by decide +kernel
theorem dX9_wait_273 : decode cX9_wait 273 = .ok (.iastore, 1) := by decide +kernel
theorem dX9_wait_274 : decode cX9_wait 274 = .ok (.aload_n 0, 1) := by decide +kernel
theorem dX9_wait_275 : decode cX9_wait 275 = .ok (.getfield 29, 3) := by decide +kernel
theorem dX9_wait_278 : decode cX9_wait 278 = .ok (.iload 6, 2) := by decide +kernel
theorem dX9_wait_280 : decode cX9_wait 280 = .ok (.aload_n 0, 1) := by decide +kernel
theorem dX9_wait_281 : decode cX9_wait 281 = .ok (.getfield 87, 3) := by decide +kernel
theorem dX9_wait_284 : decode cX9_wait 284 = .ok (.iload 6, 2) := by decide +kernel
theorem dX9_wait_286 : decode cX9_wait 286 = .ok (.iaload, 1) := by decide +kernel
theorem dX9_wait_287 : decode cX9_wait 287 = .ok (.iastore, 1) := by decide +kernel
theorem dX9_wait_288 : decode cX9_wait 288 = .ok (.iinc 6 1, 3) := by decide +kernel
theorem dX9_wait_291 : decode cX9_wait 291 = .ok (.goto (-37), 3) := by decide +kernel
theorem dX9_wait_294 : decode cX9_wait 294 = .ok (.iconst 0, 1) := by decide +kernel
theorem dX9_wait_295 : decode cX9_wait 295 = .ok (.istore 6, 2) := by decide +kernel
theorem dX9_wait_297 : decode cX9_wait 297 = .ok (.iload 6, 2) := by decide +kernel
theorem dX9_wait_299 : decode cX9_wait 299 = .ok (.aload_n 0, 1) := by decide +kernel
theorem dX9_wait_300 : decode cX9_wait 300 = .ok (.getfield 102, 3) := by decide +kernel
theorem dX9_wait_303 : decode cX9_wait 303 = .ok (.if_icmp .ge 37, 3) := by decide +kernel
theorem dX9_wait_306 : decode cX9_wait 306 = .ok (.aload_n 0, 1) := by decide +kernel
theorem dX9_wait_307 : decode cX9_wait 307 = .ok (.getfield 20, 3) := by decide +kernel
theorem dX9_wait_310 : decode cX9_wait 310 = .ok (.iload 6, 2) := by decide +kernel
theorem dX9_wait_312 : decode cX9_wait 312 = .ok (.aload_n 0, 1) := by decide +kernel
theorem dX9_wait_313 : decode cX9_wait 313 = .ok (.getfield 90, 3) := by decide +kernel
theorem dX9_wait_316 : decode cX9_wait 316 = .ok (.iload 6, 2) := by decide +kernel
theorem dX9_wait_318 : decode cX9_wait 318 = .ok (.iaload, 1) := by decide +kernel
theorem dX9_wait_319 : decode cX9_wait 319 = .ok (.iastore, 1) := by decide +kernel
theorem dX9_wait_320 : decode cX9_wait 320 = .ok (.aload_n 0, 1) := by decide +kernel
theorem dX9_wait_321 : decode cX9_wait 321 = .ok (.getfield 23, 3) := by decide +kernel
theorem dX9_wait_324 : decode cX9_wait 324 = .ok (.iload 6, 2) := by decide +kernel
theorem dX9_wait_326 : decode cX9_wait 326 = .ok (.aload_n 0, 1) := by decide +kernel
theorem dX9_wait_327 : decode cX9_wait 327 = .ok (.getfield 93, 3) := by decide +kernel
theorem dX9_wait_330 : decode cX9_wait 330 = .ok (.iload 6, 2) := by decide +kernel
theorem dX9_wait_332 : decode cX9_wait 332 = .ok (.iaload, 1) := by decide +kernel
theorem dX9_wait_333 : decode cX9_wait 333 = .ok (.iastore, 1) := by decide +kernel
theorem dX9_wait_334 : decode cX9_wait 334 = .ok (.iinc 6 1, 3) := by decide +kernel
theorem dX9_wait_337 : decode cX9_wait 337 = .ok (.goto (-40), 3) := by decide +kernel
theorem dX9_wait_340 : decode cX9_wait 340 = .ok (.iload 4, 2) := by decide +kernel
theorem dX9_wait_342 : decode cX9_wait 342 = .ok (.bipush 100, 2) := by decide +kernel
theorem dX9_wait_344 : decode cX9_wait 344 = .ok (.if_icmp .ne 12, 3) := by decide +kernel
theorem dX9_wait_347 : decode cX9_wait 347 = .ok (.aload_n 0, 1) := by decide +kernel
theorem dX9_wait_348 : decode cX9_wait 348 = .ok (.ldc 171, 2) := by decide +kernel
theorem dX9_wait_350 : decode cX9_wait 350 = .ok (.invokevirtual 110, 3) := by decide +kernel
theorem dX9_wait_353 : decode cX9_wait 353 = .ok (.goto 5, 3) := by decide +kernel
theorem dX9_wait_356 : decode cX9_wait 356 = .ok (.iload 4, 2) := by decide +kernel
theorem dX9_wait_358 : decode cX9_wait 358 = .ok (.ireturn, 1) := by decide +kernel
theorem dX9_fits_0 : decode cX9_fits 0 = .ok (.iload_n 1, 1) := by decide +kernel
theorem dX9_fits_1 : decode cX9_fits 1 = .ok (.iconst 0, 1) := by decide +kernel
theorem dX9_fits_2 : decode cX9_fits 2 = .ok (.sipush 1000, 3) := by decide +kernel
theorem dX9_fits_5 : decode cX9_fits 5 = .ok (.invokestatic 105, 3) := by decide +kernel
theorem dX9_fits_8 : decode cX9_fits 8 = .ok (.ifCond .ne 10, 3) := by decide +kernel
theorem dX9_fits_11 : decode cX9_fits 11 = .ok (.aload_n 0, 1) := by decide +kernel
theorem dX9_fits_12 : decode cX9_fits 12 = .ok (.ldc 109, 2) := by decide +kernel
theorem dX9_fits_14 : decode cX9_fits 14 = .ok (.invokevirtual 110, 3) := by decide +kernel
theorem dX9_fits_17 : decode cX9_fits 17 = .ok (.ireturn, 1) := by decide +kernel
theorem dX9_fits_18 : decode cX9_fits 18 = .ok (.aload_n 0, 1) := by decide +kernel
theorem dX9_fits_19 : decode cX9_fits 19 = .ok (.invokevirtual 162, 3) := by decide +kernel
theorem dX9_fits_22 : decode cX9_fits 22 = .ok (.iconst 0, 1) := by decide +kernel
theorem dX9_fits_23 : decode cX9_fits 23 = .ok (.istore_n 3, 1) := by decide +kernel
theorem dX9_fits_24 : decode cX9_fits 24 = .ok (.iload_n 1, 1) := by decide +kernel
theorem dX9_fits_25 : decode cX9_fits 25 = .ok (.istore 4, 2) := by decide +kernel
theorem dX9_fits_27 : decode cX9_fits 27 = .ok (.iconst 0, 1) := by decide +kernel
theorem dX9_fits_28 : decode cX9_fits 28 = .ok (.istore 5, 2) := by decide +kernel
theorem dX9_fits_30 : decode cX9_fits 30 = .ok (.iload 5, 2) := by decide +kernel
theorem dX9_fits_32 : decode cX9_fits 32 = .ok (.aload_n 0, 1) := by decide +kernel
theorem dX9_fits_33 : decode cX9_fits 33 = .ok (.getfield 155, 3) := by decide +kernel
theorem dX9_fits_36 : decode cX9_fits 36 = .ok (.if_icmp .ge 65, 3) := by decide +kernel
theorem dX9_fits_39 : decode cX9_fits 39 = .ok (.aload_n 0, 1) := by decide +kernel
theorem dX9_fits_40 : decode cX9_fits 40 = .ok (.aload_n 0, 1) := by decide +kernel
theorem dX9_fits_41 : decode cX9_fits 41 = .ok (.getfield 26, 3) := by decide +kernel
theorem dX9_fits_44 : decode cX9_fits 44 = .ok (.aload_n 0, 1) := by decide +kernel
theorem dX9_fits_45 : decode cX9_fits 45 = .ok (.getfield 81, 3) := by decide +kernel
theorem dX9_fits_48 : decode cX9_fits 48 = .ok (.iload 5, 2) := by decide +kernel
theorem dX9_fits_50 : decode cX9_fits 50 = .ok (.iaload, 1) := by decide +kernel
theorem dX9_fits_51 : decode cX9_fits 51 = .ok (.iaload, 1) := by decide +kernel
theorem dX9_fits_52 : decode cX9_fits 52 = .ok (.aload_n 0, 1) := by decide +kernel
theorem dX9_fits_53 : decode cX9_fits 53 = .ok (.getfield 29, 3) := by decide +kernel
theorem dX9_fits_56 : decode cX9_fits 56 = .ok (.aload_n 0, 1) := by decide +kernel
theorem dX9_fits_57 : decode cX9_fits 57 = .ok (.getfield 81, 3) := by decide +kernel
theorem dX9_fits_60 : decode cX9_fits 60 = .ok (.iload 5, 2) := by decide +kernel
theorem dX9_fits_62 : decode cX9_fits 62 = .ok (.iaload, 1) := by decide +kernel
theorem dX9_fits_63 : decode cX9_fits 63 = .ok (.iaload, 1) := by decide +kernel
theorem dX9_fits_64 : decode cX9_fits 64 = .ok (.invokevirtual 168, 3) := by decide +kernel
theorem dX9_fits_67 : decode cX9_fits 67 = .ok (.istore 6, 2) := by decide +kernel
theorem dX9_fits_69 : decode cX9_fits 69 = .ok (.iload 6, 2) := by decide +kernel
theorem dX9_fits_71 : decode cX9_fits 71 = .ok (.iload 4, 2) := by decide +kernel
theorem dX9_fits_73 : decode cX9_fits 73 = .ok (.if_icmp .gt 16, 3) := by decide +kernel
theorem dX9_fits_76 : decode cX9_fits 76 = .ok (.iinc 3 1, 3) := by decide +kernel
theorem dX9_fits_79 : decode cX9_fits 79 = .ok (.iload 4, 2) := by decide +kernel
theorem dX9_fits_81 : decode cX9_fits 81 = .ok (.iload 6, 2) := by decide +kernel
theorem dX9_fits_83 : decode cX9_fits 83 = .ok (.isub, 1) := by decide +kernel
theorem dX9_fits_84 : decode cX9_fits 84 = .ok (.istore 4, 2) := by decide +kernel
theorem dX9_fits_86 : decode cX9_fits 86 = .ok (.goto 9, 3) := by decide +kernel
theorem dX9_fits_89 : decode cX9_fits 89 = .ok (.iload_n 2, 1) := by decide +kernel
theorem dX9_fits_90 : decode cX9_fits 90 = .ok (.ifCond .ne 5, 3) := by decide +kernel
theorem dX9_fits_93 : decode cX9_fits 93 = .ok (.iload_n 3, 1) := by decide +kernel
theorem dX9_fits_94 : decode cX9_fits 94 = .ok (.ireturn, 1) := by decide +kernel
theorem dX9_fits_95 : decode cX9_fits 95 = .ok (.iinc 5 1, 3) := by decide +kernel
theorem dX9_fits_98 : decode cX9_fits 98 = .ok (.goto (-68), 3) := by decide +kernel
theorem dX9_fits_101 : decode cX9_fits 101 = .ok (.iload_n 3, 1) := by decide +kernel
theorem dX9_fits_102 : decode cX9_fits 102 = .ok (.ireturn, 1) := by decide +kernel
theorem dX9_take_0 : decode cX9_take 0 = .ok (.aload_n 0, 1) := by decide +kernel
theorem dX9_take_1 : decode cX9_take 1 = .ok (.getfield 26, 3) := by decide +kernel
theorem dX9_take_4 : decode cX9_take 4 = .ok (.iload_n 1, 1) := by decide +kernel
theorem dX9_take_5 : decode cX9_take 5 = .ok (.iaload, 1) := by decide +kernel
theorem dX9_take_6 : decode cX9_take 6 = .ok (.istore_n 2, 1) := by decide +kernel
theorem dX9_take_7 : decode cX9_take 7 = .ok (.aload_n 0, 1) := by decide +kernel
theorem dX9_take_8 : decode cX9_take 8 = .ok (.getfield 29, 3) := by decide +kernel
theorem dX9_take_11 : decode cX9_take 11 = .ok (.iload_n 1, 1) := by decide +kernel
theorem dX9_take_12 : decode cX9_take 12 = .ok (.iaload, 1) := by decide +kernel
theorem dX9_take_13 : decode cX9_take 13 = .ok (.istore_n 3, 1) := by decide +kernel
theorem dX9_take_14 : decode cX9_take 14 = .ok (.aload_n 0, 1) := by decide +kernel
theorem dX9_take_15 : decode cX9_take 15 = .ok (.iload_n 1, 1) := by decide +kernel
theorem dX9_take_16 : decode cX9_take 16 = .ok (.invokevirtual 142, 3) := by decide +kernel
theorem dX9_take_19 : decode cX9_take 19 = .ok (.aload_n 0, 1) := by decide +kernel
theorem dX9_take_20 : decode cX9_take 20 = .ok (.getfield 39, 3) := by decide +kernel
theorem dX9_take_23 : decode cX9_take 23 = .ok (.aload_n 0, 1) := by decide +kernel
theorem dX9_take_24 : decode cX9_take 24 = .ok (.getfield 172, 3) := by decide +kernel
theorem dX9_take_27 : decode cX9_take 27 = .ok (.iload_n 2, 1) := by decide +kernel
theorem dX9_take_28 : decode cX9_take 28 = .ok (.iastore, 1) := by decide +kernel
theorem dX9_take_29 : decode cX9_take 29 = .ok (.aload_n 0, 1) := by decide +kernel
theorem dX9_take_30 : decode cX9_take 30 = .ok (.getfield 42, 3) := by decide +kernel
theorem dX9_take_33 : decode cX9_take 33 = .ok (.aload_n 0, 1) := by decide +kernel
theorem dX9_take_34 : decode cX9_take 34 = .ok (.getfield 172, 3) := by decide +kernel
theorem dX9_take_37 : decode cX9_take 37 = .ok (.iload_n 3, 1) := by decide +kernel
theorem dX9_take_38 : decode cX9_take 38 = .ok (.iastore, 1) := by decide +kernel
theorem dX9_take_39 : decode cX9_take 39 = .ok (.aload_n 0, 1) := by decide +kernel
theorem dX9_take_40 : decode cX9_take 40 = .ok (.getfield 45, 3) := by decide +kernel
theorem dX9_take_43 : decode cX9_take 43 = .ok (.aload_n 0, 1) := by decide +kernel
theorem dX9_take_44 : decode cX9_take 44 = .ok (.getfield 172, 3) := by decide +kernel
theorem dX9_take_47 : decode cX9_take 47 = .ok (.aload_n 0, 1) := by decide +kernel
theorem dX9_take_48 : decode cX9_take 48 = .ok (.iload_n 2, 1) := by decide +kernel
theorem dX9_take_49 : decode cX9_take 49 = .ok (.iload_n 3, 1) := by decide +kernel
theorem dX9_take_50 : decode cX9_take 50 = .ok (.invokevirtual 168, 3) := by decide +kernel
theorem dX9_take_53 : decode cX9_take 53 = .ok (.iastore, 1) := by decide +kernel
theorem dX9_take_54 : decode cX9_take 54 = .ok (.aload_n 0, 1) := by decide +kernel
theorem dX9_take_55 : decode cX9_take 55 = .ok (.getfield 48, 3) := by decide +kernel
theorem dX9_take_58 : decode cX9_take 58 = .ok (.aload_n 0, 1) := by decide +kernel
theorem dX9_take_59 : decode cX9_take 59 = .ok (.getfield 172, 3) := by decide +kernel
theorem dX9_take_62 : decode cX9_take 62 = .ok (.iconst 0, 1) := by decide +kernel
theorem dX9_take_63 : decode cX9_take 63 = .ok (.iastore, 1) := by decide +kernel
theorem dX9_take_64 : decode cX9_take 64 = .ok (.aload_n 0, 1) := by decide +kernel
theorem dX9_take_65 : decode cX9_take 65 = .ok (.dup, 1) := by decide +kernel
theorem dX9_take_66 : decode cX9_take 66 = .ok (.getfield 172, 3) := by decide +kernel
theorem dX9_take_69 : decode cX9_take 69 = .ok (.iconst 1, 1) := by decide +kernel
theorem dX9_take_70 : decode cX9_take 70 = .ok (.iadd, 1) := by decide +kernel
theorem dX9_take_71 : decode cX9_take 71 = .ok (.putfield 172, 3) := by decide +kernel
theorem dX9_take_74 : decode cX9_take 74 = .ok (.aload_n 0, 1) := by decide +kernel
theorem dX9_take_75 : decode cX9_take 75 = .ok (.getfield 23, 3) := by decide +kernel
theorem dX9_take_78 : decode cX9_take 78 = .ok (.iload_n 2, 1) := by decide +kernel
theorem dX9_take_79 : decode cX9_take 79 = .ok (.dup2, 1) := by decide +kernel
theorem dX9_take_80 : decode cX9_take 80 = .ok (.iaload, 1) := by decide +kernel
theorem dX9_take_81 : decode cX9_take 81 = .ok (.iload_n 3, 1) := by decide +kernel
theorem dX9_take_82 : decode cX9_take 82 = .ok (.ifCond .ne 7, 3) := by decide +kernel
theorem dX9_take_85 : decode cX9_take 85 = .ok (.iconst 1, 1) := by decide +kernel
theorem dX9_take_86 : decode cX9_take 86 = .ok (.goto 4, 3) := by decide +kernel
theorem dX9_take_89 : decode cX9_take 89 = .ok (.iconst 0, 1) := by decide +kernel
theorem dX9_take_90 : decode cX9_take 90 = .ok (.iadd, 1) := by decide +kernel
theorem dX9_take_91 : decode cX9_take 91 = .ok (.iastore, 1) := by decide +kernel
theorem dX9_take_92 : decode cX9_take 92 = .ok (.aload_n 0, 1) := by decide +kernel
theorem dX9_take_93 : decode cX9_take 93 = .ok (.aload_n 0, 1) := by decide +kernel
theorem dX9_take_94 : decode cX9_take 94 = .ok (.getfield 13, 3) := by decide +kernel
theorem dX9_take_97 : decode cX9_take 97 = .ok (.iload_n 2, 1) := by decide +kernel
theorem dX9_take_98 : decode cX9_take 98 = .ok (.iaload, 1) := by decide +kernel
theorem dX9_take_99 : decode cX9_take 99 = .ok (.putfield 35, 3) := by decide +kernel
theorem dX9_take_102 : decode cX9_take 102 = .ok (.iload_n 2, 1) := by decide +kernel
theorem dX9_take_103 : decode cX9_take 103 = .ok (.ireturn, 1) := by decide +kernel
theorem dX9_end_0 : decode cX9_end 0 = .ok (.aload_n 0, 1) := by decide +kernel
theorem dX9_end_1 : decode cX9_end 1 = .ok (.dup, 1) := by decide +kernel
theorem dX9_end_2 : decode cX9_end 2 = .ok (.getfield 172, 3) := by decide +kernel
theorem dX9_end_5 : decode cX9_end 5 = .ok (.iconst 1, 1) := by decide +kernel
theorem dX9_end_6 : decode cX9_end 6 = .ok (.isub, 1) := by decide +kernel
theorem dX9_end_7 : decode cX9_end 7 = .ok (.putfield 172, 3) := by decide +kernel
theorem dX9_end_10 : decode cX9_end 10 = .ok (.aload_n 0, 1) := by decide +kernel
theorem dX9_end_11 : decode cX9_end 11 = .ok (.getfield 175, 3) := by decide +kernel
theorem dX9_end_14 : decode cX9_end 14 = .ok (.bipush 100, 2) := by decide +kernel
theorem dX9_end_16 : decode cX9_end 16 = .ok (.if_icmp .ne 81, 3) := by decide +kernel
theorem dX9_end_19 : decode cX9_end 19 = .ok (.aload_n 0, 1) := by decide +kernel
theorem dX9_end_20 : decode cX9_end 20 = .ok (.dup, 1) := by decide +kernel
theorem dX9_end_21 : decode cX9_end 21 = .ok (.getfield 175, 3) := by decide +kernel
theorem dX9_end_24 : decode cX9_end 24 = .ok (.iconst 1, 1) := by decide +kernel
theorem dX9_end_25 : decode cX9_end 25 = .ok (.isub, 1) := by decide +kernel
theorem dX9_end_26 : decode cX9_end 26 = .ok (.putfield 175, 3) := by decide +kernel
theorem dX9_end_29 : decode cX9_end 29 = .ok (.aload_n 0, 1) := by decide +kernel
theorem dX9_end_30 : decode cX9_end 30 = .ok (.dup, 1) := by decide +kernel
theorem dX9_end_31 : decode cX9_end 31 = .ok (.getfield 178, 3) := by decide +kernel
theorem dX9_end_34 : decode cX9_end 34 = .ok (.iconst 1, 1) := by decide +kernel
theorem dX9_end_35 : decode cX9_end 35 = .ok (.iadd, 1) := by decide +kernel
theorem dX9_end_36 : decode cX9_end 36 = .ok (.putfield 178, 3) := by decide +kernel
theorem dX9_end_39 : decode cX9_end 39 = .ok (.iconst 0, 1) := by decide +kernel
theorem dX9_end_40 : decode cX9_end 40 = .ok (.istore_n 1, 1) := by decide +kernel
theorem dX9_end_41 : decode cX9_end 41 = .ok (.iload_n 1, 1) := by decide +kernel
theorem dX9_end_42 : decode cX9_end 42 = .ok (.aload_n 0, 1) := by decide +kernel
theorem dX9_end_43 : decode cX9_end 43 = .ok (.getfield 175, 3) := by decide +kernel
theorem dX9_end_46 : decode cX9_end 46 = .ok (.if_icmp .ge 51, 3) := by decide +kernel
theorem dX9_end_49 : decode cX9_end 49 = .ok (.aload_n 0, 1) := by decide +kernel
theorem dX9_end_50 : decode cX9_end 50 = .ok (.getfield 57, 3) := by decide +kernel
theorem dX9_end_53 : decode cX9_end 53 = .ok (.iload_n 1, 1) := by decide +kernel
theorem dX9_end_54 : decode cX9_end 54 = .ok (.aload_n 0, 1) := by decide +kernel
theorem dX9_end_55 : decode cX9_end 55 = .ok (.getfield 57, 3) := by decide +kernel
theorem dX9_end_58 : decode cX9_end 58 = .ok (.iload_n 1, 1) := by decide +kernel
theorem dX9_end_59 : decode cX9_end 59 = .ok (.iconst 1, 1) := by decide +kernel
theorem dX9_end_60 : decode cX9_end 60 = .ok (.iadd, 1) := by decide +kernel
theorem dX9_end_61 : decode cX9_end 61 = .ok (.iaload, 1) := by decide +kernel
theorem dX9_end_62 : decode cX9_end 62 = .ok (.iastore, 1) := by decide +kernel
theorem dX9_end_63 : decode cX9_end 63 = .ok (.aload_n 0, 1) := by decide +kernel
theorem dX9_end_64 : decode cX9_end 64 = .ok (.getfield 60, 3) := by decide +kernel
theorem dX9_end_67 : decode cX9_end 67 = .ok (.iload_n 1, 1) := by decide +kernel
theorem dX9_end_68 : decode cX9_end 68 = .ok (.aload_n 0, 1) := by decide +kernel
theorem dX9_end_69 : decode cX9_end 69 = .ok (.getfield 60, 3) := by decide +kernel
theorem dX9_end_72 : decode cX9_end 72 = .ok (.iload_n 1, 1) := by decide +kernel
theorem dX9_end_73 : decode cX9_end 73 = .ok (.iconst 1, 1) := by decide +kernel
theorem dX9_end_74 : decode cX9_end 74 = .ok (.iadd, 1) := by decide +kernel
theorem dX9_end_75 : decode cX9_end 75 = .ok (.iaload, 1) := by decide +kernel
theorem dX9_end_76 : decode cX9_end 76 = .ok (.iastore, 1) := by decide +kernel
theorem dX9_end_77 : decode cX9_end 77 = .ok (.aload_n 0, 1) := by decide +kernel
theorem dX9_end_78 : decode cX9_end 78 = .ok (.getfield 63, 3) := by decide +kernel
theorem dX9_end_81 : decode cX9_end 81 = .ok (.iload_n 1, 1) := by decide +kernel
theorem dX9_end_82 : decode cX9_end 82 = .ok (.aload_n 0, 1) := by decide +kernel
theorem dX9_end_83 : decode cX9_end 83 = .ok (.getfield 63, 3) := by decide +kernel
theorem dX9_end_86 : decode cX9_end 86 = .ok (.iload_n 1, 1) := by decide +kernel
theorem dX9_end_87 : decode cX9_end 87 = .ok (.iconst 1, 1) := by decide +kernel
theorem dX9_end_88 : decode cX9_end 88 = .ok (.iadd, 1) := by decide +kernel
theorem dX9_end_89 : decode cX9_end 89 = .ok (.iaload, 1) := by decide +kernel
theorem dX9_end_90 : decode cX9_end 90 = .ok (.iastore, 1) := by decide +kernel
theorem dX9_end_91 : decode cX9_end 91 = .ok (.iinc 1 1, 3) := by decide +kernel
theorem dX9_end_94 : decode cX9_end 94 = .ok (.goto (-53), 3) := by decide +kernel
theorem dX9_end_97 : decode cX9_end 97 = .ok (.aload_n 0, 1) := by decide +kernel
theorem dX9_end_98 : decode cX9_end 98 = .ok (.getfield 57, 3) := by decide +kernel
theorem dX9_end_101 : decode cX9_end 101 = .ok (.aload_n 0, 1) := by decide +kernel
theorem dX9_end_102 : decode cX9_end 102 = .ok (.getfield 175, 3) := by decide +kernel
theorem dX9_end_105 : decode cX9_end 105 = .ok (.aload_n 0, 1) := by decide +kernel
theorem dX9_end_106 : decode cX9_end 106 = .ok (.getfield 39, 3) := by decide +kernel
theorem dX9_end_109 : decode cX9_end 109 = .ok (.aload_n 0, 1) := by decide +kernel
theorem dX9_end_110 : decode cX9_end 110 = .ok (.getfield 172, 3) := by decide +kernel
theorem dX9_end_113 : decode cX9_end 113 = .ok (.iaload, 1) := by decide +kernel
theorem dX9_end_114 : decode cX9_end 114 = .ok (.iastore, 1) := by decide +kernel
theorem dX9_end_115 : decode cX9_end 115 = .ok (.aload_n 0, 1) := by decide +kernel
theorem dX9_end_116 : decode cX9_end 116 = .ok (.getfield 60, 3) := by decide +kernel
theorem dX9_end_119 : decode cX9_end 119 = .ok (.aload_n 0, 1) := by decide +kernel
theorem dX9_end_120 : decode cX9_end 120 = .ok (.getfield 175, 3) := by decide +kernel
theorem dX9_end_123 : decode cX9_end 123 = .ok (.aload_n 0, 1) := by decide +kernel
theorem dX9_end_124 : decode cX9_end 124 = .ok (.getfield 42, 3) := by decide +kernel
theorem dX9_end_127 : decode cX9_end 127 = .ok (.aload_n 0, 1) := by decide +kernel
theorem dX9_end_128 : decode cX9_end 128 = .ok (.getfield 172, 3) := by decide +kernel
theorem dX9_end_131 : decode cX9_end 131 = .ok (.iaload, 1) := by decide +kernel
theorem dX9_end_132 : decode cX9_end 132 = .ok (.iastore, 1) := by decide +kernel
theorem dX9_end_133 : decode cX9_end 133 = .ok (.aload_n 0, 1) := by decide +kernel
theorem dX9_end_134 : decode cX9_end 134 = .ok (.getfield 63, 3) := by decide +kernel
theorem dX9_end_137 : decode cX9_end 137 = .ok (.aload_n 0, 1) := by decide +kernel
theorem dX9_end_138 : decode cX9_end 138 = .ok (.getfield 175, 3) := by decide +kernel
theorem dX9_end_141 : decode cX9_end 141 = .ok (.aload_n 0, 1) := by decide +kernel
theorem dX9_end_142 : decode cX9_end 142 = .ok (.getfield 48, 3) := by decide +kernel
theorem dX9_end_145 : decode cX9_end 145 = .ok (.aload_n 0, 1) := by decide +kernel
theorem dX9_end_146 : decode cX9_end 146 = .ok (.getfield 172, 3) := by decide +kernel
theorem dX9_end_149 : decode cX9_end 149 = .ok (.iaload, 1) := by decide +kernel
theorem dX9_end_150 : decode cX9_end 150 = .ok (.iastore, 1) := by decide +kernel
theorem dX9_end_151 : decode cX9_end 151 = .ok (.aload_n 0, 1) := by decide +kernel
theorem dX9_end_152 : decode cX9_end 152 = .ok (.dup, 1) := by decide +kernel
theorem dX9_end_153 : decode cX9_end 153 = .ok (.getfield 175, 3) := by decide +kernel
theorem dX9_end_156 : decode cX9_end 156 = .ok (.iconst 1, 1) := by decide +kernel
theorem dX9_end_157 : decode cX9_end 157 = .ok (.iadd, 1) := by decide +kernel
theorem dX9_end_158 : decode cX9_end 158 = .ok (.putfield 175, 3) := by decide +kernel
theorem dX9_end_161 : decode cX9_end 161 = .ok (.return_, 1) := by decide +kernel
theorem dX9_begin_0 : decode cX9_begin 0 = .ok (.aload_n 0, 1) := by decide +kernel
theorem dX9_begin_1 : decode cX9_begin 1 = .ok (.getfield 172, 3) := by decide +kernel
theorem dX9_begin_4 : decode cX9_begin 4 = .ok (.ifCond .le 10, 3) := by decide +kernel
theorem dX9_begin_7 : decode cX9_begin 7 = .ok (.aload_n 0, 1) := by decide +kernel
theorem dX9_begin_8 : decode cX9_begin 8 = .ok (.ldc 181, 2) := by decide +kernel
theorem dX9_begin_10 : decode cX9_begin 10 = .ok (.invokevirtual 110, 3) := by decide +kernel
theorem dX9_begin_13 : decode cX9_begin 13 = .ok (.ireturn, 1) := by decide +kernel
theorem dX9_begin_14 : decode cX9_begin 14 = .ok (.aload_n 0, 1) := by decide +kernel
theorem dX9_begin_15 : decode cX9_begin 15 = .ok (.invokevirtual 162, 3) := by decide +kernel
theorem dX9_begin_18 : decode cX9_begin 18 = .ok (.aload_n 0, 1) := by decide +kernel
theorem dX9_begin_19 : decode cX9_begin 19 = .ok (.getfield 155, 3) := by decide +kernel
theorem dX9_begin_22 : decode cX9_begin 22 = .ok (.ifCond .ne 12, 3) := by decide +kernel
theorem dX9_begin_25 : decode cX9_begin 25 = .ok (.aload_n 0, 1) := by decide +kernel
theorem dX9_begin_26 : decode cX9_begin 26 = .ok (.ldc 141, 2) := by decide +kernel
theorem dX9_begin_28 : decode cX9_begin 28 = .ok (.invokevirtual 110, 3) := by decide +kernel
theorem dX9_begin_31 : decode cX9_begin 31 = .ok (.goto 13, 3) := by decide +kernel
theorem dX9_begin_34 : decode cX9_begin 34 = .ok (.aload_n 0, 1) := by decide +kernel
theorem dX9_begin_35 : decode cX9_begin 35 = .ok (.aload_n 0, 1) := by decide +kernel
theorem dX9_begin_36 : decode cX9_begin 36 = .ok (.getfield 81, 3) := by decide +kernel
theorem dX9_begin_39 : decode cX9_begin 39 = .ok (.iconst 0, 1) := by decide +kernel
theorem dX9_begin_40 : decode cX9_begin 40 = .ok (.iaload, 1) := by decide +kernel
theorem dX9_begin_41 : decode cX9_begin 41 = .ok (.invokevirtual 182, 3) := by decide +kernel
theorem dX9_begin_44 : decode cX9_begin 44 = .ok (.ireturn, 1) := by decide +kernel
theorem dX9_cut_0 : decode cX9_cut 0 = .ok (.aload_n 0, 1) := by decide +kernel
theorem dX9_cut_1 : decode cX9_cut 1 = .ok (.iconst 2, 1) := by decide +kernel
theorem dX9_cut_2 : decode cX9_cut 2 = .ok (.invokevirtual 165, 3) := by decide +kernel
theorem dX9_cut_5 : decode cX9_cut 5 = .ok (.istore_n 1, 1) := by decide +kernel
theorem dX9_cut_6 : decode cX9_cut 6 = .ok (.aload_n 0, 1) := by decide +kernel
theorem dX9_cut_7 : decode cX9_cut 7 = .ok (.getfield 172, 3) := by decide +kernel
theorem dX9_cut_10 : decode cX9_cut 10 = .ok (.ifCond .eq 7, 3) := by decide +kernel
theorem dX9_cut_13 : decode cX9_cut 13 = .ok (.iload_n 1, 1) := by decide +kernel
theorem dX9_cut_14 : decode cX9_cut 14 = .ok (.ifCond .ge 10, 3) := by decide +kernel
theorem dX9_cut_17 : decode cX9_cut 17 = .ok (.aload_n 0, 1) := by decide +kernel
theorem dX9_cut_18 : decode cX9_cut 18 = .ok (.ldc 141, 2) := by decide +kernel
theorem dX9_cut_20 : decode cX9_cut 20 = .ok (.invokevirtual 110, 3) := by decide +kernel
theorem dX9_cut_23 : decode cX9_cut 23 = .ok (.ireturn, 1) := by decide +kernel
theorem dX9_cut_24 : decode cX9_cut 24 = .ok (.aload_n 0, 1) := by decide +kernel
theorem dX9_cut_25 : decode cX9_cut 25 = .ok (.getfield 172, 3) := by decide +kernel
theorem dX9_cut_28 : decode cX9_cut 28 = .ok (.iconst 4, 1) := by decide +kernel
theorem dX9_cut_29 : decode cX9_cut 29 = .ok (.if_icmp .le 12, 3) := by decide +kernel
theorem dX9_cut_32 : decode cX9_cut 32 = .ok (.aload_n 0, 1) := by decide +kernel
theorem dX9_cut_33 : decode cX9_cut 33 = .ok (.ldc 114, 2) := by decide +kernel
theorem dX9_cut_35 : decode cX9_cut 35 = .ok (.invokevirtual 110, 3) := by decide +kernel
theorem dX9_cut_38 : decode cX9_cut 38 = .ok (.goto 8, 3) := by decide +kernel
theorem dX9_cut_41 : decode cX9_cut 41 = .ok (.aload_n 0, 1) := by decide +kernel
theorem dX9_cut_42 : decode cX9_cut 42 = .ok (.iload_n 1, 1) := by decide +kernel
theorem dX9_cut_43 : decode cX9_cut 43 = .ok (.invokevirtual 182, 3) := by decide +kernel
theorem dX9_cut_46 : decode cX9_cut 46 = .ok (.ireturn, 1) := by decide +kernel
theorem dX9_tick_0 : decode cX9_tick 0 = .ok (.iload_n 1, 1) := by decide +kernel
theorem dX9_tick_1 : decode cX9_tick 1 = .ok (.iconst 1, 1) := by decide +kernel
theorem dX9_tick_2 : decode cX9_tick 2 = .ok (.bipush 100, 2) := by decide +kernel
theorem dX9_tick_4 : decode cX9_tick 4 = .ok (.invokestatic 105, 3) := by decide +kernel
theorem dX9_tick_7 : decode cX9_tick 7 = .ok (.ifCond .ne 10, 3) := by decide +kernel
theorem dX9_tick_10 : decode cX9_tick 10 = .ok (.aload_n 0, 1) := by decide +kernel
theorem dX9_tick_11 : decode cX9_tick 11 = .ok (.ldc 109, 2) := by decide +kernel
theorem dX9_tick_13 : decode cX9_tick 13 = .ok (.invokevirtual 110, 3) := by decide +kernel
theorem dX9_tick_16 : decode cX9_tick 16 = .ok (.ireturn, 1) := by decide +kernel
theorem dX9_tick_17 : decode cX9_tick 17 = .ok (.iconst 0, 1) := by decide +kernel
theorem dX9_tick_18 : decode cX9_tick 18 = .ok (.istore_n 2, 1) := by decide +kernel
theorem dX9_tick_19 : decode cX9_tick 19 = .ok (.iconst 0, 1) := by decide +kernel
theorem dX9_tick_20 : decode cX9_tick 20 = .ok (.istore_n 3, 1) := by decide +kernel
theorem dX9_tick_21 : decode cX9_tick 21 = .ok (.iload_n 3, 1) := by decide +kernel
theorem dX9_tick_22 : decode cX9_tick 22 = .ok (.iload_n 1, 1) := by decide +kernel
theorem dX9_tick_23 : decode cX9_tick 23 = .ok (.if_icmp .ge 79, 3) := by decide +kernel
theorem dX9_tick_26 : decode cX9_tick 26 = .ok (.aload_n 0, 1) := by decide +kernel
theorem dX9_tick_27 : decode cX9_tick 27 = .ok (.getfield 172, 3) := by decide +kernel
theorem dX9_tick_30 : decode cX9_tick 30 = .ok (.ifCond .le 72, 3) := by decide +kernel
theorem dX9_tick_33 : decode cX9_tick 33 = .ok (.aload_n 0, 1) := by decide +kernel
theorem dX9_tick_34 : decode cX9_tick 34 = .ok (.getfield 172, 3) := by decide +kernel
theorem dX9_tick_37 : decode cX9_tick 37 = .ok (.iconst 1, 1) := by decide +kernel
theorem dX9_tick_38 : decode cX9_tick 38 = .ok (.isub, 1) := by decide +kernel
theorem dX9_tick_39 : decode cX9_tick 39 = .ok (.istore 4, 2) := by decide +kernel
theorem dX9_tick_41 : decode cX9_tick 41 = .ok (.aload_n 0, 1) := by decide +kernel
theorem dX9_tick_42 : decode cX9_tick 42 = .ok (.getfield 20, 3) := by decide +kernel
theorem dX9_tick_45 : decode cX9_tick 45 = .ok (.aload_n 0, 1) := by decide +kernel
theorem dX9_tick_46 : decode cX9_tick 46 = .ok (.getfield 39, 3) := by decide +kernel
theorem dX9_tick_49 : decode cX9_tick 49 = .ok (.iload 4, 2) := by decide +kernel
theorem dX9_tick_51 : decode cX9_tick 51 = .ok (.iaload, 1) := by decide +kernel
theorem dX9_tick_52 : decode cX9_tick 52 = .ok (.dup2, 1) := by decide +kernel
theorem dX9_tick_53 : decode cX9_tick 53 = .ok (.iaload, 1) := by decide +kernel
theorem dX9_tick_54 : decode cX9_tick 54 = .ok (.iconst 1, 1) := by decide +kernel
theorem dX9_tick_55 : decode cX9_tick 55 = .ok (.iadd, 1) := by decide +kernel
theorem dX9_tick_56 : decode cX9_tick 56 = .ok (.iastore, 1) := by decide +kernel
theorem dX9_tick_57 : decode cX9_tick 57 = .ok (.aload_n 0, 1) := by decide +kernel
theorem dX9_tick_58 : decode cX9_tick 58 = .ok (.getfield 48, 3) := by decide +kernel
theorem dX9_tick_61 : decode cX9_tick 61 = .ok (.iload 4, 2) := by decide +kernel
theorem dX9_tick_63 : decode cX9_tick 63 = .ok (.dup2, 1) := by decide +kernel
theorem dX9_tick_64 : decode cX9_tick 64 = .ok (.iaload, 1) := by decide +kernel
theorem dX9_tick_65 : decode cX9_tick 65 = .ok (.iconst 1, 1) := by decide +kernel
theorem dX9_tick_66 : decode cX9_tick 66 = .ok (.iadd, 1) := by decide +kernel
theorem dX9_tick_67 : decode cX9_tick 67 = .ok (.iastore, 1) := by decide +kernel
theorem dX9_tick_68 : decode cX9_tick 68 = .ok (.aload_n 0, 1) := by decide +kernel
theorem dX9_tick_69 : decode cX9_tick 69 = .ok (.getfield 45, 3) := by decide +kernel
theorem dX9_tick_72 : decode cX9_tick 72 = .ok (.iload 4, 2) := by decide +kernel
theorem dX9_tick_74 : decode cX9_tick 74 = .ok (.dup2, 1) := by decide +kernel
theorem dX9_tick_75 : decode cX9_tick 75 = .ok (.iaload, 1) := by decide +kernel
theorem dX9_tick_76 : decode cX9_tick 76 = .ok (.iconst 1, 1) := by decide +kernel
theorem dX9_tick_77 : decode cX9_tick 77 = .ok (.isub, 1) := by decide +kernel
theorem dX9_tick_78 : decode cX9_tick 78 = .ok (.iastore, 1) := by decide +kernel
theorem dX9_tick_79 : decode cX9_tick 79 = .ok (.iinc 2 1, 3) := by decide +kernel
theorem dX9_tick_82 : decode cX9_tick 82 = .ok (.aload_n 0, 1) := by decide +kernel
theorem dX9_tick_83 : decode cX9_tick 83 = .ok (.getfield 45, 3) := by decide +kernel
theorem dX9_tick_86 : decode cX9_tick 86 = .ok (.iload 4, 2) := by decide +kernel
theorem dX9_tick_88 : decode cX9_tick 88 = .ok (.iaload, 1) := by decide +kernel
theorem dX9_tick_89 : decode cX9_tick 89 = .ok (.ifCond .ne 7, 3) := by decide +kernel
theorem dX9_tick_92 : decode cX9_tick 92 = .ok (.aload_n 0, 1) := by decide +kernel
theorem dX9_tick_93 : decode cX9_tick 93 = .ok (.invokevirtual 185, 3) := by decide +kernel
theorem dX9_tick_96 : decode cX9_tick 96 = .ok (.iinc 3 1, 3) := by decide +kernel
theorem dX9_tick_99 : decode cX9_tick 99 = .ok (.goto (-78), 3) := by decide +kernel
theorem dX9_tick_102 : decode cX9_tick 102 = .ok (.iload_n 2, 1) := by decide +kernel
theorem dX9_tick_103 : decode cX9_tick 103 = .ok (.ireturn, 1) := by decide +kernel
theorem dX9_yield_0 : decode cX9_yield 0 = .ok (.aload_n 0, 1) := by decide +kernel
theorem dX9_yield_1 : decode cX9_yield 1 = .ok (.getfield 172, 3) := by decide +kernel
theorem dX9_yield_4 : decode cX9_yield 4 = .ok (.ifCond .ne 10, 3) := by decide +kernel
theorem dX9_yield_7 : decode cX9_yield 7 = .ok (.aload_n 0, 1) := by decide +kernel
theorem dX9_yield_8 : decode cX9_yield 8 = .ok (.ldc 141, 2) := by decide +kernel
theorem dX9_yield_10 : decode cX9_yield 10 = .ok (.invokevirtual 110, 3) := by decide +kernel
theorem dX9_yield_13 : decode cX9_yield 13 = .ok (.ireturn, 1) := by decide +kernel
theorem dX9_yield_14 : decode cX9_yield 14 = .ok (.aload_n 0, 1) := by decide +kernel
theorem dX9_yield_15 : decode cX9_yield 15 = .ok (.invokevirtual 185, 3) := by decide +kernel
theorem dX9_yield_18 : decode cX9_yield 18 = .ok (.aload_n 0, 1) := by decide +kernel
theorem dX9_yield_19 : decode cX9_yield 19 = .ok (.getfield 172, 3) := by decide +kernel
theorem dX9_yield_22 : decode cX9_yield 22 = .ok (.ifCond .ne 7, 3) := by decide +kernel
theorem dX9_yield_25 : decode cX9_yield 25 = .ok (.iconst (-1), 1) := by decide +kernel
theorem dX9_yield_26 : decode cX9_yield 26 = .ok (.goto 14, 3) := by decide +kernel
theorem dX9_yield_29 : decode cX9_yield 29 = .ok (.aload_n 0, 1) := by decide +kernel
theorem dX9_yield_30 : decode cX9_yield 30 = .ok (.getfield 39, 3) := by decide +kernel
theorem dX9_yield_33 : decode cX9_yield 33 = .ok (.aload_n 0, 1) := by decide +kernel
theorem dX9_yield_34 : decode cX9_yield 34 = .ok (.getfield 172, 3) := by decide +kernel
theorem dX9_yield_37 : decode cX9_yield 37 = .ok (.iconst 1, 1) := by decide +kernel
theorem dX9_yield_38 : decode cX9_yield 38 = .ok (.isub, 1) := by decide +kernel
theorem dX9_yield_39 : decode cX9_yield 39 = .ok (.iaload, 1) := by decide +kernel
theorem dX9_yield_40 : decode cX9_yield 40 = .ok (.ireturn, 1) := by decide +kernel
theorem dX9_floor_0 : decode cX9_floor 0 = .ok (.iload_n 1, 1) := by decide +kernel
theorem dX9_floor_1 : decode cX9_floor 1 = .ok (.iconst 0, 1) := by decide +kernel
theorem dX9_floor_2 : decode cX9_floor 2 = .ok (.iconst 3, 1) := by decide +kernel
theorem dX9_floor_3 : decode cX9_floor 3 = .ok (.invokestatic 105, 3) := by decide +kernel
theorem dX9_floor_6 : decode cX9_floor 6 = .ok (.ifCond .ne 10, 3) := by decide +kernel
theorem dX9_floor_9 : decode cX9_floor 9 = .ok (.aload_n 0, 1) := by decide +kernel
theorem dX9_floor_10 : decode cX9_floor 10 = .ok (.ldc 109, 2) := by decide +kernel
theorem dX9_floor_12 : decode cX9_floor 12 = .ok (.invokevirtual 110, 3) := by decide +kernel
theorem dX9_floor_15 : decode cX9_floor 15 = .ok (.ireturn, 1) := by decide +kernel
theorem dX9_floor_16 : decode cX9_floor 16 = .ok (.iload_n 1, 1) := by decide +kernel
theorem dX9_floor_17 : decode cX9_floor 17 = .ok (.iconst 3, 1) := by decide +kernel
theorem dX9_floor_18 : decode cX9_floor 18 = .ok (.if_icmp .ne 21, 3) := by decide +kernel
theorem dX9_floor_21 : decode cX9_floor 21 = .ok (.aload_n 0, 1) := by decide +kernel
theorem dX9_floor_22 : decode cX9_floor 22 = .ok (.getfield 172, 3) := by decide +kernel
theorem dX9_floor_25 : decode cX9_floor 25 = .ok (.ifCond .ne 7, 3) := by decide +kernel
theorem dX9_floor_28 : decode cX9_floor 28 = .ok (.iconst 0, 1) := by decide +kernel
theorem dX9_floor_29 : decode cX9_floor 29 = .ok (.goto 9, 3) := by decide +kernel
theorem dX9_floor_32 : decode cX9_floor 32 = .ok (.aload_n 0, 1) := by decide +kernel
theorem dX9_floor_33 : decode cX9_floor 33 = .ok (.getfield 172, 3) := by decide +kernel
theorem dX9_floor_36 : decode cX9_floor 36 = .ok (.iconst 1, 1) := by decide +kernel
theorem dX9_floor_37 : decode cX9_floor 37 = .ok (.isub, 1) := by decide +kernel
theorem dX9_floor_38 : decode cX9_floor 38 = .ok (.ireturn, 1) := by decide +kernel
theorem dX9_floor_39 : decode cX9_floor 39 = .ok (.aload_n 0, 1) := by decide +kernel
theorem dX9_floor_40 : decode cX9_floor 40 = .ok (.getfield 172, 3) := by decide +kernel
theorem dX9_floor_43 : decode cX9_floor 43 = .ok (.ifCond .ne 10, 3) := by decide +kernel
theorem dX9_floor_46 : decode cX9_floor 46 = .ok (.aload_n 0, 1) := by decide +kernel
theorem dX9_floor_47 : decode cX9_floor 47 = .ok (.ldc 141, 2) := by decide +kernel
theorem dX9_floor_49 : decode cX9_floor 49 = .ok (.invokevirtual 110, 3) := by decide +kernel
theorem dX9_floor_52 : decode cX9_floor 52 = .ok (.ireturn, 1) := by decide +kernel
theorem dX9_floor_53 : decode cX9_floor 53 = .ok (.iload_n 1, 1) := by decide +kernel
theorem dX9_floor_54 : decode cX9_floor 54 = .ok (.ifCond .ne 17, 3) := by decide +kernel
theorem dX9_floor_57 : decode cX9_floor 57 = .ok (.aload_n 0, 1) := by decide +kernel
theorem dX9_floor_58 : decode cX9_floor 58 = .ok (.getfield 39, 3) := by decide +kernel
theorem dX9_floor_61 : decode cX9_floor 61 = .ok (.aload_n 0, 1) := by decide +kernel
theorem dX9_floor_62 : decode cX9_floor 62 = .ok (.getfield 172, 3) := by decide +kernel
theorem dX9_floor_65 : decode cX9_floor 65 = .ok (.iconst 1, 1) := by decide +kernel
theorem dX9_floor_66 : decode cX9_floor 66 = .ok (.isub, 1) := by decide +kernel
theorem dX9_floor_67 : decode cX9_floor 67 = .ok (.iaload, 1) := by decide +kernel
theorem dX9_floor_68 : decode cX9_floor 68 = .ok (.goto 33, 3) := by decide +kernel
theorem dX9_floor_71 : decode cX9_floor 71 = .ok (.iload_n 1, 1) := by decide +kernel
theorem dX9_floor_72 : decode cX9_floor 72 = .ok (.iconst 1, 1) := by decide +kernel
theorem dX9_floor_73 : decode cX9_floor 73 = .ok (.if_icmp .ne 17, 3) := by decide +kernel
theorem dX9_floor_76 : decode cX9_floor 76 = .ok (.aload_n 0, 1) := by decide +kernel
theorem dX9_floor_77 : decode cX9_floor 77 = .ok (.getfield 42, 3) := by decide +kernel
theorem dX9_floor_80 : decode cX9_floor 80 = .ok (.aload_n 0, 1) := by decide +kernel
theorem dX9_floor_81 : decode cX9_floor 81 = .ok (.getfield 172, 3) := by decide +kernel
theorem dX9_floor_84 : decode cX9_floor 84 = .ok (.iconst 1, 1) := by decide +kernel
theorem dX9_floor_85 : decode cX9_floor 85 = .ok (.isub, 1) := by decide +kernel
theorem dX9_floor_86 : decode cX9_floor 86 = .ok (.iaload, 1) := by decide +kernel
theorem dX9_floor_87 : decode cX9_floor 87 = .ok (.goto 14, 3) := by decide +kernel
theorem dX9_floor_90 : decode cX9_floor 90 = .ok (.aload_n 0, 1) := by decide +kernel
theorem dX9_floor_91 : decode cX9_floor 91 = .ok (.getfield 45, 3) := by decide +kernel
theorem dX9_floor_94 : decode cX9_floor 94 = .ok (.aload_n 0, 1) := by decide +kernel
theorem dX9_floor_95 : decode cX9_floor 95 = .ok (.getfield 172, 3) := by decide +kernel
theorem dX9_floor_98 : decode cX9_floor 98 = .ok (.iconst 1, 1) := by decide +kernel
theorem dX9_floor_99 : decode cX9_floor 99 = .ok (.isub, 1) := by decide +kernel
theorem dX9_floor_100 : decode cX9_floor 100 = .ok (.iaload, 1) := by decide +kernel
theorem dX9_floor_101 : decode cX9_floor 101 = .ok (.ireturn, 1) := by decide +kernel
theorem dX9_limit_0 : decode cX9_limit 0 = .ok (.iload_n 1, 1) := by decide +kernel
theorem dX9_limit_1 : decode cX9_limit 1 = .ok (.invokestatic 129, 3) := by decide +kernel
theorem dX9_limit_4 : decode cX9_limit 4 = .ok (.ifCond .eq 13, 3) := by decide +kernel
theorem dX9_limit_7 : decode cX9_limit 7 = .ok (.iload_n 2, 1) := by decide +kernel
theorem dX9_limit_8 : decode cX9_limit 8 = .ok (.iconst 1, 1) := by decide +kernel
theorem dX9_limit_9 : decode cX9_limit 9 = .ok (.bipush 50, 2) := by decide +kernel
theorem dX9_limit_11 : decode cX9_limit 11 = .ok (.invokestatic 105, 3) := by decide +kernel
theorem dX9_limit_14 : decode cX9_limit 14 = .ok (.ifCond .ne 10, 3) := by decide +kernel
theorem dX9_limit_17 : decode cX9_limit 17 = .ok (.aload_n 0, 1) := by decide +kernel
theorem dX9_limit_18 : decode cX9_limit 18 = .ok (.ldc 109, 2) := by decide +kernel
theorem dX9_limit_20 : decode cX9_limit 20 = .ok (.invokevirtual 110, 3) := by decide +kernel
theorem dX9_limit_23 : decode cX9_limit 23 = .ok (.ireturn, 1) := by decide +kernel
theorem dX9_limit_24 : decode cX9_limit 24 = .ok (.aload_n 0, 1) := by decide +kernel
theorem dX9_limit_25 : decode cX9_limit 25 = .ok (.getfield 51, 3) := by decide +kernel
theorem dX9_limit_28 : decode cX9_limit 28 = .ok (.iload_n 1, 1) := by decide +kernel
theorem dX9_limit_29 : decode cX9_limit 29 = .ok (.iaload, 1) := by decide +kernel
theorem dX9_limit_30 : decode cX9_limit 30 = .ok (.istore_n 3, 1) := by decide +kernel
theorem dX9_limit_31 : decode cX9_limit 31 = .ok (.aload_n 0, 1) := by decide +kernel
theorem dX9_limit_32 : decode cX9_limit 32 = .ok (.getfield 51, 3) := by decide +kernel
theorem dX9_limit_35 : decode cX9_limit 35 = .ok (.iload_n 1, 1) := by decide +kernel
theorem dX9_limit_36 : decode cX9_limit 36 = .ok (.iload_n 2, 1) := by decide +kernel
theorem dX9_limit_37 : decode cX9_limit 37 = .ok (.iastore, 1) := by decide +kernel
theorem dX9_limit_38 : decode cX9_limit 38 = .ok (.iload_n 3, 1) := by decide +kernel
theorem dX9_limit_39 : decode cX9_limit 39 = .ok (.ireturn, 1) := by decide +kernel
theorem dX9_vote_0 : decode cX9_vote 0 = .ok (.aload_n 0, 1) := by decide +kernel
theorem dX9_vote_1 : decode cX9_vote 1 = .ok (.getfield 188, 3) := by decide +kernel
theorem dX9_vote_4 : decode cX9_vote 4 = .ok (.ifCond .eq 10, 3) := by decide +kernel
theorem dX9_vote_7 : decode cX9_vote 7 = .ok (.aload_n 0, 1) := by decide +kernel
theorem dX9_vote_8 : decode cX9_vote 8 = .ok (.ldc 181, 2) := by decide +kernel
theorem dX9_vote_10 : decode cX9_vote 10 = .ok (.invokevirtual 110, 3) := by decide +kernel
theorem dX9_vote_13 : decode cX9_vote 13 = .ok (.ireturn, 1) := by decide +kernel
theorem dX9_vote_14 : decode cX9_vote 14 = .ok (.aload_n 0, 1) := by decide +kernel
theorem dX9_vote_15 : decode cX9_vote 15 = .ok (.iconst 1, 1) := by decide +kernel
theorem dX9_vote_16 : decode cX9_vote 16 = .ok (.putfield 188, 3) := by decide +kernel
theorem dX9_vote_19 : decode cX9_vote 19 = .ok (.iconst 0, 1) := by decide +kernel
theorem dX9_vote_20 : decode cX9_vote 20 = .ok (.istore_n 1, 1) := by decide +kernel
theorem dX9_vote_21 : decode cX9_vote 21 = .ok (.iload_n 1, 1) := by decide +kernel
theorem dX9_vote_22 : decode cX9_vote 22 = .ok (.bipush 10, 2) := by decide +kernel
theorem dX9_vote_24 : decode cX9_vote 24 = .ok (.if_icmp .ge 16, 3) := by decide +kernel
theorem dX9_vote_27 : decode cX9_vote 27 = .ok (.aload_n 0, 1) := by decide +kernel
theorem dX9_vote_28 : decode cX9_vote 28 = .ok (.getfield 54, 3) := by decide +kernel
theorem dX9_vote_31 : decode cX9_vote 31 = .ok (.iload_n 1, 1) := by decide +kernel
theorem dX9_vote_32 : decode cX9_vote 32 = .ok (.iconst 0, 1) := by decide +kernel
theorem dX9_vote_33 : decode cX9_vote 33 = .ok (.iastore, 1) := by decide +kernel
theorem dX9_vote_34 : decode cX9_vote 34 = .ok (.iinc 1 1, 3) := by decide +kernel
theorem dX9_vote_37 : decode cX9_vote 37 = .ok (.goto (-16), 3) := by decide +kernel
theorem dX9_vote_40 : decode cX9_vote 40 = .ok (.iconst 1, 1) := by decide +kernel
theorem dX9_vote_41 : decode cX9_vote 41 = .ok (.ireturn, 1) := by decide +kernel
theorem dX9_mayVote_0 : decode cX9_mayVote 0 = .ok (.aload_n 0, 1) := by decide +kernel
theorem dX9_mayVote_1 : decode cX9_mayVote 1 = .ok (.getfield 16, 3) := by decide +kernel
theorem dX9_mayVote_4 : decode cX9_mayVote 4 = .ok (.iload_n 1, 1) := by decide +kernel
theorem dX9_mayVote_5 : decode cX9_mayVote 5 = .ok (.baload, 1) := by decide +kernel
theorem dX9_mayVote_6 : decode cX9_mayVote 6 = .ok (.ifCond .eq 15, 3) := by decide +kernel
theorem dX9_mayVote_9 : decode cX9_mayVote 9 = .ok (.aload_n 0, 1) := by decide +kernel
theorem dX9_mayVote_10 : decode cX9_mayVote 10 = .ok (.iload_n 1, 1) := by decide +kernel
theorem dX9_mayVote_11 : decode cX9_mayVote 11 = .ok (.invokevirtual 119, 3) := by decide +kernel
theorem dX9_mayVote_14 : decode cX9_mayVote 14 = .ok (.ifCond .ne 7, 3) := by decide +kernel
theorem dX9_mayVote_17 : decode cX9_mayVote 17 = .ok (.iconst 1, 1) := by decide +kernel
theorem dX9_mayVote_18 : decode cX9_mayVote 18 = .ok (.goto 4, 3) := by decide +kernel
theorem dX9_mayVote_21 : decode cX9_mayVote 21 = .ok (.iconst 0, 1) := by decide +kernel
theorem dX9_mayVote_22 : decode cX9_mayVote 22 = .ok (.ireturn, 1) := by decide +kernel
theorem dX9_say_0 : decode cX9_say 0 = .ok (.aload_n 0, 1) := by decide +kernel
theorem dX9_say_1 : decode cX9_say 1 = .ok (.iload_n 1, 1) := by decide +kernel
theorem dX9_say_2 : decode cX9_say 2 = .ok (.invokevirtual 115, 3) := by decide +kernel
theorem dX9_say_5 : decode cX9_say 5 = .ok (.ifCond .eq 12, 3) := by decide +kernel
theorem dX9_say_8 : decode cX9_say 8 = .ok (.iload_n 2, 1) := by decide +kernel
theorem dX9_say_9 : decode cX9_say 9 = .ok (.iconst 0, 1) := by decide +kernel
theorem dX9_say_10 : decode cX9_say 10 = .ok (.iconst 2, 1) := by decide +kernel
theorem dX9_say_11 : decode cX9_say 11 = .ok (.invokestatic 105, 3) := by decide +kernel
theorem dX9_say_14 : decode cX9_say 14 = .ok (.ifCond .ne 10, 3) := by decide +kernel
theorem dX9_say_17 : decode cX9_say 17 = .ok (.aload_n 0, 1) := by decide +kernel
theorem dX9_say_18 : decode cX9_say 18 = .ok (.ldc 109, 2) := by decide +kernel
theorem dX9_say_20 : decode cX9_say 20 = .ok (.invokevirtual 110, 3) := by decide +kernel
theorem dX9_say_23 : decode cX9_say 23 = .ok (.ireturn, 1) := by decide +kernel
theorem dX9_say_24 : decode cX9_say 24 = .ok (.aload_n 0, 1) := by decide +kernel
theorem dX9_say_25 : decode cX9_say 25 = .ok (.getfield 188, 3) := by decide +kernel
theorem dX9_say_28 : decode cX9_say 28 = .ok (.ifCond .ne 10, 3) := by decide +kernel
theorem dX9_say_31 : decode cX9_say 31 = .ok (.aload_n 0, 1) := by decide +kernel
theorem dX9_say_32 : decode cX9_say 32 = .ok (.ldc 141, 2) := by decide +kernel
theorem dX9_say_34 : decode cX9_say 34 = .ok (.invokevirtual 110, 3) := by decide +kernel
theorem dX9_say_37 : decode cX9_say 37 = .ok (.ireturn, 1) := by decide +kernel
theorem dX9_say_38 : decode cX9_say 38 = .ok (.aload_n 0, 1) := by decide +kernel
theorem dX9_say_39 : decode cX9_say 39 = .ok (.iload_n 1, 1) := by decide +kernel
theorem dX9_say_40 : decode cX9_say 40 = .ok (.invokevirtual 192, 3) := by decide +kernel
theorem dX9_say_43 : decode cX9_say 43 = .ok (.ifCond .ne 10, 3) := by decide +kernel
theorem dX9_say_46 : decode cX9_say 46 = .ok (.aload_n 0, 1) := by decide +kernel
theorem dX9_say_47 : decode cX9_say 47 = .ok (.ldc 122, 2) := by decide +kernel
theorem dX9_say_49 : decode cX9_say 49 = .ok (.invokevirtual 110, 3) := by decide +kernel
theorem dX9_say_52 : decode cX9_say 52 = .ok (.ireturn, 1) := by decide +kernel
theorem dX9_say_53 : decode cX9_say 53 = .ok (.aload_n 0, 1) := by decide +kernel
theorem dX9_say_54 : decode cX9_say 54 = .ok (.getfield 54, 3) := by decide +kernel
theorem dX9_say_57 : decode cX9_say 57 = .ok (.iload_n 1, 1) := by decide +kernel
theorem dX9_say_58 : decode cX9_say 58 = .ok (.iaload, 1) := by decide +kernel
theorem dX9_say_59 : decode cX9_say 59 = .ok (.istore_n 3, 1) := by decide +kernel
theorem dX9_say_60 : decode cX9_say 60 = .ok (.aload_n 0, 1) := by decide +kernel
theorem dX9_say_61 : decode cX9_say 61 = .ok (.getfield 54, 3) := by decide +kernel
theorem dX9_say_64 : decode cX9_say 64 = .ok (.iload_n 1, 1) := by decide +kernel
theorem dX9_say_65 : decode cX9_say 65 = .ok (.iload_n 2, 1) := by decide +kernel
theorem dX9_say_66 : decode cX9_say 66 = .ok (.iastore, 1) := by decide +kernel
theorem dX9_say_67 : decode cX9_say 67 = .ok (.iload_n 3, 1) := by decide +kernel
theorem dX9_say_68 : decode cX9_say 68 = .ok (.ireturn, 1) := by decide +kernel
theorem dX9_votesOf_0 : decode cX9_votesOf 0 = .ok (.iconst 0, 1) := by decide +kernel
theorem dX9_votesOf_1 : decode cX9_votesOf 1 = .ok (.istore_n 2, 1) := by decide +kernel
theorem dX9_votesOf_2 : decode cX9_votesOf 2 = .ok (.iconst 0, 1) := by decide +kernel
theorem dX9_votesOf_3 : decode cX9_votesOf 3 = .ok (.istore_n 3, 1) := by decide +kernel
theorem dX9_votesOf_4 : decode cX9_votesOf 4 = .ok (.iload_n 3, 1) := by decide +kernel
theorem dX9_votesOf_5 : decode cX9_votesOf 5 = .ok (.aload_n 0, 1) := by decide +kernel
theorem dX9_votesOf_6 : decode cX9_votesOf 6 = .ok (.getfield 102, 3) := by decide +kernel
theorem dX9_votesOf_9 : decode cX9_votesOf 9 = .ok (.if_icmp .ge 35, 3) := by decide +kernel
theorem dX9_votesOf_12 : decode cX9_votesOf 12 = .ok (.iload_n 2, 1) := by decide +kernel
theorem dX9_votesOf_13 : decode cX9_votesOf 13 = .ok (.aload_n 0, 1) := by decide +kernel
theorem dX9_votesOf_14 : decode cX9_votesOf 14 = .ok (.iload_n 3, 1) := by decide +kernel
theorem dX9_votesOf_15 : decode cX9_votesOf 15 = .ok (.invokevirtual 192, 3) := by decide +kernel
theorem dX9_votesOf_18 : decode cX9_votesOf 18 = .ok (.ifCond .eq 17, 3) := by decide +kernel
theorem dX9_votesOf_21 : decode cX9_votesOf 21 = .ok (.aload_n 0, 1) := by decide +kernel
theorem dX9_votesOf_22 : decode cX9_votesOf 22 = .ok (.getfield 54, 3) := by decide +kernel
theorem dX9_votesOf_25 : decode cX9_votesOf 25 = .ok (.iload_n 3, 1) := by decide +kernel
theorem dX9_votesOf_26 : decode cX9_votesOf 26 = .ok (.iaload, 1) := by decide +kernel
theorem dX9_votesOf_27 : decode cX9_votesOf 27 = .ok (.iload_n 1, 1) := by decide +kernel
theorem dX9_votesOf_28 : decode cX9_votesOf 28 = .ok (.if_icmp .ne 7, 3) := by decide +kernel
theorem dX9_votesOf_31 : decode cX9_votesOf 31 = .ok (.iconst 1, 1) := by decide +kernel
theorem dX9_votesOf_32 : decode cX9_votesOf 32 = .ok (.goto 4, 3) := by decide +kernel
theorem dX9_votesOf_35 : decode cX9_votesOf 35 = .ok (.iconst 0, 1) := by decide +kernel
theorem dX9_votesOf_36 : decode cX9_votesOf 36 = .ok (.iadd, 1) := by decide +kernel
theorem dX9_votesOf_37 : decode cX9_votesOf 37 = .ok (.istore_n 2, 1) := by decide +kernel
theorem dX9_votesOf_38 : decode cX9_votesOf 38 = .ok (.iinc 3 1, 3) := by decide +kernel
theorem dX9_votesOf_41 : decode cX9_votesOf 41 = .ok (.goto (-37), 3) := by decide +kernel
theorem dX9_votesOf_44 : decode cX9_votesOf 44 = .ok (.iload_n 2, 1) := by decide +kernel
theorem dX9_votesOf_45 : decode cX9_votesOf 45 = .ok (.ireturn, 1) := by decide +kernel
theorem dX9_votes_0 : decode cX9_votes 0 = .ok (.iload_n 1, 1) := by decide +kernel
theorem dX9_votes_1 : decode cX9_votes 1 = .ok (.iconst 0, 1) := by decide +kernel
theorem dX9_votes_2 : decode cX9_votes 2 = .ok (.iconst 2, 1) := by decide +kernel
theorem dX9_votes_3 : decode cX9_votes 3 = .ok (.invokestatic 105, 3) := by decide +kernel
theorem dX9_votes_6 : decode cX9_votes 6 = .ok (.ifCond .ne 10, 3) := by decide +kernel
theorem dX9_votes_9 : decode cX9_votes 9 = .ok (.aload_n 0, 1) := by decide +kernel
theorem dX9_votes_10 : decode cX9_votes 10 = .ok (.ldc 109, 2) := by decide +kernel
theorem dX9_votes_12 : decode cX9_votes 12 = .ok (.invokevirtual 110, 3) := by decide +kernel
theorem dX9_votes_15 : decode cX9_votes 15 = .ok (.ireturn, 1) := by decide +kernel
theorem dX9_votes_16 : decode cX9_votes 16 = .ok (.aload_n 0, 1) := by decide +kernel
theorem dX9_votes_17 : decode cX9_votes 17 = .ok (.getfield 188, 3) := by decide +kernel
theorem dX9_votes_20 : decode cX9_votes 20 = .ok (.ifCond .eq 11, 3) := by decide +kernel
theorem dX9_votes_23 : decode cX9_votes 23 = .ok (.aload_n 0, 1) := by decide +kernel
theorem dX9_votes_24 : decode cX9_votes 24 = .ok (.iload_n 1, 1) := by decide +kernel
theorem dX9_votes_25 : decode cX9_votes 25 = .ok (.invokevirtual 195, 3) := by decide +kernel
theorem dX9_votes_28 : decode cX9_votes 28 = .ok (.goto 9, 3) := by decide +kernel
theorem dX9_votes_31 : decode cX9_votes 31 = .ok (.aload_n 0, 1) := by decide +kernel
theorem dX9_votes_32 : decode cX9_votes 32 = .ok (.ldc 141, 2) := by decide +kernel
theorem dX9_votes_34 : decode cX9_votes 34 = .ok (.invokevirtual 110, 3) := by decide +kernel
theorem dX9_votes_37 : decode cX9_votes 37 = .ok (.ireturn, 1) := by decide +kernel
theorem dX9_passes_0 : decode cX9_passes 0 = .ok (.iload_n 0, 1) := by decide +kernel
theorem dX9_passes_1 : decode cX9_passes 1 = .ok (.iconst 1, 1) := by decide +kernel
theorem dX9_passes_2 : decode cX9_passes 2 = .ok (.if_icmp .ne 16, 3) := by decide +kernel
theorem dX9_passes_5 : decode cX9_passes 5 = .ok (.iload_n 1, 1) := by decide +kernel
theorem dX9_passes_6 : decode cX9_passes 6 = .ok (.iload_n 2, 1) := by decide +kernel
theorem dX9_passes_7 : decode cX9_passes 7 = .ok (.if_icmp .le 7, 3) := by decide +kernel
theorem dX9_passes_10 : decode cX9_passes 10 = .ok (.iconst 1, 1) := by decide +kernel
theorem dX9_passes_11 : decode cX9_passes 11 = .ok (.goto 39, 3) := by decide +kernel
theorem dX9_passes_14 : decode cX9_passes 14 = .ok (.iconst 0, 1) := by decide +kernel
theorem dX9_passes_15 : decode cX9_passes 15 = .ok (.goto 35, 3) := by decide +kernel
theorem dX9_passes_18 : decode cX9_passes 18 = .ok (.iload_n 1, 1) := by decide +kernel
theorem dX9_passes_19 : decode cX9_passes 19 = .ok (.ifCond .le 30, 3) := by decide +kernel
theorem dX9_passes_22 : decode cX9_passes 22 = .ok (.iload_n 0, 1) := by decide +kernel
theorem dX9_passes_23 : decode cX9_passes 23 = .ok (.iconst 2, 1) := by decide +kernel
theorem dX9_passes_24 : decode cX9_passes 24 = .ok (.if_icmp .ne 17, 3) := by decide +kernel
theorem dX9_passes_27 : decode cX9_passes 27 = .ok (.iconst 3, 1) := by decide +kernel
theorem dX9_passes_28 : decode cX9_passes 28 = .ok (.iload_n 1, 1) := by decide +kernel
theorem dX9_passes_29 : decode cX9_passes 29 = .ok (.imul, 1) := by decide +kernel
theorem dX9_passes_30 : decode cX9_passes 30 = .ok (.iconst 2, 1) := by decide +kernel
theorem dX9_passes_31 : decode cX9_passes 31 = .ok (.iload_n 1, 1) := by decide +kernel
theorem dX9_passes_32 : decode cX9_passes 32 = .ok (.iload_n 2, 1) := by decide +kernel
theorem dX9_passes_33 : decode cX9_passes 33 = .ok (.iadd, 1) := by decide +kernel
theorem dX9_passes_34 : decode cX9_passes 34 = .ok (.imul, 1) := by decide +kernel
theorem dX9_passes_35 : decode cX9_passes 35 = .ok (.if_icmp .lt 14, 3) := by decide +kernel
theorem dX9_passes_38 : decode cX9_passes 38 = .ok (.goto 7, 3) := by decide +kernel
theorem dX9_passes_41 : decode cX9_passes 41 = .ok (.iload_n 2, 1) := by decide +kernel
theorem dX9_passes_42 : decode cX9_passes 42 = .ok (.ifCond .ne 7, 3) := by decide +kernel
theorem dX9_passes_45 : decode cX9_passes 45 = .ok (.iconst 1, 1) := by decide +kernel
theorem dX9_passes_46 : decode cX9_passes 46 = .ok (.goto 4, 3) := by decide +kernel
theorem dX9_passes_49 : decode cX9_passes 49 = .ok (.iconst 0, 1) := by decide +kernel
theorem dX9_passes_50 : decode cX9_passes 50 = .ok (.ireturn, 1) := by decide +kernel
theorem dX9_close_0 : decode cX9_close 0 = .ok (.iload_n 1, 1) := by decide +kernel
theorem dX9_close_1 : decode cX9_close 1 = .ok (.iconst 1, 1) := by decide +kernel
theorem dX9_close_2 : decode cX9_close 2 = .ok (.iconst 3, 1) := by decide +kernel
theorem dX9_close_3 : decode cX9_close 3 = .ok (.invokestatic 105, 3) := by decide +kernel
theorem dX9_close_6 : decode cX9_close 6 = .ok (.ifCond .ne 10, 3) := by decide +kernel
theorem dX9_close_9 : decode cX9_close 9 = .ok (.aload_n 0, 1) := by decide +kernel
theorem dX9_close_10 : decode cX9_close 10 = .ok (.ldc 109, 2) := by decide +kernel
theorem dX9_close_12 : decode cX9_close 12 = .ok (.invokevirtual 110, 3) := by decide +kernel
theorem dX9_close_15 : decode cX9_close 15 = .ok (.ireturn, 1) := by decide +kernel
theorem dX9_close_16 : decode cX9_close 16 = .ok (.aload_n 0, 1) := by decide +kernel
theorem dX9_close_17 : decode cX9_close 17 = .ok (.getfield 188, 3) := by decide +kernel
theorem dX9_close_20 : decode cX9_close 20 = .ok (.ifCond .ne 10, 3) := by decide +kernel
theorem dX9_close_23 : decode cX9_close 23 = .ok (.aload_n 0, 1) := by decide +kernel
theorem dX9_close_24 : decode cX9_close 24 = .ok (.ldc 141, 2) := by decide +kernel
theorem dX9_close_26 : decode cX9_close 26 = .ok (.invokevirtual 110, 3) := by decide +kernel
theorem dX9_close_29 : decode cX9_close 29 = .ok (.ireturn, 1) := by decide +kernel
theorem dX9_close_30 : decode cX9_close 30 = .ok (.aload_n 0, 1) := by decide +kernel
theorem dX9_close_31 : decode cX9_close 31 = .ok (.iconst 0, 1) := by decide +kernel
theorem dX9_close_32 : decode cX9_close 32 = .ok (.putfield 188, 3) := by decide +kernel
theorem dX9_close_35 : decode cX9_close 35 = .ok (.iload_n 1, 1) := by decide +kernel
theorem dX9_close_36 : decode cX9_close 36 = .ok (.aload_n 0, 1) := by decide +kernel
theorem dX9_close_37 : decode cX9_close 37 = .ok (.iconst 1, 1) := by decide +kernel
theorem dX9_close_38 : decode cX9_close 38 = .ok (.invokevirtual 195, 3) := by decide +kernel
theorem dX9_close_41 : decode cX9_close 41 = .ok (.aload_n 0, 1) := by decide +kernel
theorem dX9_close_42 : decode cX9_close 42 = .ok (.iconst 2, 1) := by decide +kernel
theorem dX9_close_43 : decode cX9_close 43 = .ok (.invokevirtual 195, 3) := by decide +kernel
theorem dX9_close_46 : decode cX9_close 46 = .ok (.invokestatic 198, 3) := by decide +kernel
theorem dX9_close_49 : decode cX9_close 49 = .ok (.ifCond .eq 7, 3) := by decide +kernel
theorem dX9_close_52 : decode cX9_close 52 = .ok (.iconst 1, 1) := by decide +kernel
theorem dX9_close_53 : decode cX9_close 53 = .ok (.goto 4, 3) := by decide +kernel
theorem dX9_close_56 : decode cX9_close 56 = .ok (.iconst 0, 1) := by decide +kernel
theorem dX9_close_57 : decode cX9_close 57 = .ok (.ireturn, 1) := by decide +kernel
theorem dX9_hands_0 : decode cX9_hands 0 = .ok (.iload_n 1, 1) := by decide +kernel
theorem dX9_hands_1 : decode cX9_hands 1 = .ok (.iconst 1, 1) := by decide +kernel
theorem dX9_hands_2 : decode cX9_hands 2 = .ok (.iconst 3, 1) := by decide +kernel
theorem dX9_hands_3 : decode cX9_hands 3 = .ok (.invokestatic 105, 3) := by decide +kernel
theorem dX9_hands_6 : decode cX9_hands 6 = .ok (.ifCond .eq 36, 3) := by decide +kernel
theorem dX9_hands_9 : decode cX9_hands 9 = .ok (.iload_n 2, 1) := by decide +kernel
theorem dX9_hands_10 : decode cX9_hands 10 = .ok (.iconst 0, 1) := by decide +kernel
theorem dX9_hands_11 : decode cX9_hands 11 = .ok (.sipush 1000, 3) := by decide +kernel
theorem dX9_hands_14 : decode cX9_hands 14 = .ok (.invokestatic 105, 3) := by decide +kernel
theorem dX9_hands_17 : decode cX9_hands 17 = .ok (.ifCond .eq 25, 3) := by decide +kernel
theorem dX9_hands_20 : decode cX9_hands 20 = .ok (.iload_n 3, 1) := by decide +kernel
theorem dX9_hands_21 : decode cX9_hands 21 = .ok (.iconst 0, 1) := by decide +kernel
theorem dX9_hands_22 : decode cX9_hands 22 = .ok (.sipush 1000, 3) := by decide +kernel
theorem dX9_hands_25 : decode cX9_hands 25 = .ok (.invokestatic 105, 3) := by decide +kernel
theorem dX9_hands_28 : decode cX9_hands 28 = .ok (.ifCond .eq 14, 3) := by decide +kernel
theorem dX9_hands_31 : decode cX9_hands 31 = .ok (.iload 4, 2) := by decide +kernel
theorem dX9_hands_33 : decode cX9_hands 33 = .ok (.iconst 0, 1) := by decide +kernel
theorem dX9_hands_34 : decode cX9_hands 34 = .ok (.bipush 100, 2) := by decide +kernel
theorem dX9_hands_36 : decode cX9_hands 36 = .ok (.invokestatic 105, 3) := by decide +kernel
theorem dX9_hands_39 : decode cX9_hands 39 = .ok (.ifCond .ne 10, 3) := by decide +kernel
theorem dX9_hands_42 : decode cX9_hands 42 = .ok (.aload_n 0, 1) := by decide +kernel
theorem dX9_hands_43 : decode cX9_hands 43 = .ok (.ldc 109, 2) := by decide +kernel
theorem dX9_hands_45 : decode cX9_hands 45 = .ok (.invokevirtual 110, 3) := by decide +kernel
theorem dX9_hands_48 : decode cX9_hands 48 = .ok (.ireturn, 1) := by decide +kernel
theorem dX9_hands_49 : decode cX9_hands 49 = .ok (.iconst 1, 1) := by decide +kernel
theorem dX9_hands_50 : decode cX9_hands 50 = .ok (.istore 5, 2) := by decide +kernel
theorem dX9_hands_52 : decode cX9_hands 52 = .ok (.iconst 0, 1) := by decide +kernel
theorem dX9_hands_53 : decode cX9_hands 53 = .ok (.istore 6, 2) := by decide +kernel
theorem dX9_hands_55 : decode cX9_hands 55 = .ok (.iload_n 2, 1) := by decide +kernel
theorem dX9_hands_56 : decode cX9_hands 56 = .ok (.iload 4, 2) := by decide +kernel
theorem dX9_hands_58 : decode cX9_hands 58 = .ok (.if_icmp .ge 7, 3) := by decide +kernel
theorem dX9_hands_61 : decode cX9_hands 61 = .ok (.iconst 0, 1) := by decide +kernel
theorem dX9_hands_62 : decode cX9_hands 62 = .ok (.goto 7, 3) := by decide +kernel
theorem dX9_hands_65 : decode cX9_hands 65 = .ok (.iload_n 2, 1) := by decide +kernel
theorem dX9_hands_66 : decode cX9_hands 66 = .ok (.iload 4, 2) := by decide +kernel
theorem dX9_hands_68 : decode cX9_hands 68 = .ok (.isub, 1) := by decide +kernel
theorem dX9_hands_69 : decode cX9_hands 69 = .ok (.istore 7, 2) := by decide +kernel
theorem dX9_hands_71 : decode cX9_hands 71 = .ok (.iload 7, 2) := by decide +kernel
theorem dX9_hands_73 : decode cX9_hands 73 = .ok (.iload_n 2, 1) := by decide +kernel
theorem dX9_hands_74 : decode cX9_hands 74 = .ok (.iload 4, 2) := by decide +kernel
theorem dX9_hands_76 : decode cX9_hands 76 = .ok (.iadd, 1) := by decide +kernel
theorem dX9_hands_77 : decode cX9_hands 77 = .ok (.if_icmp .gt 64, 3) := by decide +kernel
theorem dX9_hands_80 : decode cX9_hands 80 = .ok (.iload_n 3, 1) := by decide +kernel
theorem dX9_hands_81 : decode cX9_hands 81 = .ok (.iload 4, 2) := by decide +kernel
theorem dX9_hands_83 : decode cX9_hands 83 = .ok (.if_icmp .ge 7, 3) := by decide +kernel
theorem dX9_hands_86 : decode cX9_hands 86 = .ok (.iconst 0, 1) := by decide +kernel
theorem dX9_hands_87 : decode cX9_hands 87 = .ok (.goto 7, 3) := by decide +kernel
theorem dX9_hands_90 : decode cX9_hands 90 = .ok (.iload_n 3, 1) := by decide +kernel
theorem dX9_hands_91 : decode cX9_hands 91 = .ok (.iload 4, 2) := by decide +kernel
theorem dX9_hands_93 : decode cX9_hands 93 = .ok (.isub, 1) := by decide +kernel
theorem dX9_hands_94 : decode cX9_hands 94 = .ok (.istore 8, 2) := by decide +kernel
theorem dX9_hands_96 : decode cX9_hands 96 = .ok (.iload 8, 2) := by decide +kernel
theorem dX9_hands_98 : decode cX9_hands 98 = .ok (.iload_n 3, 1) := by decide +kernel
theorem dX9_hands_99 : decode cX9_hands 99 = .ok (.iload 4, 2) := by decide +kernel
theorem dX9_hands_101 : decode cX9_hands 101 = .ok (.iadd, 1) := by decide +kernel
theorem dX9_hands_102 : decode cX9_hands 102 = .ok (.if_icmp .gt 33, 3) := by decide +kernel
theorem dX9_hands_105 : decode cX9_hands 105 = .ok (.iload_n 1, 1) := by decide +kernel
theorem dX9_hands_106 : decode cX9_hands 106 = .ok (.iload 7, 2) := by decide +kernel
theorem dX9_hands_108 : decode cX9_hands 108 = .ok (.iload 8, 2) := by decide +kernel
theorem dX9_hands_110 : decode cX9_hands 110 = .ok (.invokestatic 198, 3) := by decide +kernel
theorem dX9_hands_113 : decode cX9_hands 113 = .ok (.istore 9, 2) := by decide +kernel
theorem dX9_hands_115 : decode cX9_hands 115 = .ok (.iload 5, 2) := by decide +kernel
theorem dX9_hands_117 : decode cX9_hands 117 = .ok (.iload 9, 2) := by decide +kernel
theorem dX9_hands_119 : decode cX9_hands 119 = .ok (.iand, 1) := by decide +kernel
theorem dX9_hands_120 : decode cX9_hands 120 = .ok (.istore 5, 2) := by decide +kernel
theorem dX9_hands_122 : decode cX9_hands 122 = .ok (.iload 6, 2) := by decide +kernel
theorem dX9_hands_124 : decode cX9_hands 124 = .ok (.iload 9, 2) := by decide +kernel
theorem dX9_hands_126 : decode cX9_hands 126 = .ok (.ior, 1) := by decide +kernel
theorem dX9_hands_127 : decode cX9_hands 127 = .ok (.istore 6, 2) := by decide +kernel
theorem dX9_hands_129 : decode cX9_hands 129 = .ok (.iinc 8 1, 3) := by decide +kernel
theorem dX9_hands_132 : decode cX9_hands 132 = .ok (.goto (-36), 3) := by decide +kernel
theorem dX9_hands_135 : decode cX9_hands 135 = .ok (.iinc 7 1, 3) := by decide +kernel
theorem dX9_hands_138 : decode cX9_hands 138 = .ok (.goto (-67), 3) := by decide +kernel
theorem dX9_hands_141 : decode cX9_hands 141 = .ok (.iload 5, 2) := by decide +kernel
theorem dX9_hands_143 : decode cX9_hands 143 = .ok (.ifCond .eq 7, 3) := by decide +kernel
theorem dX9_hands_146 : decode cX9_hands 146 = .ok (.iconst 1, 1) := by decide +kernel
theorem dX9_hands_147 : decode cX9_hands 147 = .ok (.goto 13, 3) := by decide +kernel
theorem dX9_hands_150 : decode cX9_hands 150 = .ok (.iload 6, 2) := by decide +kernel
theorem dX9_hands_152 : decode cX9_hands 152 = .ok (.ifCond .eq 7, 3) := by decide +kernel
theorem dX9_hands_155 : decode cX9_hands 155 = .ok (.iconst 2, 1) := by decide +kernel
theorem dX9_hands_156 : decode cX9_hands 156 = .ok (.goto 4, 3) := by decide +kernel
theorem dX9_hands_159 : decode cX9_hands 159 = .ok (.iconst 0, 1) := by decide +kernel
theorem dX9_hands_160 : decode cX9_hands 160 = .ok (.ireturn, 1) := by decide +kernel
theorem dX9_hasMember_0 : decode cX9_hasMember 0 = .ok (.iconst 0, 1) := by decide +kernel
theorem dX9_hasMember_1 : decode cX9_hasMember 1 = .ok (.istore_n 2, 1) := by decide +kernel
theorem dX9_hasMember_2 : decode cX9_hasMember 2 = .ok (.iconst 0, 1) := by decide +kernel
theorem dX9_hasMember_3 : decode cX9_hasMember 3 = .ok (.istore_n 3, 1) := by decide +kernel
theorem dX9_hasMember_4 : decode cX9_hasMember 4 = .ok (.iload_n 3, 1) := by decide +kernel
theorem dX9_hasMember_5 : decode cX9_hasMember 5 = .ok (.aload_n 0, 1) := by decide +kernel
theorem dX9_hasMember_6 : decode cX9_hasMember 6 = .ok (.getfield 102, 3) := by decide +kernel
theorem dX9_hasMember_9 : decode cX9_hasMember 9 = .ok (.if_icmp .ge 27, 3) := by decide +kernel
theorem dX9_hasMember_12 : decode cX9_hasMember 12 = .ok (.iload_n 2, 1) := by decide +kernel
theorem dX9_hasMember_13 : decode cX9_hasMember 13 = .ok (.aload_n 0, 1) := by decide +kernel
theorem dX9_hasMember_14 : decode cX9_hasMember 14 = .ok (.getfield 13, 3) := by decide +kernel
theorem dX9_hasMember_17 : decode cX9_hasMember 17 = .ok (.iload_n 3, 1) := by decide +kernel
theorem dX9_hasMember_18 : decode cX9_hasMember 18 = .ok (.iaload, 1) := by decide +kernel
theorem dX9_hasMember_19 : decode cX9_hasMember 19 = .ok (.iload_n 1, 1) := by decide +kernel
theorem dX9_hasMember_20 : decode cX9_hasMember 20 = .ok (.if_icmp .ne 7, 3) := by decide +kernel
theorem dX9_hasMember_23 : decode cX9_hasMember 23 = .ok (.iconst 1, 1) := by decide +kernel
theorem dX9_hasMember_24 : decode cX9_hasMember 24 = .ok (.goto 4, 3) := by decide +kernel
theorem dX9_hasMember_27 : decode cX9_hasMember 27 = .ok (.iconst 0, 1) := by decide +kernel
theorem dX9_hasMember_28 : decode cX9_hasMember 28 = .ok (.ior, 1) := by decide +kernel
theorem dX9_hasMember_29 : decode cX9_hasMember 29 = .ok (.istore_n 2, 1) := by decide +kernel
theorem dX9_hasMember_30 : decode cX9_hasMember 30 = .ok (.iinc 3 1, 3) := by decide +kernel
theorem dX9_hasMember_33 : decode cX9_hasMember 33 = .ok (.goto (-29), 3) := by decide +kernel
theorem dX9_hasMember_36 : decode cX9_hasMember 36 = .ok (.iload_n 2, 1) := by decide +kernel
theorem dX9_hasMember_37 : decode cX9_hasMember 37 = .ok (.ireturn, 1) := by decide +kernel
theorem dX9_apart_0 : decode cX9_apart 0 = .ok (.iconst (-1), 1) := by decide +kernel
theorem dX9_apart_1 : decode cX9_apart 1 = .ok (.istore_n 1, 1) := by decide +kernel
theorem dX9_apart_2 : decode cX9_apart 2 = .ok (.iconst 0, 1) := by decide +kernel
theorem dX9_apart_3 : decode cX9_apart 3 = .ok (.istore_n 2, 1) := by decide +kernel
theorem dX9_apart_4 : decode cX9_apart 4 = .ok (.iconst 0, 1) := by decide +kernel
theorem dX9_apart_5 : decode cX9_apart 5 = .ok (.istore_n 3, 1) := by decide +kernel
theorem dX9_apart_6 : decode cX9_apart 6 = .ok (.iload_n 3, 1) := by decide +kernel
theorem dX9_apart_7 : decode cX9_apart 7 = .ok (.iconst 5, 1) := by decide +kernel
theorem dX9_apart_8 : decode cX9_apart 8 = .ok (.if_icmp .ge 54, 3) := by decide +kernel
theorem dX9_apart_11 : decode cX9_apart 11 = .ok (.aload_n 0, 1) := by decide +kernel
theorem dX9_apart_12 : decode cX9_apart 12 = .ok (.iload_n 3, 1) := by decide +kernel
theorem dX9_apart_13 : decode cX9_apart 13 = .ok (.invokevirtual 201, 3) := by decide +kernel
theorem dX9_apart_16 : decode cX9_apart 16 = .ok (.ifCond .eq 40, 3) := by decide +kernel
theorem dX9_apart_19 : decode cX9_apart 19 = .ok (.aload_n 0, 1) := by decide +kernel
theorem dX9_apart_20 : decode cX9_apart 20 = .ok (.iload_n 3, 1) := by decide +kernel
theorem dX9_apart_21 : decode cX9_apart 21 = .ok (.invokevirtual 123, 3) := by decide +kernel
theorem dX9_apart_24 : decode cX9_apart 24 = .ok (.istore 4, 2) := by decide +kernel
theorem dX9_apart_26 : decode cX9_apart 26 = .ok (.iload_n 1, 1) := by decide +kernel
theorem dX9_apart_27 : decode cX9_apart 27 = .ok (.ifCond .lt 9, 3) := by decide +kernel
theorem dX9_apart_30 : decode cX9_apart 30 = .ok (.iload 4, 2) := by decide +kernel
theorem dX9_apart_32 : decode cX9_apart 32 = .ok (.iload_n 1, 1) := by decide +kernel
theorem dX9_apart_33 : decode cX9_apart 33 = .ok (.if_icmp .ge 8, 3) := by decide +kernel
theorem dX9_apart_36 : decode cX9_apart 36 = .ok (.iload 4, 2) := by decide +kernel
theorem dX9_apart_38 : decode cX9_apart 38 = .ok (.goto 4, 3) := by decide +kernel
theorem dX9_apart_41 : decode cX9_apart 41 = .ok (.iload_n 1, 1) := by decide +kernel
theorem dX9_apart_42 : decode cX9_apart 42 = .ok (.istore_n 1, 1) := by decide +kernel
theorem dX9_apart_43 : decode cX9_apart 43 = .ok (.iload 4, 2) := by decide +kernel
theorem dX9_apart_45 : decode cX9_apart 45 = .ok (.iload_n 2, 1) := by decide +kernel
theorem dX9_apart_46 : decode cX9_apart 46 = .ok (.if_icmp .le 8, 3) := by decide +kernel
theorem dX9_apart_49 : decode cX9_apart 49 = .ok (.iload 4, 2) := by decide +kernel
theorem dX9_apart_51 : decode cX9_apart 51 = .ok (.goto 4, 3) := by decide +kernel
theorem dX9_apart_54 : decode cX9_apart 54 = .ok (.iload_n 2, 1) := by decide +kernel
theorem dX9_apart_55 : decode cX9_apart 55 = .ok (.istore_n 2, 1) := by decide +kernel
theorem dX9_apart_56 : decode cX9_apart 56 = .ok (.iinc 3 1, 3) := by decide +kernel
theorem dX9_apart_59 : decode cX9_apart 59 = .ok (.goto (-53), 3) := by decide +kernel
theorem dX9_apart_62 : decode cX9_apart 62 = .ok (.iload_n 1, 1) := by decide +kernel
theorem dX9_apart_63 : decode cX9_apart 63 = .ok (.ifCond .ge 7, 3) := by decide +kernel
theorem dX9_apart_66 : decode cX9_apart 66 = .ok (.iconst 0, 1) := by decide +kernel
theorem dX9_apart_67 : decode cX9_apart 67 = .ok (.goto 6, 3) := by decide +kernel
theorem dX9_apart_70 : decode cX9_apart 70 = .ok (.iload_n 2, 1) := by decide +kernel
theorem dX9_apart_71 : decode cX9_apart 71 = .ok (.iload_n 1, 1) := by decide +kernel
theorem dX9_apart_72 : decode cX9_apart 72 = .ok (.isub, 1) := by decide +kernel
theorem dX9_apart_73 : decode cX9_apart 73 = .ok (.ireturn, 1) := by decide +kernel
theorem dX9_common_0 : decode cX9_common 0 = .ok (.iload_n 0, 1) := by decide +kernel
theorem dX9_common_1 : decode cX9_common 1 = .ok (.istore_n 2, 1) := by decide +kernel
theorem dX9_common_2 : decode cX9_common 2 = .ok (.iload_n 1, 1) := by decide +kernel
theorem dX9_common_3 : decode cX9_common 3 = .ok (.istore_n 3, 1) := by decide +kernel
theorem dX9_common_4 : decode cX9_common 4 = .ok (.iload_n 3, 1) := by decide +kernel
theorem dX9_common_5 : decode cX9_common 5 = .ok (.ifCond .eq 16, 3) := by decide +kernel
theorem dX9_common_8 : decode cX9_common 8 = .ok (.iload_n 2, 1) := by decide +kernel
theorem dX9_common_9 : decode cX9_common 9 = .ok (.iload_n 3, 1) := by decide +kernel
theorem dX9_common_10 : decode cX9_common 10 = .ok (.irem, 1) := by decide +kernel
theorem dX9_common_11 : decode cX9_common 11 = .ok (.istore 4, 2) := by decide +kernel
theorem dX9_common_13 : decode cX9_common 13 = .ok (.iload_n 3, 1) := by decide +kernel
theorem dX9_common_14 : decode cX9_common 14 = .ok (.istore_n 2, 1) := by decide +kernel
theorem dX9_common_15 : decode cX9_common 15 = .ok (.iload 4, 2) := by decide +kernel
theorem dX9_common_17 : decode cX9_common 17 = .ok (.istore_n 3, 1) := by decide +kernel
theorem dX9_common_18 : decode cX9_common 18 = .ok (.goto (-14), 3) := by decide +kernel
theorem dX9_common_21 : decode cX9_common 21 = .ok (.iload_n 2, 1) := by decide +kernel
theorem dX9_common_22 : decode cX9_common 22 = .ok (.ireturn, 1) := by decide +kernel
theorem dX9_uneven_0 : decode cX9_uneven 0 = .ok (.iconst 0, 1) := by decide +kernel
theorem dX9_uneven_1 : decode cX9_uneven 1 = .ok (.istore_n 2, 1) := by decide +kernel
theorem dX9_uneven_2 : decode cX9_uneven 2 = .ok (.iconst 0, 1) := by decide +kernel
theorem dX9_uneven_3 : decode cX9_uneven 3 = .ok (.istore_n 3, 1) := by decide +kernel
theorem dX9_uneven_4 : decode cX9_uneven 4 = .ok (.iconst 0, 1) := by decide +kernel
theorem dX9_uneven_5 : decode cX9_uneven 5 = .ok (.istore 4, 2) := by decide +kernel
theorem dX9_uneven_7 : decode cX9_uneven 7 = .ok (.iconst 0, 1) := by decide +kernel
theorem dX9_uneven_8 : decode cX9_uneven 8 = .ok (.istore 5, 2) := by decide +kernel
theorem dX9_uneven_10 : decode cX9_uneven 10 = .ok (.iload 5, 2) := by decide +kernel
theorem dX9_uneven_12 : decode cX9_uneven 12 = .ok (.iconst 5, 1) := by decide +kernel
theorem dX9_uneven_13 : decode cX9_uneven 13 = .ok (.if_icmp .ge 106, 3) := by decide +kernel
theorem dX9_uneven_16 : decode cX9_uneven 16 = .ok (.iload_n 2, 1) := by decide +kernel
theorem dX9_uneven_17 : decode cX9_uneven 17 = .ok (.aload_n 0, 1) := by decide +kernel
theorem dX9_uneven_18 : decode cX9_uneven 18 = .ok (.iload 5, 2) := by decide +kernel
theorem dX9_uneven_20 : decode cX9_uneven 20 = .ok (.invokevirtual 201, 3) := by decide +kernel
theorem dX9_uneven_23 : decode cX9_uneven 23 = .ok (.ifCond .eq 7, 3) := by decide +kernel
theorem dX9_uneven_26 : decode cX9_uneven 26 = .ok (.iconst 1, 1) := by decide +kernel
theorem dX9_uneven_27 : decode cX9_uneven 27 = .ok (.goto 4, 3) := by decide +kernel
theorem dX9_uneven_30 : decode cX9_uneven 30 = .ok (.iconst 0, 1) := by decide +kernel
theorem dX9_uneven_31 : decode cX9_uneven 31 = .ok (.iadd, 1) := by decide +kernel
theorem dX9_uneven_32 : decode cX9_uneven 32 = .ok (.istore_n 2, 1) := by decide +kernel
theorem dX9_uneven_33 : decode cX9_uneven 33 = .ok (.iload_n 3, 1) := by decide +kernel
theorem dX9_uneven_34 : decode cX9_uneven 34 = .ok (.aload_n 0, 1) := by decide +kernel
theorem dX9_uneven_35 : decode cX9_uneven 35 = .ok (.iload 5, 2) := by decide +kernel
theorem dX9_uneven_37 : decode cX9_uneven 37 = .ok (.invokevirtual 123, 3) := by decide +kernel
theorem dX9_uneven_40 : decode cX9_uneven 40 = .ok (.iadd, 1) := by decide +kernel
theorem dX9_uneven_41 : decode cX9_uneven 41 = .ok (.istore_n 3, 1) := by decide +kernel
theorem dX9_uneven_42 : decode cX9_uneven 42 = .ok (.iconst 0, 1) := by decide +kernel
theorem dX9_uneven_43 : decode cX9_uneven 43 = .ok (.istore 6, 2) := by decide +kernel
theorem dX9_uneven_45 : decode cX9_uneven 45 = .ok (.iload 6, 2) := by decide +kernel
theorem dX9_uneven_47 : decode cX9_uneven 47 = .ok (.iload 5, 2) := by decide +kernel
theorem dX9_uneven_49 : decode cX9_uneven 49 = .ok (.if_icmp .ge 64, 3) := by decide +kernel
theorem dX9_uneven_52 : decode cX9_uneven 52 = .ok (.aload_n 0, 1) := by decide +kernel
theorem dX9_uneven_53 : decode cX9_uneven 53 = .ok (.iload 6, 2) := by decide +kernel
theorem dX9_uneven_55 : decode cX9_uneven 55 = .ok (.invokevirtual 123, 3) := by decide +kernel
theorem dX9_uneven_58 : decode cX9_uneven 58 = .ok (.aload_n 0, 1) := by decide +kernel
theorem dX9_uneven_59 : decode cX9_uneven 59 = .ok (.iload 5, 2) := by decide +kernel
theorem dX9_uneven_61 : decode cX9_uneven 61 = .ok (.invokevirtual 123, 3) := by decide +kernel
theorem dX9_uneven_64 : decode cX9_uneven 64 = .ok (.isub, 1) := by decide +kernel
theorem dX9_uneven_65 : decode cX9_uneven 65 = .ok (.istore 7, 2) := by decide +kernel
theorem dX9_uneven_67 : decode cX9_uneven 67 = .ok (.iload 4, 2) := by decide +kernel
theorem dX9_uneven_69 : decode cX9_uneven 69 = .ok (.aload_n 0, 1) := by decide +kernel
theorem dX9_uneven_70 : decode cX9_uneven 70 = .ok (.iload 6, 2) := by decide +kernel
theorem dX9_uneven_72 : decode cX9_uneven 72 = .ok (.invokevirtual 201, 3) := by decide +kernel
theorem dX9_uneven_75 : decode cX9_uneven 75 = .ok (.ifCond .eq 12, 3) := by decide +kernel
theorem dX9_uneven_78 : decode cX9_uneven 78 = .ok (.aload_n 0, 1) := by decide +kernel
theorem dX9_uneven_79 : decode cX9_uneven 79 = .ok (.iload 5, 2) := by decide +kernel
theorem dX9_uneven_81 : decode cX9_uneven 81 = .ok (.invokevirtual 201, 3) := by decide +kernel
theorem dX9_uneven_84 : decode cX9_uneven 84 = .ok (.ifCond .ne 7, 3) := by decide +kernel
theorem dX9_uneven_87 : decode cX9_uneven 87 = .ok (.iconst 0, 1) := by decide +kernel
theorem dX9_uneven_88 : decode cX9_uneven 88 = .ok (.goto 16, 3) := by decide +kernel
theorem dX9_uneven_91 : decode cX9_uneven 91 = .ok (.iload 7, 2) := by decide +kernel
theorem dX9_uneven_93 : decode cX9_uneven 93 = .ok (.ifCond .ge 9, 3) := by decide +kernel
theorem dX9_uneven_96 : decode cX9_uneven 96 = .ok (.iload 7, 2) := by decide +kernel
theorem dX9_uneven_98 : decode cX9_uneven 98 = .ok (.ineg, 1) := by decide +kernel
theorem dX9_uneven_99 : decode cX9_uneven 99 = .ok (.goto 5, 3) := by decide +kernel
theorem dX9_uneven_102 : decode cX9_uneven 102 = .ok (.iload 7, 2) := by decide +kernel
theorem dX9_uneven_104 : decode cX9_uneven 104 = .ok (.iadd, 1) := by decide +kernel
theorem dX9_uneven_105 : decode cX9_uneven 105 = .ok (.istore 4, 2) := by decide +kernel
theorem dX9_uneven_107 : decode cX9_uneven 107 = .ok (.iinc 6 1, 3) := by decide +kernel
theorem dX9_uneven_110 : decode cX9_uneven 110 = .ok (.goto (-65), 3) := by decide +kernel
theorem dX9_uneven_113 : decode cX9_uneven 113 = .ok (.iinc 5 1, 3) := by decide +kernel
theorem dX9_uneven_116 : decode cX9_uneven 116 = .ok (.goto (-106), 3) := by decide +kernel
theorem dX9_uneven_119 : decode cX9_uneven 119 = .ok (.iload_n 3, 1) := by decide +kernel
theorem dX9_uneven_120 : decode cX9_uneven 120 = .ok (.ifCond .ne 13, 3) := by decide +kernel
theorem dX9_uneven_123 : decode cX9_uneven 123 = .ok (.iload_n 1, 1) := by decide +kernel
theorem dX9_uneven_124 : decode cX9_uneven 124 = .ok (.ifCond .eq 7, 3) := by decide +kernel
theorem dX9_uneven_127 : decode cX9_uneven 127 = .ok (.iconst 1, 1) := by decide +kernel
theorem dX9_uneven_128 : decode cX9_uneven 128 = .ok (.goto 4, 3) := by decide +kernel
theorem dX9_uneven_131 : decode cX9_uneven 131 = .ok (.iconst 0, 1) := by decide +kernel
theorem dX9_uneven_132 : decode cX9_uneven 132 = .ok (.ireturn, 1) := by decide +kernel
theorem dX9_uneven_133 : decode cX9_uneven 133 = .ok (.iload 4, 2) := by decide +kernel
theorem dX9_uneven_135 : decode cX9_uneven 135 = .ok (.iload_n 2, 1) := by decide +kernel
theorem dX9_uneven_136 : decode cX9_uneven 136 = .ok (.iload_n 3, 1) := by decide +kernel
theorem dX9_uneven_137 : decode cX9_uneven 137 = .ok (.imul, 1) := by decide +kernel
theorem dX9_uneven_138 : decode cX9_uneven 138 = .ok (.invokestatic 204, 3) := by decide +kernel
theorem dX9_uneven_141 : decode cX9_uneven 141 = .ok (.istore 5, 2) := by decide +kernel
theorem dX9_uneven_143 : decode cX9_uneven 143 = .ok (.iload_n 1, 1) := by decide +kernel
theorem dX9_uneven_144 : decode cX9_uneven 144 = .ok (.ifCond .eq 12, 3) := by decide +kernel
theorem dX9_uneven_147 : decode cX9_uneven 147 = .ok (.iload_n 2, 1) := by decide +kernel
theorem dX9_uneven_148 : decode cX9_uneven 148 = .ok (.iload_n 3, 1) := by decide +kernel
theorem dX9_uneven_149 : decode cX9_uneven 149 = .ok (.imul, 1) := by decide +kernel
theorem dX9_uneven_150 : decode cX9_uneven 150 = .ok (.iload 5, 2) := by decide +kernel
theorem dX9_uneven_152 : decode cX9_uneven 152 = .ok (.idiv, 1) := by decide +kernel
theorem dX9_uneven_153 : decode cX9_uneven 153 = .ok (.goto 8, 3) := by decide +kernel
theorem dX9_uneven_156 : decode cX9_uneven 156 = .ok (.iload 4, 2) := by decide +kernel
theorem dX9_uneven_158 : decode cX9_uneven 158 = .ok (.iload 5, 2) := by decide +kernel
theorem dX9_uneven_160 : decode cX9_uneven 160 = .ok (.idiv, 1) := by decide +kernel
theorem dX9_uneven_161 : decode cX9_uneven 161 = .ok (.ireturn, 1) := by decide +kernel
theorem dX9_ticksOf_0 : decode cX9_ticksOf 0 = .ok (.aload_n 0, 1) := by decide +kernel
theorem dX9_ticksOf_1 : decode cX9_ticksOf 1 = .ok (.getfield 63, 3) := by decide +kernel
theorem dX9_ticksOf_4 : decode cX9_ticksOf 4 = .ok (.iload_n 1, 1) := by decide +kernel
theorem dX9_ticksOf_5 : decode cX9_ticksOf 5 = .ok (.iaload, 1) := by decide +kernel
theorem dX9_ticksOf_6 : decode cX9_ticksOf 6 = .ok (.istore_n 3, 1) := by decide +kernel
theorem dX9_ticksOf_7 : decode cX9_ticksOf 7 = .ok (.iconst 1, 1) := by decide +kernel
theorem dX9_ticksOf_8 : decode cX9_ticksOf 8 = .ok (.istore 4, 2) := by decide +kernel
theorem dX9_ticksOf_10 : decode cX9_ticksOf 10 = .ok (.iload 4, 2) := by decide +kernel
theorem dX9_ticksOf_12 : decode cX9_ticksOf 12 = .ok (.iload_n 2, 1) := by decide +kernel
theorem dX9_ticksOf_13 : decode cX9_ticksOf 13 = .ok (.if_icmp .gt 37, 3) := by decide +kernel
theorem dX9_ticksOf_16 : decode cX9_ticksOf 16 = .ok (.aload_n 0, 1) := by decide +kernel
theorem dX9_ticksOf_17 : decode cX9_ticksOf 17 = .ok (.getfield 66, 3) := by decide +kernel
theorem dX9_ticksOf_20 : decode cX9_ticksOf 20 = .ok (.iload 4, 2) := by decide +kernel
theorem dX9_ticksOf_22 : decode cX9_ticksOf 22 = .ok (.iaload, 1) := by decide +kernel
theorem dX9_ticksOf_23 : decode cX9_ticksOf 23 = .ok (.aload_n 0, 1) := by decide +kernel
theorem dX9_ticksOf_24 : decode cX9_ticksOf 24 = .ok (.getfield 178, 3) := by decide +kernel
theorem dX9_ticksOf_27 : decode cX9_ticksOf 27 = .ok (.iload_n 1, 1) := by decide +kernel
theorem dX9_ticksOf_28 : decode cX9_ticksOf 28 = .ok (.iadd, 1) := by decide +kernel
theorem dX9_ticksOf_29 : decode cX9_ticksOf 29 = .ok (.if_icmp .ne 13, 3) := by decide +kernel
theorem dX9_ticksOf_32 : decode cX9_ticksOf 32 = .ok (.aload_n 0, 1) := by decide +kernel
theorem dX9_ticksOf_33 : decode cX9_ticksOf 33 = .ok (.getfield 69, 3) := by decide +kernel
theorem dX9_ticksOf_36 : decode cX9_ticksOf 36 = .ok (.iload 4, 2) := by decide +kernel
theorem dX9_ticksOf_38 : decode cX9_ticksOf 38 = .ok (.iaload, 1) := by decide +kernel
theorem dX9_ticksOf_39 : decode cX9_ticksOf 39 = .ok (.goto 4, 3) := by decide +kernel
theorem dX9_ticksOf_42 : decode cX9_ticksOf 42 = .ok (.iload_n 3, 1) := by decide +kernel
theorem dX9_ticksOf_43 : decode cX9_ticksOf 43 = .ok (.istore_n 3, 1) := by decide +kernel
theorem dX9_ticksOf_44 : decode cX9_ticksOf 44 = .ok (.iinc 4 1, 3) := by decide +kernel
theorem dX9_ticksOf_47 : decode cX9_ticksOf 47 = .ok (.goto (-37), 3) := by decide +kernel
theorem dX9_ticksOf_50 : decode cX9_ticksOf 50 = .ok (.iload_n 3, 1) := by decide +kernel
theorem dX9_ticksOf_51 : decode cX9_ticksOf 51 = .ok (.ireturn, 1) := by decide +kernel
theorem dX9_minutes_0 : decode cX9_minutes 0 = .ok (.iload_n 1, 1) := by decide +kernel
theorem dX9_minutes_1 : decode cX9_minutes 1 = .ok (.ifCond .lt 20, 3) := by decide +kernel
theorem dX9_minutes_4 : decode cX9_minutes 4 = .ok (.iload_n 1, 1) := by decide +kernel
theorem dX9_minutes_5 : decode cX9_minutes 5 = .ok (.aload_n 0, 1) := by decide +kernel
theorem dX9_minutes_6 : decode cX9_minutes 6 = .ok (.getfield 175, 3) := by decide +kernel
theorem dX9_minutes_9 : decode cX9_minutes 9 = .ok (.if_icmp .ge 12, 3) := by decide +kernel
theorem dX9_minutes_12 : decode cX9_minutes 12 = .ok (.iload_n 2, 1) := by decide +kernel
theorem dX9_minutes_13 : decode cX9_minutes 13 = .ok (.iconst 0, 1) := by decide +kernel
theorem dX9_minutes_14 : decode cX9_minutes 14 = .ok (.iconst 3, 1) := by decide +kernel
theorem dX9_minutes_15 : decode cX9_minutes 15 = .ok (.invokestatic 105, 3) := by decide +kernel
theorem dX9_minutes_18 : decode cX9_minutes 18 = .ok (.ifCond .ne 10, 3) := by decide +kernel
theorem dX9_minutes_21 : decode cX9_minutes 21 = .ok (.aload_n 0, 1) := by decide +kernel
theorem dX9_minutes_22 : decode cX9_minutes 22 = .ok (.ldc 109, 2) := by decide +kernel
theorem dX9_minutes_24 : decode cX9_minutes 24 = .ok (.invokevirtual 110, 3) := by decide +kernel
theorem dX9_minutes_27 : decode cX9_minutes 27 = .ok (.ireturn, 1) := by decide +kernel
theorem dX9_minutes_28 : decode cX9_minutes 28 = .ok (.iload_n 2, 1) := by decide +kernel
theorem dX9_minutes_29 : decode cX9_minutes 29 = .ok (.ifCond .ne 12, 3) := by decide +kernel
theorem dX9_minutes_32 : decode cX9_minutes 32 = .ok (.aload_n 0, 1) := by decide +kernel
theorem dX9_minutes_33 : decode cX9_minutes 33 = .ok (.getfield 57, 3) := by decide +kernel
theorem dX9_minutes_36 : decode cX9_minutes 36 = .ok (.iload_n 1, 1) := by decide +kernel
theorem dX9_minutes_37 : decode cX9_minutes 37 = .ok (.iaload, 1) := by decide +kernel
theorem dX9_minutes_38 : decode cX9_minutes 38 = .ok (.goto 40, 3) := by decide +kernel
theorem dX9_minutes_41 : decode cX9_minutes 41 = .ok (.iload_n 2, 1) := by decide +kernel
theorem dX9_minutes_42 : decode cX9_minutes 42 = .ok (.iconst 1, 1) := by decide +kernel
theorem dX9_minutes_43 : decode cX9_minutes 43 = .ok (.if_icmp .ne 12, 3) := by decide +kernel
theorem dX9_minutes_46 : decode cX9_minutes 46 = .ok (.aload_n 0, 1) := by decide +kernel
theorem dX9_minutes_47 : decode cX9_minutes 47 = .ok (.getfield 60, 3) := by decide +kernel
theorem dX9_minutes_50 : decode cX9_minutes 50 = .ok (.iload_n 1, 1) := by decide +kernel
theorem dX9_minutes_51 : decode cX9_minutes 51 = .ok (.iaload, 1) := by decide +kernel
theorem dX9_minutes_52 : decode cX9_minutes 52 = .ok (.goto 26, 3) := by decide +kernel
theorem dX9_minutes_55 : decode cX9_minutes 55 = .ok (.iload_n 2, 1) := by decide +kernel
theorem dX9_minutes_56 : decode cX9_minutes 56 = .ok (.iconst 2, 1) := by decide +kernel
theorem dX9_minutes_57 : decode cX9_minutes 57 = .ok (.if_icmp .ne 15, 3) := by decide +kernel
theorem dX9_minutes_60 : decode cX9_minutes 60 = .ok (.aload_n 0, 1) := by decide +kernel
theorem dX9_minutes_61 : decode cX9_minutes 61 = .ok (.iload_n 1, 1) := by decide +kernel
theorem dX9_minutes_62 : decode cX9_minutes 62 = .ok (.aload_n 0, 1) := by decide +kernel
theorem dX9_minutes_63 : decode cX9_minutes 63 = .ok (.getfield 207, 3) := by decide +kernel
theorem dX9_minutes_66 : decode cX9_minutes 66 = .ok (.invokevirtual 210, 3) := by decide +kernel
theorem dX9_minutes_69 : decode cX9_minutes 69 = .ok (.goto 9, 3) := by decide +kernel
theorem dX9_minutes_72 : decode cX9_minutes 72 = .ok (.aload_n 0, 1) := by decide +kernel
theorem dX9_minutes_73 : decode cX9_minutes 73 = .ok (.getfield 63, 3) := by decide +kernel
theorem dX9_minutes_76 : decode cX9_minutes 76 = .ok (.iload_n 1, 1) := by decide +kernel
theorem dX9_minutes_77 : decode cX9_minutes 77 = .ok (.iaload, 1) := by decide +kernel
theorem dX9_minutes_78 : decode cX9_minutes 78 = .ok (.ireturn, 1) := by decide +kernel
theorem dX9_right_0 : decode cX9_right 0 = .ok (.iload_n 1, 1) := by decide +kernel
theorem dX9_right_1 : decode cX9_right 1 = .ok (.ifCond .lt 22, 3) := by decide +kernel
theorem dX9_right_4 : decode cX9_right 4 = .ok (.iload_n 1, 1) := by decide +kernel
theorem dX9_right_5 : decode cX9_right 5 = .ok (.aload_n 0, 1) := by decide +kernel
theorem dX9_right_6 : decode cX9_right 6 = .ok (.getfield 175, 3) := by decide +kernel
theorem dX9_right_9 : decode cX9_right 9 = .ok (.if_icmp .ge 14, 3) := by decide +kernel
theorem dX9_right_12 : decode cX9_right 12 = .ok (.iload_n 2, 1) := by decide +kernel
theorem dX9_right_13 : decode cX9_right 13 = .ok (.iconst 0, 1) := by decide +kernel
theorem dX9_right_14 : decode cX9_right 14 = .ok (.sipush 200, 3) := by decide +kernel
theorem dX9_right_17 : decode cX9_right 17 = .ok (.invokestatic 105, 3) := by decide +kernel
theorem dX9_right_20 : decode cX9_right 20 = .ok (.ifCond .ne 10, 3) := by decide +kernel
theorem dX9_right_23 : decode cX9_right 23 = .ok (.aload_n 0, 1) := by decide +kernel
theorem dX9_right_24 : decode cX9_right 24 = .ok (.ldc 109, 2) := by decide +kernel
theorem dX9_right_26 : decode cX9_right 26 = .ok (.invokevirtual 110, 3) := by decide +kernel
theorem dX9_right_29 : decode cX9_right 29 = .ok (.ireturn, 1) := by decide +kernel
theorem dX9_right_30 : decode cX9_right 30 = .ok (.aload_n 0, 1) := by decide +kernel
theorem dX9_right_31 : decode cX9_right 31 = .ok (.getfield 207, 3) := by decide +kernel
theorem dX9_right_34 : decode cX9_right 34 = .ok (.bipush 40, 2) := by decide +kernel
theorem dX9_right_36 : decode cX9_right 36 = .ok (.if_icmp .ne 10, 3) := by decide +kernel
theorem dX9_right_39 : decode cX9_right 39 = .ok (.aload_n 0, 1) := by decide +kernel
theorem dX9_right_40 : decode cX9_right 40 = .ok (.ldc 114, 2) := by decide +kernel
theorem dX9_right_42 : decode cX9_right 42 = .ok (.invokevirtual 110, 3) := by decide +kernel
theorem dX9_right_45 : decode cX9_right 45 = .ok (.ireturn, 1) := by decide +kernel
theorem dX9_right_46 : decode cX9_right 46 = .ok (.aload_n 0, 1) := by decide +kernel
theorem dX9_right_47 : decode cX9_right 47 = .ok (.dup, 1) := by decide +kernel
theorem dX9_right_48 : decode cX9_right 48 = .ok (.getfield 207, 3) := by decide +kernel
theorem dX9_right_51 : decode cX9_right 51 = .ok (.iconst 1, 1) := by decide +kernel
theorem dX9_right_52 : decode cX9_right 52 = .ok (.iadd, 1) := by decide +kernel
theorem dX9_right_53 : decode cX9_right 53 = .ok (.putfield 207, 3) := by decide +kernel
theorem dX9_right_56 : decode cX9_right 56 = .ok (.aload_n 0, 1) := by decide +kernel
theorem dX9_right_57 : decode cX9_right 57 = .ok (.getfield 66, 3) := by decide +kernel
theorem dX9_right_60 : decode cX9_right 60 = .ok (.aload_n 0, 1) := by decide +kernel
theorem dX9_right_61 : decode cX9_right 61 = .ok (.getfield 207, 3) := by decide +kernel
theorem dX9_right_64 : decode cX9_right 64 = .ok (.aload_n 0, 1) := by decide +kernel
theorem dX9_right_65 : decode cX9_right 65 = .ok (.getfield 178, 3) := by decide +kernel
theorem dX9_right_68 : decode cX9_right 68 = .ok (.iload_n 1, 1) := by decide +kernel
theorem dX9_right_69 : decode cX9_right 69 = .ok (.iadd, 1) := by decide +kernel
theorem dX9_right_70 : decode cX9_right 70 = .ok (.iastore, 1) := by decide +kernel
theorem dX9_right_71 : decode cX9_right 71 = .ok (.aload_n 0, 1) := by decide +kernel
theorem dX9_right_72 : decode cX9_right 72 = .ok (.getfield 69, 3) := by decide +kernel
theorem dX9_right_75 : decode cX9_right 75 = .ok (.aload_n 0, 1) := by decide +kernel
theorem dX9_right_76 : decode cX9_right 76 = .ok (.getfield 207, 3) := by decide +kernel
theorem dX9_right_79 : decode cX9_right 79 = .ok (.iload_n 2, 1) := by decide +kernel
theorem dX9_right_80 : decode cX9_right 80 = .ok (.iastore, 1) := by decide +kernel
theorem dX9_right_81 : decode cX9_right 81 = .ok (.aload_n 0, 1) := by decide +kernel
theorem dX9_right_82 : decode cX9_right 82 = .ok (.getfield 207, 3) := by decide +kernel
theorem dX9_right_85 : decode cX9_right 85 = .ok (.ireturn, 1) := by decide +kernel
theorem dX9_sum_0 : decode cX9_sum 0 = .ok (.aload_n 0, 1) := by decide +kernel
theorem dX9_sum_1 : decode cX9_sum 1 = .ok (.iload_n 1, 1) := by decide +kernel
theorem dX9_sum_2 : decode cX9_sum 2 = .ok (.invokevirtual 115, 3) := by decide +kernel
theorem dX9_sum_5 : decode cX9_sum 5 = .ok (.ifCond .eq 15, 3) := by decide +kernel
theorem dX9_sum_8 : decode cX9_sum 8 = .ok (.iload_n 2, 1) := by decide +kernel
theorem dX9_sum_9 : decode cX9_sum 9 = .ok (.iconst 0, 1) := by decide +kernel
theorem dX9_sum_10 : decode cX9_sum 10 = .ok (.aload_n 0, 1) := by decide +kernel
theorem dX9_sum_11 : decode cX9_sum 11 = .ok (.getfield 207, 3) := by decide +kernel
theorem dX9_sum_14 : decode cX9_sum 14 = .ok (.invokestatic 105, 3) := by decide +kernel
theorem dX9_sum_17 : decode cX9_sum 17 = .ok (.ifCond .ne 10, 3) := by decide +kernel
theorem dX9_sum_20 : decode cX9_sum 20 = .ok (.aload_n 0, 1) := by decide +kernel
theorem dX9_sum_21 : decode cX9_sum 21 = .ok (.ldc 109, 2) := by decide +kernel
theorem dX9_sum_23 : decode cX9_sum 23 = .ok (.invokevirtual 110, 3) := by decide +kernel
theorem dX9_sum_26 : decode cX9_sum 26 = .ok (.ireturn, 1) := by decide +kernel
theorem dX9_sum_27 : decode cX9_sum 27 = .ok (.iconst 0, 1) := by decide +kernel
theorem dX9_sum_28 : decode cX9_sum 28 = .ok (.istore_n 3, 1) := by decide +kernel
theorem dX9_sum_29 : decode cX9_sum 29 = .ok (.iconst 0, 1) := by decide +kernel
theorem dX9_sum_30 : decode cX9_sum 30 = .ok (.istore 4, 2) := by decide +kernel
theorem dX9_sum_32 : decode cX9_sum 32 = .ok (.iload 4, 2) := by decide +kernel
theorem dX9_sum_34 : decode cX9_sum 34 = .ok (.aload_n 0, 1) := by decide +kernel
theorem dX9_sum_35 : decode cX9_sum 35 = .ok (.getfield 175, 3) := by decide +kernel
theorem dX9_sum_38 : decode cX9_sum 38 = .ok (.if_icmp .ge 34, 3) := by decide +kernel
theorem dX9_sum_41 : decode cX9_sum 41 = .ok (.iload_n 3, 1) := by decide +kernel
theorem dX9_sum_42 : decode cX9_sum 42 = .ok (.aload_n 0, 1) := by decide +kernel
theorem dX9_sum_43 : decode cX9_sum 43 = .ok (.getfield 57, 3) := by decide +kernel
theorem dX9_sum_46 : decode cX9_sum 46 = .ok (.iload 4, 2) := by decide +kernel
theorem dX9_sum_48 : decode cX9_sum 48 = .ok (.iaload, 1) := by decide +kernel
theorem dX9_sum_49 : decode cX9_sum 49 = .ok (.iload_n 1, 1) := by decide +kernel
theorem dX9_sum_50 : decode cX9_sum 50 = .ok (.if_icmp .ne 13, 3) := by decide +kernel
theorem dX9_sum_53 : decode cX9_sum 53 = .ok (.aload_n 0, 1) := by decide +kernel
theorem dX9_sum_54 : decode cX9_sum 54 = .ok (.iload 4, 2) := by decide +kernel
theorem dX9_sum_56 : decode cX9_sum 56 = .ok (.iload_n 2, 1) := by decide +kernel
theorem dX9_sum_57 : decode cX9_sum 57 = .ok (.invokevirtual 210, 3) := by decide +kernel
theorem dX9_sum_60 : decode cX9_sum 60 = .ok (.goto 4, 3) := by decide +kernel
theorem dX9_sum_63 : decode cX9_sum 63 = .ok (.iconst 0, 1) := by decide +kernel
theorem dX9_sum_64 : decode cX9_sum 64 = .ok (.iadd, 1) := by decide +kernel
theorem dX9_sum_65 : decode cX9_sum 65 = .ok (.istore_n 3, 1) := by decide +kernel
theorem dX9_sum_66 : decode cX9_sum 66 = .ok (.iinc 4 1, 3) := by decide +kernel
theorem dX9_sum_69 : decode cX9_sum 69 = .ok (.goto (-37), 3) := by decide +kernel
theorem dX9_sum_72 : decode cX9_sum 72 = .ok (.iload_n 3, 1) := by decide +kernel
theorem dX9_sum_73 : decode cX9_sum 73 = .ok (.ireturn, 1) := by decide +kernel
theorem dX9_isSheet_0 : decode cX9_isSheet 0 = .ok (.iload_n 0, 1) := by decide +kernel
theorem dX9_isSheet_1 : decode cX9_isSheet 1 = .ok (.iconst 0, 1) := by decide +kernel
theorem dX9_isSheet_2 : decode cX9_isSheet 2 = .ok (.iconst 3, 1) := by decide +kernel
theorem dX9_isSheet_3 : decode cX9_isSheet 3 = .ok (.invokestatic 105, 3) := by decide +kernel
theorem dX9_isSheet_6 : decode cX9_isSheet 6 = .ok (.ireturn, 1) := by decide +kernel
theorem dX9_sheet_0 : decode cX9_sheet 0 = .ok (.iload_n 1, 1) := by decide +kernel
theorem dX9_sheet_1 : decode cX9_sheet 1 = .ok (.invokestatic 213, 3) := by decide +kernel
theorem dX9_sheet_4 : decode cX9_sheet 4 = .ok (.ifCond .eq 25, 3) := by decide +kernel
