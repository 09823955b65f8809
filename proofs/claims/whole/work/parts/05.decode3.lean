theorem dX12_init_129 : decode cX12_init 129 = .ok (.newarray .int, 2) := by decide +kernel
theorem dX12_init_131 : decode cX12_init 131 = .ok (.putfield 61, 3) := by decide +kernel
theorem dX12_init_134 : decode cX12_init 134 = .ok (.aload_n 0, 1) := by decide +kernel
theorem dX12_init_135 : decode cX12_init 135 = .ok (.iconst 3, 1) := by decide +kernel
theorem dX12_init_136 : decode cX12_init 136 = .ok (.newarray .int, 2) := by decide +kernel
theorem dX12_init_138 : decode cX12_init 138 = .ok (.putfield 64, 3) := by decide +kernel
theorem dX12_init_141 : decode cX12_init 141 = .ok (.aload_n 0, 1) := by decide +kernel
theorem dX12_init_142 : decode cX12_init 142 = .ok (.iconst 3, 1) := by decide +kernel
theorem dX12_init_143 : decode cX12_init 143 = .ok (.newarray .int, 2) := by decide +kernel
theorem dX12_init_145 : decode cX12_init 145 = .ok (.putfield 67, 3) := by decide +kernel
theorem dX12_init_148 : decode cX12_init 148 = .ok (.aload_n 0, 1) := by decide +kernel
theorem dX12_init_149 : decode cX12_init 149 = .ok (.iconst 3, 1) := by decide +kernel
theorem dX12_init_150 : decode cX12_init 150 = .ok (.newarray .int, 2) := by decide +kernel
theorem dX12_init_152 : decode cX12_init 152 = .ok (.putfield 70, 3) := by decide +kernel
theorem dX12_init_155 : decode cX12_init 155 = .ok (.aload_n 0, 1) := by decide +kernel
theorem dX12_init_156 : decode cX12_init 156 = .ok (.bipush 30, 2) := by decide +kernel
theorem dX12_init_158 : decode cX12_init 158 = .ok (.newarray .int, 2) := by decide +kernel
theorem dX12_init_160 : decode cX12_init 160 = .ok (.putfield 73, 3) := by decide +kernel
theorem dX12_init_163 : decode cX12_init 163 = .ok (.aload_n 0, 1) := by decide +kernel
theorem dX12_init_164 : decode cX12_init 164 = .ok (.bipush 30, 2) := by decide +kernel
theorem dX12_init_166 : decode cX12_init 166 = .ok (.newarray .int, 2) := by decide +kernel
theorem dX12_init_168 : decode cX12_init 168 = .ok (.putfield 76, 3) := by decide +kernel
theorem dX12_init_171 : decode cX12_init 171 = .ok (.aload_n 0, 1) := by decide +kernel
theorem dX12_init_172 : decode cX12_init 172 = .ok (.bipush 30, 2) := by decide +kernel
theorem dX12_init_174 : decode cX12_init 174 = .ok (.newarray .int, 2) := by decide +kernel
theorem dX12_init_176 : decode cX12_init 176 = .ok (.putfield 79, 3) := by decide +kernel
theorem dX12_init_179 : decode cX12_init 179 = .ok (.aload_n 0, 1) := by decide +kernel
theorem dX12_init_180 : decode cX12_init 180 = .ok (.bipush 30, 2) := by decide +kernel
theorem dX12_init_182 : decode cX12_init 182 = .ok (.newarray .int, 2) := by decide +kernel
theorem dX12_init_184 : decode cX12_init 184 = .ok (.putfield 82, 3) := by decide +kernel
theorem dX12_init_187 : decode cX12_init 187 = .ok (.aload_n 0, 1) := by decide +kernel
theorem dX12_init_188 : decode cX12_init 188 = .ok (.bipush 30, 2) := by decide +kernel
theorem dX12_init_190 : decode cX12_init 190 = .ok (.newarray .int, 2) := by decide +kernel
theorem dX12_init_192 : decode cX12_init 192 = .ok (.putfield 85, 3) := by decide +kernel
theorem dX12_init_195 : decode cX12_init 195 = .ok (.aload_n 0, 1) := by decide +kernel
theorem dX12_init_196 : decode cX12_init 196 = .ok (.bipush 30, 2) := by decide +kernel
theorem dX12_init_198 : decode cX12_init 198 = .ok (.newarray .int, 2) := by decide +kernel
theorem dX12_init_200 : decode cX12_init 200 = .ok (.putfield 88, 3) := by decide +kernel
theorem dX12_init_203 : decode cX12_init 203 = .ok (.aload_n 0, 1) := by decide +kernel
theorem dX12_init_204 : decode cX12_init 204 = .ok (.bipush 30, 2) := by decide +kernel
theorem dX12_init_206 : decode cX12_init 206 = .ok (.newarray .int, 2) := by decide +kernel
theorem dX12_init_208 : decode cX12_init 208 = .ok (.putfield 91, 3) := by decide +kernel
theorem dX12_init_211 : decode cX12_init 211 = .ok (.aload_n 0, 1) := by decide +kernel
theorem dX12_init_212 : decode cX12_init 212 = .ok (.bipush 30, 2) := by decide +kernel
theorem dX12_init_214 : decode cX12_init 214 = .ok (.newarray .int, 2) := by decide +kernel
theorem dX12_init_216 : decode cX12_init 216 = .ok (.putfield 94, 3) := by decide +kernel
theorem dX12_init_219 : decode cX12_init 219 = .ok (.aload_n 0, 1) := by decide +kernel
theorem dX12_init_220 : decode cX12_init 220 = .ok (.bipush 30, 2) := by decide +kernel
theorem dX12_init_222 : decode cX12_init 222 = .ok (.newarray .int, 2) := by decide +kernel
theorem dX12_init_224 : decode cX12_init 224 = .ok (.putfield 97, 3) := by decide +kernel
theorem dX12_init_227 : decode cX12_init 227 = .ok (.aload_n 0, 1) := by decide +kernel
theorem dX12_init_228 : decode cX12_init 228 = .ok (.bipush 30, 2) := by decide +kernel
theorem dX12_init_230 : decode cX12_init 230 = .ok (.newarray .int, 2) := by decide +kernel
theorem dX12_init_232 : decode cX12_init 232 = .ok (.putfield 100, 3) := by decide +kernel
theorem dX12_init_235 : decode cX12_init 235 = .ok (.aload_n 0, 1) := by decide +kernel
theorem dX12_init_236 : decode cX12_init 236 = .ok (.bipush 96, 2) := by decide +kernel
theorem dX12_init_238 : decode cX12_init 238 = .ok (.newarray .int, 2) := by decide +kernel
theorem dX12_init_240 : decode cX12_init 240 = .ok (.putfield 103, 3) := by decide +kernel
theorem dX12_init_243 : decode cX12_init 243 = .ok (.aload_n 0, 1) := by decide +kernel
theorem dX12_init_244 : decode cX12_init 244 = .ok (.iconst 3, 1) := by decide +kernel
theorem dX12_init_245 : decode cX12_init 245 = .ok (.newarray .int, 2) := by decide +kernel
theorem dX12_init_247 : decode cX12_init 247 = .ok (.putfield 106, 3) := by decide +kernel
theorem dX12_init_250 : decode cX12_init 250 = .ok (.aload_n 0, 1) := by decide +kernel
theorem dX12_init_251 : decode cX12_init 251 = .ok (.iconst 3, 1) := by decide +kernel
theorem dX12_init_252 : decode cX12_init 252 = .ok (.newarray .int, 2) := by decide +kernel
theorem dX12_init_254 : decode cX12_init 254 = .ok (.putfield 109, 3) := by decide +kernel
theorem dX12_init_257 : decode cX12_init 257 = .ok (.aload_n 0, 1) := by decide +kernel
theorem dX12_init_258 : decode cX12_init 258 = .ok (.iconst 3, 1) := by decide +kernel
theorem dX12_init_259 : decode cX12_init 259 = .ok (.newarray .int, 2) := by decide +kernel
theorem dX12_init_261 : decode cX12_init 261 = .ok (.putfield 112, 3) := by decide +kernel
theorem dX12_init_264 : decode cX12_init 264 = .ok (.aload_n 0, 1) := by decide +kernel
theorem dX12_init_265 : decode cX12_init 265 = .ok (.iconst 3, 1) := by decide +kernel
theorem dX12_init_266 : decode cX12_init 266 = .ok (.newarray .int, 2) := by decide +kernel
theorem dX12_init_268 : decode cX12_init 268 = .ok (.putfield 115, 3) := by decide +kernel
theorem dX12_init_271 : decode cX12_init 271 = .ok (.aload_n 0, 1) := by decide +kernel
theorem dX12_init_272 : decode cX12_init 272 = .ok (.bipush 80, 2) := by decide +kernel
theorem dX12_init_274 : decode cX12_init 274 = .ok (.newarray .int, 2) := by decide +kernel
theorem dX12_init_276 : decode cX12_init 276 = .ok (.putfield 118, 3) := by decide +kernel
theorem dX12_init_279 : decode cX12_init 279 = .ok (.aload_n 0, 1) := by decide +kernel
theorem dX12_init_280 : decode cX12_init 280 = .ok (.bipush 40, 2) := by decide +kernel
theorem dX12_init_282 : decode cX12_init 282 = .ok (.newarray .int, 2) := by decide +kernel
theorem dX12_init_284 : decode cX12_init 284 = .ok (.putfield 121, 3) := by decide +kernel
theorem dX12_init_287 : decode cX12_init 287 = .ok (.aload_n 0, 1) := by decide +kernel
theorem dX12_init_288 : decode cX12_init 288 = .ok (.sipush 240, 3) := by decide +kernel
theorem dX12_init_291 : decode cX12_init 291 = .ok (.newarray .int, 2) := by decide +kernel
theorem dX12_init_293 : decode cX12_init 293 = .ok (.putfield 124, 3) := by decide +kernel
theorem dX12_init_296 : decode cX12_init 296 = .ok (.aload_n 0, 1) := by decide +kernel
theorem dX12_init_297 : decode cX12_init 297 = .ok (.sipush 3438, 3) := by decide +kernel
theorem dX12_init_300 : decode cX12_init 300 = .ok (.newarray .int, 2) := by decide +kernel
theorem dX12_init_302 : decode cX12_init 302 = .ok (.putfield 127, 3) := by decide +kernel
theorem dX12_init_305 : decode cX12_init 305 = .ok (.aload_n 0, 1) := by decide +kernel
theorem dX12_init_306 : decode cX12_init 306 = .ok (.sipush 573, 3) := by decide +kernel
theorem dX12_init_309 : decode cX12_init 309 = .ok (.newarray .int, 2) := by decide +kernel
theorem dX12_init_311 : decode cX12_init 311 = .ok (.putfield 130, 3) := by decide +kernel
theorem dX12_init_314 : decode cX12_init 314 = .ok (.aload_n 0, 1) := by decide +kernel
theorem dX12_init_315 : decode cX12_init 315 = .ok (.sipush 573, 3) := by decide +kernel
theorem dX12_init_318 : decode cX12_init 318 = .ok (.newarray .int, 2) := by decide +kernel
theorem dX12_init_320 : decode cX12_init 320 = .ok (.putfield 133, 3) := by decide +kernel
theorem dX12_init_323 : decode cX12_init 323 = .ok (.aload_n 0, 1) := by decide +kernel
theorem dX12_init_324 : decode cX12_init 324 = .ok (.sipush 573, 3) := by decide +kernel
theorem dX12_init_327 : decode cX12_init 327 = .ok (.newarray .int, 2) := by decide +kernel
theorem dX12_init_329 : decode cX12_init 329 = .ok (.putfield 136, 3) := by decide +kernel
theorem dX12_init_332 : decode cX12_init 332 = .ok (.iconst 0, 1) := by decide +kernel
theorem dX12_init_333 : decode cX12_init 333 = .ok (.istore_n 1, 1) := by decide +kernel
theorem dX12_init_334 : decode cX12_init 334 = .ok (.iload_n 1, 1) := by decide +kernel
theorem dX12_init_335 : decode cX12_init 335 = .ok (.iconst 3, 1) := by decide +kernel
theorem dX12_init_336 : decode cX12_init 336 = .ok (.if_icmp .ge 25, 3) := by decide +kernel
theorem dX12_init_339 : decode cX12_init 339 = .ok (.aload_n 0, 1) := by decide +kernel
theorem dX12_init_340 : decode cX12_init 340 = .ok (.getfield 37, 3) := by decide +kernel
theorem dX12_init_343 : decode cX12_init 343 = .ok (.iload_n 1, 1) := by decide +kernel
theorem dX12_init_344 : decode cX12_init 344 = .ok (.sipush 255, 3) := by decide +kernel
theorem dX12_init_347 : decode cX12_init 347 = .ok (.iastore, 1) := by decide +kernel
theorem dX12_init_348 : decode cX12_init 348 = .ok (.aload_n 0, 1) := by decide +kernel
theorem dX12_init_349 : decode cX12_init 349 = .ok (.getfield 46, 3) := by decide +kernel
theorem dX12_init_352 : decode cX12_init 352 = .ok (.iload_n 1, 1) := by decide +kernel
theorem dX12_init_353 : decode cX12_init 353 = .ok (.iconst (-1), 1) := by decide +kernel
theorem dX12_init_354 : decode cX12_init 354 = .ok (.iastore, 1) := by decide +kernel
theorem dX12_init_355 : decode cX12_init 355 = .ok (.iinc 1 1, 3) := by decide +kernel
theorem dX12_init_358 : decode cX12_init 358 = .ok (.goto (-24), 3) := by decide +kernel
theorem dX12_init_361 : decode cX12_init 361 = .ok (.iconst 0, 1) := by decide +kernel
theorem dX12_init_362 : decode cX12_init 362 = .ok (.istore_n 1, 1) := by decide +kernel
theorem dX12_init_363 : decode cX12_init 363 = .ok (.iload_n 1, 1) := by decide +kernel
theorem dX12_init_364 : decode cX12_init 364 = .ok (.iconst 3, 1) := by decide +kernel
theorem dX12_init_365 : decode cX12_init 365 = .ok (.if_icmp .ge 16, 3) := by decide +kernel
theorem dX12_init_368 : decode cX12_init 368 = .ok (.aload_n 0, 1) := by decide +kernel
theorem dX12_init_369 : decode cX12_init 369 = .ok (.getfield 16, 3) := by decide +kernel
theorem dX12_init_372 : decode cX12_init 372 = .ok (.iload_n 1, 1) := by decide +kernel
theorem dX12_init_373 : decode cX12_init 373 = .ok (.iconst 2, 1) := by decide +kernel
theorem dX12_init_374 : decode cX12_init 374 = .ok (.iastore, 1) := by decide +kernel
theorem dX12_init_375 : decode cX12_init 375 = .ok (.iinc 1 1, 3) := by decide +kernel
theorem dX12_init_378 : decode cX12_init 378 = .ok (.goto (-15), 3) := by decide +kernel
theorem dX12_init_381 : decode cX12_init 381 = .ok (.return_, 1) := by decide +kernel
theorem dX12_thrown_0 : decode cX12_thrown 0 = .ok (.aload_n 0, 1) := by decide +kernel
theorem dX12_thrown_1 : decode cX12_thrown 1 = .ok (.getfield 139, 3) := by decide +kernel
theorem dX12_thrown_4 : decode cX12_thrown 4 = .ok (.ireturn, 1) := by decide +kernel
theorem dX12_fails_0 : decode cX12_fails 0 = .ok (.aload_n 0, 1) := by decide +kernel
theorem dX12_fails_1 : decode cX12_fails 1 = .ok (.iload_n 1, 1) := by decide +kernel
theorem dX12_fails_2 : decode cX12_fails 2 = .ok (.putfield 139, 3) := by decide +kernel
theorem dX12_fails_5 : decode cX12_fails 5 = .ok (.iconst 0, 1) := by decide +kernel
theorem dX12_fails_6 : decode cX12_fails 6 = .ok (.ireturn, 1) := by decide +kernel
theorem dX12_isBetween_0 : decode cX12_isBetween 0 = .ok (.iload_n 0, 1) := by decide +kernel
theorem dX12_isBetween_1 : decode cX12_isBetween 1 = .ok (.iload_n 1, 1) := by decide +kernel
theorem dX12_isBetween_2 : decode cX12_isBetween 2 = .ok (.if_icmp .lt 12, 3) := by decide +kernel
theorem dX12_isBetween_5 : decode cX12_isBetween 5 = .ok (.iload_n 0, 1) := by decide +kernel
theorem dX12_isBetween_6 : decode cX12_isBetween 6 = .ok (.iload_n 2, 1) := by decide +kernel
theorem dX12_isBetween_7 : decode cX12_isBetween 7 = .ok (.if_icmp .gt 7, 3) := by decide +kernel
theorem dX12_isBetween_10 : decode cX12_isBetween 10 = .ok (.iconst 1, 1) := by decide +kernel
theorem dX12_isBetween_11 : decode cX12_isBetween 11 = .ok (.goto 4, 3) := by decide +kernel
theorem dX12_isBetween_14 : decode cX12_isBetween 14 = .ok (.iconst 0, 1) := by decide +kernel
theorem dX12_isBetween_15 : decode cX12_isBetween 15 = .ok (.ireturn, 1) := by decide +kernel
theorem dX12_isZone_0 : decode cX12_isZone 0 = .ok (.iload_n 0, 1) := by decide +kernel
theorem dX12_isZone_1 : decode cX12_isZone 1 = .ok (.iconst 0, 1) := by decide +kernel
theorem dX12_isZone_2 : decode cX12_isZone 2 = .ok (.bipush 7, 2) := by decide +kernel
theorem dX12_isZone_4 : decode cX12_isZone 4 = .ok (.invokestatic 143, 3) := by decide +kernel
theorem dX12_isZone_7 : decode cX12_isZone 7 = .ok (.ireturn, 1) := by decide +kernel
theorem dX12_isArm_0 : decode cX12_isArm 0 = .ok (.iload_n 0, 1) := by decide +kernel
theorem dX12_isArm_1 : decode cX12_isArm 1 = .ok (.iconst 0, 1) := by decide +kernel
theorem dX12_isArm_2 : decode cX12_isArm 2 = .ok (.iconst 2, 1) := by decide +kernel
theorem dX12_isArm_3 : decode cX12_isArm 3 = .ok (.invokestatic 143, 3) := by decide +kernel
theorem dX12_isArm_6 : decode cX12_isArm 6 = .ok (.ireturn, 1) := by decide +kernel
theorem dX12_isBuffer_0 : decode cX12_isBuffer 0 = .ok (.iload_n 0, 1) := by decide +kernel
theorem dX12_isBuffer_1 : decode cX12_isBuffer 1 = .ok (.iconst 0, 1) := by decide +kernel
theorem dX12_isBuffer_2 : decode cX12_isBuffer 2 = .ok (.iconst 2, 1) := by decide +kernel
theorem dX12_isBuffer_3 : decode cX12_isBuffer 3 = .ok (.invokestatic 143, 3) := by decide +kernel
theorem dX12_isBuffer_6 : decode cX12_isBuffer 6 = .ok (.ireturn, 1) := by decide +kernel
theorem dX12_has_0 : decode cX12_has 0 = .ok (.iload_n 0, 1) := by decide +kernel
theorem dX12_has_1 : decode cX12_has 1 = .ok (.iload_n 1, 1) := by decide +kernel
theorem dX12_has_2 : decode cX12_has 2 = .ok (.ishr, 1) := by decide +kernel
theorem dX12_has_3 : decode cX12_has 3 = .ok (.iconst 1, 1) := by decide +kernel
theorem dX12_has_4 : decode cX12_has 4 = .ok (.iand, 1) := by decide +kernel
theorem dX12_has_5 : decode cX12_has 5 = .ok (.iconst 1, 1) := by decide +kernel
theorem dX12_has_6 : decode cX12_has 6 = .ok (.if_icmp .ne 7, 3) := by decide +kernel
theorem dX12_has_9 : decode cX12_has 9 = .ok (.iconst 1, 1) := by decide +kernel
theorem dX12_has_10 : decode cX12_has 10 = .ok (.goto 4, 3) := by decide +kernel
theorem dX12_has_13 : decode cX12_has 13 = .ok (.iconst 0, 1) := by decide +kernel
theorem dX12_has_14 : decode cX12_has 14 = .ok (.ireturn, 1) := by decide +kernel
theorem dX12_zoneAt_0 : decode cX12_zoneAt 0 = .ok (.aload_n 0, 1) := by decide +kernel
theorem dX12_zoneAt_1 : decode cX12_zoneAt 1 = .ok (.getfield 76, 3) := by decide +kernel
theorem dX12_zoneAt_4 : decode cX12_zoneAt 4 = .ok (.iload_n 1, 1) := by decide +kernel
theorem dX12_zoneAt_5 : decode cX12_zoneAt 5 = .ok (.iaload, 1) := by decide +kernel
theorem dX12_zoneAt_6 : decode cX12_zoneAt 6 = .ok (.istore_n 3, 1) := by decide +kernel
theorem dX12_zoneAt_7 : decode cX12_zoneAt 7 = .ok (.aload_n 0, 1) := by decide +kernel
theorem dX12_zoneAt_8 : decode cX12_zoneAt 8 = .ok (.getfield 79, 3) := by decide +kernel
theorem dX12_zoneAt_11 : decode cX12_zoneAt 11 = .ok (.iload_n 1, 1) := by decide +kernel
theorem dX12_zoneAt_12 : decode cX12_zoneAt 12 = .ok (.iaload, 1) := by decide +kernel
theorem dX12_zoneAt_13 : decode cX12_zoneAt 13 = .ok (.iconst 1, 1) := by decide +kernel
theorem dX12_zoneAt_14 : decode cX12_zoneAt 14 = .ok (.isub, 1) := by decide +kernel
theorem dX12_zoneAt_15 : decode cX12_zoneAt 15 = .ok (.istore 4, 2) := by decide +kernel
theorem dX12_zoneAt_17 : decode cX12_zoneAt 17 = .ok (.iload 4, 2) := by decide +kernel
theorem dX12_zoneAt_19 : decode cX12_zoneAt 19 = .ok (.iload_n 2, 1) := by decide +kernel
theorem dX12_zoneAt_20 : decode cX12_zoneAt 20 = .ok (.if_icmp .le 14, 3) := by decide +kernel
theorem dX12_zoneAt_23 : decode cX12_zoneAt 23 = .ok (.iload_n 3, 1) := by decide +kernel
theorem dX12_zoneAt_24 : decode cX12_zoneAt 24 = .ok (.bipush 10, 2) := by decide +kernel
theorem dX12_zoneAt_26 : decode cX12_zoneAt 26 = .ok (.idiv, 1) := by decide +kernel
theorem dX12_zoneAt_27 : decode cX12_zoneAt 27 = .ok (.istore_n 3, 1) := by decide +kernel
theorem dX12_zoneAt_28 : decode cX12_zoneAt 28 = .ok (.iinc 4 (-1), 3) := by decide +kernel
theorem dX12_zoneAt_31 : decode cX12_zoneAt 31 = .ok (.goto (-14), 3) := by decide +kernel
theorem dX12_zoneAt_34 : decode cX12_zoneAt 34 = .ok (.iload_n 3, 1) := by decide +kernel
theorem dX12_zoneAt_35 : decode cX12_zoneAt 35 = .ok (.bipush 10, 2) := by decide +kernel
theorem dX12_zoneAt_37 : decode cX12_zoneAt 37 = .ok (.irem, 1) := by decide +kernel
theorem dX12_zoneAt_38 : decode cX12_zoneAt 38 = .ok (.iconst 1, 1) := by decide +kernel
theorem dX12_zoneAt_39 : decode cX12_zoneAt 39 = .ok (.isub, 1) := by decide +kernel
theorem dX12_zoneAt_40 : decode cX12_zoneAt 40 = .ok (.ireturn, 1) := by decide +kernel
theorem dX12_zoneOf_0 : decode cX12_zoneOf 0 = .ok (.aload_n 0, 1) := by decide +kernel
theorem dX12_zoneOf_1 : decode cX12_zoneOf 1 = .ok (.aload_n 0, 1) := by decide +kernel
theorem dX12_zoneOf_2 : decode cX12_zoneOf 2 = .ok (.getfield 46, 3) := by decide +kernel
theorem dX12_zoneOf_5 : decode cX12_zoneOf 5 = .ok (.iload_n 1, 1) := by decide +kernel
theorem dX12_zoneOf_6 : decode cX12_zoneOf 6 = .ok (.iaload, 1) := by decide +kernel
theorem dX12_zoneOf_7 : decode cX12_zoneOf 7 = .ok (.aload_n 0, 1) := by decide +kernel
theorem dX12_zoneOf_8 : decode cX12_zoneOf 8 = .ok (.getfield 52, 3) := by decide +kernel
theorem dX12_zoneOf_11 : decode cX12_zoneOf 11 = .ok (.iload_n 1, 1) := by decide +kernel
theorem dX12_zoneOf_12 : decode cX12_zoneOf 12 = .ok (.iaload, 1) := by decide +kernel
theorem dX12_zoneOf_13 : decode cX12_zoneOf 13 = .ok (.invokevirtual 147, 3) := by decide +kernel
theorem dX12_zoneOf_16 : decode cX12_zoneOf 16 = .ok (.ireturn, 1) := by decide +kernel
theorem dX12_holds_0 : decode cX12_holds 0 = .ok (.aload_n 0, 1) := by decide +kernel
theorem dX12_holds_1 : decode cX12_holds 1 = .ok (.getfield 49, 3) := by decide +kernel
theorem dX12_holds_4 : decode cX12_holds 4 = .ok (.iload_n 1, 1) := by decide +kernel
theorem dX12_holds_5 : decode cX12_holds 5 = .ok (.iaload, 1) := by decide +kernel
theorem dX12_holds_6 : decode cX12_holds 6 = .ok (.ifCond .ne 5, 3) := by decide +kernel
theorem dX12_holds_9 : decode cX12_holds 9 = .ok (.iconst 0, 1) := by decide +kernel
theorem dX12_holds_10 : decode cX12_holds 10 = .ok (.ireturn, 1) := by decide +kernel
theorem dX12_holds_11 : decode cX12_holds 11 = .ok (.iconst 1, 1) := by decide +kernel
theorem dX12_holds_12 : decode cX12_holds 12 = .ok (.aload_n 0, 1) := by decide +kernel
theorem dX12_holds_13 : decode cX12_holds 13 = .ok (.iload_n 1, 1) := by decide +kernel
theorem dX12_holds_14 : decode cX12_holds 14 = .ok (.invokevirtual 151, 3) := by decide +kernel
theorem dX12_holds_17 : decode cX12_holds 17 = .ok (.ishl, 1) := by decide +kernel
theorem dX12_holds_18 : decode cX12_holds 18 = .ok (.istore_n 2, 1) := by decide +kernel
theorem dX12_holds_19 : decode cX12_holds 19 = .ok (.aload_n 0, 1) := by decide +kernel
theorem dX12_holds_20 : decode cX12_holds 20 = .ok (.getfield 49, 3) := by decide +kernel
theorem dX12_holds_23 : decode cX12_holds 23 = .ok (.iload_n 1, 1) := by decide +kernel
theorem dX12_holds_24 : decode cX12_holds 24 = .ok (.iaload, 1) := by decide +kernel
theorem dX12_holds_25 : decode cX12_holds 25 = .ok (.iconst 2, 1) := by decide +kernel
theorem dX12_holds_26 : decode cX12_holds 26 = .ok (.if_icmp .ne 28, 3) := by decide +kernel
theorem dX12_holds_29 : decode cX12_holds 29 = .ok (.iload_n 2, 1) := by decide +kernel
theorem dX12_holds_30 : decode cX12_holds 30 = .ok (.iconst 1, 1) := by decide +kernel
theorem dX12_holds_31 : decode cX12_holds 31 = .ok (.aload_n 0, 1) := by decide +kernel
theorem dX12_holds_32 : decode cX12_holds 32 = .ok (.aload_n 0, 1) := by decide +kernel
theorem dX12_holds_33 : decode cX12_holds 33 = .ok (.getfield 46, 3) := by decide +kernel
theorem dX12_holds_36 : decode cX12_holds 36 = .ok (.iload_n 1, 1) := by decide +kernel
theorem dX12_holds_37 : decode cX12_holds 37 = .ok (.iaload, 1) := by decide +kernel
theorem dX12_holds_38 : decode cX12_holds 38 = .ok (.aload_n 0, 1) := by decide +kernel
theorem dX12_holds_39 : decode cX12_holds 39 = .ok (.getfield 52, 3) := by decide +kernel
theorem dX12_holds_42 : decode cX12_holds 42 = .ok (.iload_n 1, 1) := by decide +kernel
theorem dX12_holds_43 : decode cX12_holds 43 = .ok (.iaload, 1) := by decide +kernel
theorem dX12_holds_44 : decode cX12_holds 44 = .ok (.iconst 1, 1) := by decide +kernel
theorem dX12_holds_45 : decode cX12_holds 45 = .ok (.iadd, 1) := by decide +kernel
theorem dX12_holds_46 : decode cX12_holds 46 = .ok (.invokevirtual 147, 3) := by decide +kernel
theorem dX12_holds_49 : decode cX12_holds 49 = .ok (.ishl, 1) := by decide +kernel
theorem dX12_holds_50 : decode cX12_holds 50 = .ok (.ior, 1) := by decide +kernel
theorem dX12_holds_51 : decode cX12_holds 51 = .ok (.goto 4, 3) := by decide +kernel
theorem dX12_holds_54 : decode cX12_holds 54 = .ok (.iload_n 2, 1) := by decide +kernel
theorem dX12_holds_55 : decode cX12_holds 55 = .ok (.ireturn, 1) := by decide +kernel
theorem dX12_conflicts_0 : decode cX12_conflicts 0 = .ok (.aload_n 0, 1) := by decide +kernel
theorem dX12_conflicts_1 : decode cX12_conflicts 1 = .ok (.getfield 7, 3) := by decide +kernel
theorem dX12_conflicts_4 : decode cX12_conflicts 4 = .ok (.iload_n 1, 1) := by decide +kernel
theorem dX12_conflicts_5 : decode cX12_conflicts 5 = .ok (.iaload, 1) := by decide +kernel
theorem dX12_conflicts_6 : decode cX12_conflicts 6 = .ok (.iconst 1, 1) := by decide +kernel
theorem dX12_conflicts_7 : decode cX12_conflicts 7 = .ok (.iload_n 1, 1) := by decide +kernel
theorem dX12_conflicts_8 : decode cX12_conflicts 8 = .ok (.ishl, 1) := by decide +kernel
theorem dX12_conflicts_9 : decode cX12_conflicts 9 = .ok (.ior, 1) := by decide +kernel
theorem dX12_conflicts_10 : decode cX12_conflicts 10 = .ok (.ireturn, 1) := by decide +kernel
theorem dX12_notes_0 : decode cX12_notes 0 = .ok (.aload_n 0, 1) := by decide +kernel
theorem dX12_notes_1 : decode cX12_notes 1 = .ok (.getfield 155, 3) := by decide +kernel
theorem dX12_notes_4 : decode cX12_notes 4 = .ok (.bipush 24, 2) := by decide +kernel
theorem dX12_notes_6 : decode cX12_notes 6 = .ok (.if_icmp .ne 49, 3) := by decide +kernel
theorem dX12_notes_9 : decode cX12_notes 9 = .ok (.aload_n 0, 1) := by decide +kernel
theorem dX12_notes_10 : decode cX12_notes 10 = .ok (.dup, 1) := by decide +kernel
theorem dX12_notes_11 : decode cX12_notes 11 = .ok (.getfield 155, 3) := by decide +kernel
theorem dX12_notes_14 : decode cX12_notes 14 = .ok (.iconst 1, 1) := by decide +kernel
theorem dX12_notes_15 : decode cX12_notes 15 = .ok (.isub, 1) := by decide +kernel
theorem dX12_notes_16 : decode cX12_notes 16 = .ok (.putfield 155, 3) := by decide +kernel
theorem dX12_notes_19 : decode cX12_notes 19 = .ok (.iconst 0, 1) := by decide +kernel
theorem dX12_notes_20 : decode cX12_notes 20 = .ok (.istore 4, 2) := by decide +kernel
theorem dX12_notes_22 : decode cX12_notes 22 = .ok (.iload 4, 2) := by decide +kernel
theorem dX12_notes_24 : decode cX12_notes 24 = .ok (.iconst 4, 1) := by decide +kernel
theorem dX12_notes_25 : decode cX12_notes 25 = .ok (.aload_n 0, 1) := by decide +kernel
theorem dX12_notes_26 : decode cX12_notes 26 = .ok (.getfield 155, 3) := by decide +kernel
theorem dX12_notes_29 : decode cX12_notes 29 = .ok (.imul, 1) := by decide +kernel
theorem dX12_notes_30 : decode cX12_notes 30 = .ok (.if_icmp .ge 25, 3) := by decide +kernel
theorem dX12_notes_33 : decode cX12_notes 33 = .ok (.aload_n 0, 1) := by decide +kernel
theorem dX12_notes_34 : decode cX12_notes 34 = .ok (.getfield 103, 3) := by decide +kernel
theorem dX12_notes_37 : decode cX12_notes 37 = .ok (.iload 4, 2) := by decide +kernel
theorem dX12_notes_39 : decode cX12_notes 39 = .ok (.aload_n 0, 1) := by decide +kernel
theorem dX12_notes_40 : decode cX12_notes 40 = .ok (.getfield 103, 3) := by decide +kernel
theorem dX12_notes_43 : decode cX12_notes 43 = .ok (.iload 4, 2) := by decide +kernel
theorem dX12_notes_45 : decode cX12_notes 45 = .ok (.iconst 4, 1) := by decide +kernel
theorem dX12_notes_46 : decode cX12_notes 46 = .ok (.iadd, 1) := by decide +kernel
theorem dX12_notes_47 : decode cX12_notes 47 = .ok (.iaload, 1) := by decide +kernel
theorem dX12_notes_48 : decode cX12_notes 48 = .ok (.iastore, 1) := by decide +kernel
theorem dX12_notes_49 : decode cX12_notes 49 = .ok (.iinc 4 1, 3) := by decide +kernel
theorem dX12_notes_52 : decode cX12_notes 52 = .ok (.goto (-30), 3) := by decide +kernel
theorem dX12_notes_55 : decode cX12_notes 55 = .ok (.iconst 4, 1) := by decide +kernel
theorem dX12_notes_56 : decode cX12_notes 56 = .ok (.aload_n 0, 1) := by decide +kernel
theorem dX12_notes_57 : decode cX12_notes 57 = .ok (.getfield 155, 3) := by decide +kernel
theorem dX12_notes_60 : decode cX12_notes 60 = .ok (.imul, 1) := by decide +kernel
theorem dX12_notes_61 : decode cX12_notes 61 = .ok (.istore 4, 2) := by decide +kernel
theorem dX12_notes_63 : decode cX12_notes 63 = .ok (.aload_n 0, 1) := by decide +kernel
theorem dX12_notes_64 : decode cX12_notes 64 = .ok (.getfield 103, 3) := by decide +kernel
theorem dX12_notes_67 : decode cX12_notes 67 = .ok (.iload 4, 2) := by decide +kernel
theorem dX12_notes_69 : decode cX12_notes 69 = .ok (.aload_n 0, 1) := by decide +kernel
theorem dX12_notes_70 : decode cX12_notes 70 = .ok (.getfield 158, 3) := by decide +kernel
theorem dX12_notes_73 : decode cX12_notes 73 = .ok (.iastore, 1) := by decide +kernel
theorem dX12_notes_74 : decode cX12_notes 74 = .ok (.aload_n 0, 1) := by decide +kernel
theorem dX12_notes_75 : decode cX12_notes 75 = .ok (.getfield 103, 3) := by decide +kernel
theorem dX12_notes_78 : decode cX12_notes 78 = .ok (.iload 4, 2) := by decide +kernel
theorem dX12_notes_80 : decode cX12_notes 80 = .ok (.iconst 1, 1) := by decide +kernel
theorem dX12_notes_81 : decode cX12_notes 81 = .ok (.iadd, 1) := by decide +kernel
theorem dX12_notes_82 : decode cX12_notes 82 = .ok (.iload_n 1, 1) := by decide +kernel
theorem dX12_notes_83 : decode cX12_notes 83 = .ok (.iastore, 1) := by decide +kernel
theorem dX12_notes_84 : decode cX12_notes 84 = .ok (.aload_n 0, 1) := by decide +kernel
theorem dX12_notes_85 : decode cX12_notes 85 = .ok (.getfield 103, 3) := by decide +kernel
theorem dX12_notes_88 : decode cX12_notes 88 = .ok (.iload 4, 2) := by decide +kernel
theorem dX12_notes_90 : decode cX12_notes 90 = .ok (.iconst 2, 1) := by decide +kernel
theorem dX12_notes_91 : decode cX12_notes 91 = .ok (.iadd, 1) := by decide +kernel
theorem dX12_notes_92 : decode cX12_notes 92 = .ok (.iload_n 2, 1) := by decide +kernel
theorem dX12_notes_93 : decode cX12_notes 93 = .ok (.iastore, 1) := by decide +kernel
theorem dX12_notes_94 : decode cX12_notes 94 = .ok (.aload_n 0, 1) := by decide +kernel
theorem dX12_notes_95 : decode cX12_notes 95 = .ok (.getfield 103, 3) := by decide +kernel
theorem dX12_notes_98 : decode cX12_notes 98 = .ok (.iload 4, 2) := by decide +kernel
theorem dX12_notes_100 : decode cX12_notes 100 = .ok (.iconst 3, 1) := by decide +kernel
theorem dX12_notes_101 : decode cX12_notes 101 = .ok (.iadd, 1) := by decide +kernel
theorem dX12_notes_102 : decode cX12_notes 102 = .ok (.iload_n 3, 1) := by decide +kernel
theorem dX12_notes_103 : decode cX12_notes 103 = .ok (.iastore, 1) := by decide +kernel
theorem dX12_notes_104 : decode cX12_notes 104 = .ok (.aload_n 0, 1) := by decide +kernel
theorem dX12_notes_105 : decode cX12_notes 105 = .ok (.dup, 1) := by decide +kernel
theorem dX12_notes_106 : decode cX12_notes 106 = .ok (.getfield 155, 3) := by decide +kernel
theorem dX12_notes_109 : decode cX12_notes 109 = .ok (.iconst 1, 1) := by decide +kernel
theorem dX12_notes_110 : decode cX12_notes 110 = .ok (.iadd, 1) := by decide +kernel
theorem dX12_notes_111 : decode cX12_notes 111 = .ok (.putfield 155, 3) := by decide +kernel
theorem dX12_notes_114 : decode cX12_notes 114 = .ok (.return_, 1) := by decide +kernel
theorem dX12_findNow_0 : decode cX12_findNow 0 = .ok (.iconst 0, 1) := by decide +kernel
theorem dX12_findNow_1 : decode cX12_findNow 1 = .ok (.istore_n 1, 1) := by decide +kernel
theorem dX12_findNow_2 : decode cX12_findNow 2 = .ok (.iload_n 1, 1) := by decide +kernel
theorem dX12_findNow_3 : decode cX12_findNow 3 = .ok (.iconst 3, 1) := by decide +kernel
theorem dX12_findNow_4 : decode cX12_findNow 4 = .ok (.if_icmp .ge 60, 3) := by decide +kernel
theorem dX12_findNow_7 : decode cX12_findNow 7 = .ok (.aload_n 0, 1) := by decide +kernel
theorem dX12_findNow_8 : decode cX12_findNow 8 = .ok (.getfield 106, 3) := by decide +kernel
theorem dX12_findNow_11 : decode cX12_findNow 11 = .ok (.iload_n 1, 1) := by decide +kernel
theorem dX12_findNow_12 : decode cX12_findNow 12 = .ok (.aload_n 0, 1) := by decide +kernel
theorem dX12_findNow_13 : decode cX12_findNow 13 = .ok (.iload_n 1, 1) := by decide +kernel
theorem dX12_findNow_14 : decode cX12_findNow 14 = .ok (.invokevirtual 161, 3) := by decide +kernel
theorem dX12_findNow_17 : decode cX12_findNow 17 = .ok (.iastore, 1) := by decide +kernel
theorem dX12_findNow_18 : decode cX12_findNow 18 = .ok (.aload_n 0, 1) := by decide +kernel
theorem dX12_findNow_19 : decode cX12_findNow 19 = .ok (.getfield 109, 3) := by decide +kernel
theorem dX12_findNow_22 : decode cX12_findNow 22 = .ok (.iload_n 1, 1) := by decide +kernel
theorem dX12_findNow_23 : decode cX12_findNow 23 = .ok (.aload_n 0, 1) := by decide +kernel
theorem dX12_findNow_24 : decode cX12_findNow 24 = .ok (.getfield 46, 3) := by decide +kernel
theorem dX12_findNow_27 : decode cX12_findNow 27 = .ok (.iload_n 1, 1) := by decide +kernel
theorem dX12_findNow_28 : decode cX12_findNow 28 = .ok (.iaload, 1) := by decide +kernel
theorem dX12_findNow_29 : decode cX12_findNow 29 = .ok (.iastore, 1) := by decide +kernel
theorem dX12_findNow_30 : decode cX12_findNow 30 = .ok (.aload_n 0, 1) := by decide +kernel
theorem dX12_findNow_31 : decode cX12_findNow 31 = .ok (.getfield 112, 3) := by decide +kernel
theorem dX12_findNow_34 : decode cX12_findNow 34 = .ok (.iload_n 1, 1) := by decide +kernel
theorem dX12_findNow_35 : decode cX12_findNow 35 = .ok (.aload_n 0, 1) := by decide +kernel
theorem dX12_findNow_36 : decode cX12_findNow 36 = .ok (.getfield 52, 3) := by decide +kernel
theorem dX12_findNow_39 : decode cX12_findNow 39 = .ok (.iload_n 1, 1) := by decide +kernel
theorem dX12_findNow_40 : decode cX12_findNow 40 = .ok (.iaload, 1) := by decide +kernel
theorem dX12_findNow_41 : decode cX12_findNow 41 = .ok (.aload_n 0, 1) := by decide +kernel
theorem dX12_findNow_42 : decode cX12_findNow 42 = .ok (.getfield 49, 3) := by decide +kernel
theorem dX12_findNow_45 : decode cX12_findNow 45 = .ok (.iload_n 1, 1) := by decide +kernel
theorem dX12_findNow_46 : decode cX12_findNow 46 = .ok (.iaload, 1) := by decide +kernel
theorem dX12_findNow_47 : decode cX12_findNow 47 = .ok (.iconst 2, 1) := by decide +kernel
theorem dX12_findNow_48 : decode cX12_findNow 48 = .ok (.if_icmp .ne 7, 3) := by decide +kernel
theorem dX12_findNow_51 : decode cX12_findNow 51 = .ok (.iconst 2, 1) := by decide +kernel
theorem dX12_findNow_52 : decode cX12_findNow 52 = .ok (.goto 4, 3) := by decide +kernel
theorem dX12_findNow_55 : decode cX12_findNow 55 = .ok (.iconst 1, 1) := by decide +kernel
theorem dX12_findNow_56 : decode cX12_findNow 56 = .ok (.iadd, 1) := by decide +kernel
theorem dX12_findNow_57 : decode cX12_findNow 57 = .ok (.iastore, 1) := by decide +kernel
theorem dX12_findNow_58 : decode cX12_findNow 58 = .ok (.iinc 1 1, 3) := by decide +kernel
theorem dX12_findNow_61 : decode cX12_findNow 61 = .ok (.goto (-59), 3) := by decide +kernel
theorem dX12_findNow_64 : decode cX12_findNow 64 = .ok (.return_, 1) := by decide +kernel
theorem dX12_canFinish_0 : decode cX12_canFinish 0 = .ok (.iconst 0, 1) := by decide +kernel
theorem dX12_canFinish_1 : decode cX12_canFinish 1 = .ok (.istore_n 2, 1) := by decide +kernel
theorem dX12_canFinish_2 : decode cX12_canFinish 2 = .ok (.iconst 0, 1) := by decide +kernel
theorem dX12_canFinish_3 : decode cX12_canFinish 3 = .ok (.istore_n 3, 1) := by decide +kernel
theorem dX12_canFinish_4 : decode cX12_canFinish 4 = .ok (.iload_n 3, 1) := by decide +kernel
theorem dX12_canFinish_5 : decode cX12_canFinish 5 = .ok (.iconst 3, 1) := by decide +kernel
theorem dX12_canFinish_6 : decode cX12_canFinish 6 = .ok (.if_icmp .ge 36, 3) := by decide +kernel
theorem dX12_canFinish_9 : decode cX12_canFinish 9 = .ok (.iload_n 2, 1) := by decide +kernel
theorem dX12_canFinish_10 : decode cX12_canFinish 10 = .ok (.iload_n 3, 1) := by decide +kernel
theorem dX12_canFinish_11 : decode cX12_canFinish 11 = .ok (.iload_n 1, 1) := by decide +kernel
theorem dX12_canFinish_12 : decode cX12_canFinish 12 = .ok (.if_icmp .eq 21, 3) := by decide +kernel
theorem dX12_canFinish_15 : decode cX12_canFinish 15 = .ok (.aload_n 0, 1) := by decide +kernel
theorem dX12_canFinish_16 : decode cX12_canFinish 16 = .ok (.getfield 109, 3) := by decide +kernel
theorem dX12_canFinish_19 : decode cX12_canFinish 19 = .ok (.iload_n 3, 1) := by decide +kernel
theorem dX12_canFinish_20 : decode cX12_canFinish 20 = .ok (.iaload, 1) := by decide +kernel
theorem dX12_canFinish_21 : decode cX12_canFinish 21 = .ok (.ifCond .lt 12, 3) := by decide +kernel
theorem dX12_canFinish_24 : decode cX12_canFinish 24 = .ok (.aload_n 0, 1) := by decide +kernel
theorem dX12_canFinish_25 : decode cX12_canFinish 25 = .ok (.getfield 106, 3) := by decide +kernel
theorem dX12_canFinish_28 : decode cX12_canFinish 28 = .ok (.iload_n 3, 1) := by decide +kernel
theorem dX12_canFinish_29 : decode cX12_canFinish 29 = .ok (.iaload, 1) := by decide +kernel
theorem dX12_canFinish_30 : decode cX12_canFinish 30 = .ok (.goto 4, 3) := by decide +kernel
theorem dX12_canFinish_33 : decode cX12_canFinish 33 = .ok (.iconst 0, 1) := by decide +kernel
theorem dX12_canFinish_34 : decode cX12_canFinish 34 = .ok (.ior, 1) := by decide +kernel
theorem dX12_canFinish_35 : decode cX12_canFinish 35 = .ok (.istore_n 2, 1) := by decide +kernel
theorem dX12_canFinish_36 : decode cX12_canFinish 36 = .ok (.iinc 3 1, 3) := by decide +kernel
theorem dX12_canFinish_39 : decode cX12_canFinish 39 = .ok (.goto (-35), 3) := by decide +kernel
theorem dX12_canFinish_42 : decode cX12_canFinish 42 = .ok (.aload_n 0, 1) := by decide +kernel
theorem dX12_canFinish_43 : decode cX12_canFinish 43 = .ok (.getfield 112, 3) := by decide +kernel
theorem dX12_canFinish_46 : decode cX12_canFinish 46 = .ok (.iload_n 1, 1) := by decide +kernel
theorem dX12_canFinish_47 : decode cX12_canFinish 47 = .ok (.iaload, 1) := by decide +kernel
theorem dX12_canFinish_48 : decode cX12_canFinish 48 = .ok (.istore_n 3, 1) := by decide +kernel
theorem dX12_canFinish_49 : decode cX12_canFinish 49 = .ok (.iload_n 3, 1) := by decide +kernel
theorem dX12_canFinish_50 : decode cX12_canFinish 50 = .ok (.aload_n 0, 1) := by decide +kernel
theorem dX12_canFinish_51 : decode cX12_canFinish 51 = .ok (.getfield 79, 3) := by decide +kernel
theorem dX12_canFinish_54 : decode cX12_canFinish 54 = .ok (.aload_n 0, 1) := by decide +kernel
theorem dX12_canFinish_55 : decode cX12_canFinish 55 = .ok (.getfield 109, 3) := by decide +kernel
theorem dX12_canFinish_58 : decode cX12_canFinish 58 = .ok (.iload_n 1, 1) := by decide +kernel
theorem dX12_canFinish_59 : decode cX12_canFinish 59 = .ok (.iaload, 1) := by decide +kernel
theorem dX12_canFinish_60 : decode cX12_canFinish 60 = .ok (.iaload, 1) := by decide +kernel
theorem dX12_canFinish_61 : decode cX12_canFinish 61 = .ok (.if_icmp .ge 31, 3) := by decide +kernel
theorem dX12_canFinish_64 : decode cX12_canFinish 64 = .ok (.aload_n 0, 1) := by decide +kernel
theorem dX12_canFinish_65 : decode cX12_canFinish 65 = .ok (.aload_n 0, 1) := by decide +kernel
theorem dX12_canFinish_66 : decode cX12_canFinish 66 = .ok (.aload_n 0, 1) := by decide +kernel
theorem dX12_canFinish_67 : decode cX12_canFinish 67 = .ok (.getfield 109, 3) := by decide +kernel
theorem dX12_canFinish_70 : decode cX12_canFinish 70 = .ok (.iload_n 1, 1) := by decide +kernel
theorem dX12_canFinish_71 : decode cX12_canFinish 71 = .ok (.iaload, 1) := by decide +kernel
theorem dX12_canFinish_72 : decode cX12_canFinish 72 = .ok (.iload_n 3, 1) := by decide +kernel
theorem dX12_canFinish_73 : decode cX12_canFinish 73 = .ok (.invokevirtual 147, 3) := by decide +kernel
theorem dX12_canFinish_76 : decode cX12_canFinish 76 = .ok (.invokevirtual 164, 3) := by decide +kernel
theorem dX12_canFinish_79 : decode cX12_canFinish 79 = .ok (.iload_n 2, 1) := by decide +kernel
theorem dX12_canFinish_80 : decode cX12_canFinish 80 = .ok (.iand, 1) := by decide +kernel
theorem dX12_canFinish_81 : decode cX12_canFinish 81 = .ok (.ifCond .eq 5, 3) := by decide +kernel
theorem dX12_canFinish_84 : decode cX12_canFinish 84 = .ok (.iconst 0, 1) := by decide +kernel
theorem dX12_canFinish_85 : decode cX12_canFinish 85 = .ok (.ireturn, 1) := by decide +kernel
theorem dX12_canFinish_86 : decode cX12_canFinish 86 = .ok (.iinc 3 1, 3) := by decide +kernel
theorem dX12_canFinish_89 : decode cX12_canFinish 89 = .ok (.goto (-40), 3) := by decide +kernel
theorem dX12_canFinish_92 : decode cX12_canFinish 92 = .ok (.iconst 1, 1) := by decide +kernel
theorem dX12_canFinish_93 : decode cX12_canFinish 93 = .ok (.ireturn, 1) := by decide +kernel
theorem dX12_findStuck_0 : decode cX12_findStuck 0 = .ok (.iconst 1, 1) := by decide +kernel
theorem dX12_findStuck_1 : decode cX12_findStuck 1 = .ok (.istore_n 1, 1) := by decide +kernel
theorem dX12_findStuck_2 : decode cX12_findStuck 2 = .ok (.iload_n 1, 1) := by decide +kernel
theorem dX12_findStuck_3 : decode cX12_findStuck 3 = .ok (.ifCond .eq 50, 3) := by decide +kernel
theorem dX12_findStuck_6 : decode cX12_findStuck 6 = .ok (.iconst 0, 1) := by decide +kernel
theorem dX12_findStuck_7 : decode cX12_findStuck 7 = .ok (.istore_n 1, 1) := by decide +kernel
theorem dX12_findStuck_8 : decode cX12_findStuck 8 = .ok (.iconst 0, 1) := by decide +kernel
theorem dX12_findStuck_9 : decode cX12_findStuck 9 = .ok (.istore_n 2, 1) := by decide +kernel
theorem dX12_findStuck_10 : decode cX12_findStuck 10 = .ok (.iload_n 2, 1) := by decide +kernel
theorem dX12_findStuck_11 : decode cX12_findStuck 11 = .ok (.iconst 3, 1) := by decide +kernel
theorem dX12_findStuck_12 : decode cX12_findStuck 12 = .ok (.if_icmp .ge 38, 3) := by decide +kernel
theorem dX12_findStuck_15 : decode cX12_findStuck 15 = .ok (.aload_n 0, 1) := by decide +kernel
theorem dX12_findStuck_16 : decode cX12_findStuck 16 = .ok (.getfield 109, 3) := by decide +kernel
theorem dX12_findStuck_19 : decode cX12_findStuck 19 = .ok (.iload_n 2, 1) := by decide +kernel
theorem dX12_findStuck_20 : decode cX12_findStuck 20 = .ok (.iaload, 1) := by decide +kernel
theorem dX12_findStuck_21 : decode cX12_findStuck 21 = .ok (.ifCond .lt 23, 3) := by decide +kernel
theorem dX12_findStuck_24 : decode cX12_findStuck 24 = .ok (.aload_n 0, 1) := by decide +kernel
theorem dX12_findStuck_25 : decode cX12_findStuck 25 = .ok (.iload_n 2, 1) := by decide +kernel
theorem dX12_findStuck_26 : decode cX12_findStuck 26 = .ok (.invokevirtual 167, 3) := by decide +kernel
theorem dX12_findStuck_29 : decode cX12_findStuck 29 = .ok (.ifCond .ne 6, 3) := by decide +kernel
theorem dX12_findStuck_32 : decode cX12_findStuck 32 = .ok (.goto 12, 3) := by decide +kernel
theorem dX12_findStuck_35 : decode cX12_findStuck 35 = .ok (.aload_n 0, 1) := by decide +kernel
theorem dX12_findStuck_36 : decode cX12_findStuck 36 = .ok (.getfield 109, 3) := by decide +kernel
theorem dX12_findStuck_39 : decode cX12_findStuck 39 = .ok (.iload_n 2, 1) := by decide +kernel
theorem dX12_findStuck_40 : decode cX12_findStuck 40 = .ok (.iconst (-1), 1) := by decide +kernel
theorem dX12_findStuck_41 : decode cX12_findStuck 41 = .ok (.iastore, 1) := by decide +kernel
theorem dX12_findStuck_42 : decode cX12_findStuck 42 = .ok (.iconst 1, 1) := by decide +kernel
theorem dX12_findStuck_43 : decode cX12_findStuck 43 = .ok (.istore_n 1, 1) := by decide +kernel
theorem dX12_findStuck_44 : decode cX12_findStuck 44 = .ok (.iinc 2 1, 3) := by decide +kernel
theorem dX12_findStuck_47 : decode cX12_findStuck 47 = .ok (.goto (-37), 3) := by decide +kernel
theorem dX12_findStuck_50 : decode cX12_findStuck 50 = .ok (.goto (-48), 3) := by decide +kernel
theorem dX12_findStuck_53 : decode cX12_findStuck 53 = .ok (.iconst 0, 1) := by decide +kernel
theorem dX12_findStuck_54 : decode cX12_findStuck 54 = .ok (.istore_n 2, 1) := by decide +kernel
theorem dX12_findStuck_55 : decode cX12_findStuck 55 = .ok (.iload_n 2, 1) := by decide +kernel
theorem dX12_findStuck_56 : decode cX12_findStuck 56 = .ok (.iconst 3, 1) := by decide +kernel
theorem dX12_findStuck_57 : decode cX12_findStuck 57 = .ok (.if_icmp .ge 20, 3) := by decide +kernel
theorem dX12_findStuck_60 : decode cX12_findStuck 60 = .ok (.aload_n 0, 1) := by decide +kernel
theorem dX12_findStuck_61 : decode cX12_findStuck 61 = .ok (.getfield 109, 3) := by decide +kernel
theorem dX12_findStuck_64 : decode cX12_findStuck 64 = .ok (.iload_n 2, 1) := by decide +kernel
theorem dX12_findStuck_65 : decode cX12_findStuck 65 = .ok (.iaload, 1) := by decide +kernel
theorem dX12_findStuck_66 : decode cX12_findStuck 66 = .ok (.ifCond .lt 5, 3) := by decide +kernel
theorem dX12_findStuck_69 : decode cX12_findStuck 69 = .ok (.iload_n 2, 1) := by decide +kernel
theorem dX12_findStuck_70 : decode cX12_findStuck 70 = .ok (.ireturn, 1) := by decide +kernel
theorem dX12_findStuck_71 : decode cX12_findStuck 71 = .ok (.iinc 2 1, 3) := by decide +kernel
theorem dX12_findStuck_74 : decode cX12_findStuck 74 = .ok (.goto (-19), 3) := by decide +kernel
theorem dX12_findStuck_77 : decode cX12_findStuck 77 = .ok (.iconst (-1), 1) := by decide +kernel
theorem dX12_findStuck_78 : decode cX12_findStuck 78 = .ok (.ireturn, 1) := by decide +kernel
theorem dX12_reasons_0 : decode cX12_reasons 0 = .ok (.aload_n 0, 1) := by decide +kernel
theorem dX12_reasons_1 : decode cX12_reasons 1 = .ok (.iload_n 1, 1) := by decide +kernel
theorem dX12_reasons_2 : decode cX12_reasons 2 = .ok (.putfield 171, 3) := by decide +kernel
theorem dX12_reasons_5 : decode cX12_reasons 5 = .ok (.aload_n 0, 1) := by decide +kernel
theorem dX12_reasons_6 : decode cX12_reasons 6 = .ok (.iload_n 2, 1) := by decide +kernel
theorem dX12_reasons_7 : decode cX12_reasons 7 = .ok (.putfield 174, 3) := by decide +kernel
theorem dX12_reasons_10 : decode cX12_reasons 10 = .ok (.iload_n 1, 1) := by decide +kernel
theorem dX12_reasons_11 : decode cX12_reasons 11 = .ok (.ireturn, 1) := by decide +kernel
theorem dX12_answers_0 : decode cX12_answers 0 = .ok (.aload_n 0, 1) := by decide +kernel
theorem dX12_answers_1 : decode cX12_answers 1 = .ok (.getfield 88, 3) := by decide +kernel
theorem dX12_answers_4 : decode cX12_answers 4 = .ok (.iload_n 2, 1) := by decide +kernel
theorem dX12_answers_5 : decode cX12_answers 5 = .ok (.iaload, 1) := by decide +kernel
theorem dX12_answers_6 : decode cX12_answers 6 = .ok (.istore 5, 2) := by decide +kernel
theorem dX12_answers_8 : decode cX12_answers 8 = .ok (.aload_n 0, 1) := by decide +kernel
theorem dX12_answers_9 : decode cX12_answers 9 = .ok (.getfield 91, 3) := by decide +kernel
theorem dX12_answers_12 : decode cX12_answers 12 = .ok (.iload_n 2, 1) := by decide +kernel
theorem dX12_answers_13 : decode cX12_answers 13 = .ok (.iaload, 1) := by decide +kernel
theorem dX12_answers_14 : decode cX12_answers 14 = .ok (.istore 6, 2) := by decide +kernel
theorem dX12_answers_16 : decode cX12_answers 16 = .ok (.iload 4, 2) := by decide +kernel
theorem dX12_answers_18 : decode cX12_answers 18 = .ok (.ifCond .eq 33, 3) := by decide +kernel
theorem dX12_answers_21 : decode cX12_answers 21 = .ok (.iload 5, 2) := by decide +kernel
theorem dX12_answers_23 : decode cX12_answers 23 = .ok (.ifCond .lt 28, 3) := by decide +kernel
theorem dX12_answers_26 : decode cX12_answers 26 = .ok (.aload_n 0, 1) := by decide +kernel
theorem dX12_answers_27 : decode cX12_answers 27 = .ok (.getfield 19, 3) := by decide +kernel
theorem dX12_answers_30 : decode cX12_answers 30 = .ok (.iload 5, 2) := by decide +kernel
theorem dX12_answers_32 : decode cX12_answers 32 = .ok (.iaload, 1) := by decide +kernel
theorem dX12_answers_33 : decode cX12_answers 33 = .ok (.aload_n 0, 1) := by decide +kernel
theorem dX12_answers_34 : decode cX12_answers 34 = .ok (.getfield 28, 3) := by decide +kernel
theorem dX12_answers_37 : decode cX12_answers 37 = .ok (.iload 5, 2) := by decide +kernel
theorem dX12_answers_39 : decode cX12_answers 39 = .ok (.iaload, 1) := by decide +kernel
theorem dX12_answers_40 : decode cX12_answers 40 = .ok (.if_icmp .gt 11, 3) := by decide +kernel
theorem dX12_answers_43 : decode cX12_answers 43 = .ok (.aload_n 0, 1) := by decide +kernel
theorem dX12_answers_44 : decode cX12_answers 44 = .ok (.iconst 1, 1) := by decide +kernel
theorem dX12_answers_45 : decode cX12_answers 45 = .ok (.iload 5, 2) := by decide +kernel
theorem dX12_answers_47 : decode cX12_answers 47 = .ok (.invokevirtual 177, 3) := by decide +kernel
theorem dX12_answers_50 : decode cX12_answers 50 = .ok (.ireturn, 1) := by decide +kernel
theorem dX12_answers_51 : decode cX12_answers 51 = .ok (.iload 4, 2) := by decide +kernel
theorem dX12_answers_53 : decode cX12_answers 53 = .ok (.ifCond .eq 41, 3) := by decide +kernel
theorem dX12_answers_56 : decode cX12_answers 56 = .ok (.iload 6, 2) := by decide +kernel
theorem dX12_answers_58 : decode cX12_answers 58 = .ok (.ifCond .lt 36, 3) := by decide +kernel
theorem dX12_answers_61 : decode cX12_answers 61 = .ok (.aload_n 0, 1) := by decide +kernel
theorem dX12_answers_62 : decode cX12_answers 62 = .ok (.getfield 19, 3) := by decide +kernel
theorem dX12_answers_65 : decode cX12_answers 65 = .ok (.iload 6, 2) := by decide +kernel
theorem dX12_answers_67 : decode cX12_answers 67 = .ok (.iaload, 1) := by decide +kernel
theorem dX12_answers_68 : decode cX12_answers 68 = .ok (.aload_n 0, 1) := by decide +kernel
theorem dX12_answers_69 : decode cX12_answers 69 = .ok (.getfield 25, 3) := by decide +kernel
theorem dX12_answers_72 : decode cX12_answers 72 = .ok (.iload 6, 2) := by decide +kernel
theorem dX12_answers_74 : decode cX12_answers 74 = .ok (.iaload, 1) := by decide +kernel
theorem dX12_answers_75 : decode cX12_answers 75 = .ok (.iadd, 1) := by decide +kernel
theorem dX12_answers_76 : decode cX12_answers 76 = .ok (.aload_n 0, 1) := by decide +kernel
theorem dX12_answers_77 : decode cX12_answers 77 = .ok (.getfield 16, 3) := by decide +kernel
theorem dX12_answers_80 : decode cX12_answers 80 = .ok (.iload 6, 2) := by decide +kernel
theorem dX12_answers_82 : decode cX12_answers 82 = .ok (.iaload, 1) := by decide +kernel
theorem dX12_answers_83 : decode cX12_answers 83 = .ok (.if_icmp .lt 11, 3) := by decide +kernel
theorem dX12_answers_86 : decode cX12_answers 86 = .ok (.aload_n 0, 1) := by decide +kernel
theorem dX12_answers_87 : decode cX12_answers 87 = .ok (.iconst 2, 1) := by decide +kernel
theorem dX12_answers_88 : decode cX12_answers 88 = .ok (.iload 6, 2) := by decide +kernel
theorem dX12_answers_90 : decode cX12_answers 90 = .ok (.invokevirtual 177, 3) := by decide +kernel
theorem dX12_answers_93 : decode cX12_answers 93 = .ok (.ireturn, 1) := by decide +kernel
theorem dX12_answers_94 : decode cX12_answers 94 = .ok (.aload_n 0, 1) := by decide +kernel
theorem dX12_answers_95 : decode cX12_answers 95 = .ok (.iload_n 2, 1) := by decide +kernel
theorem dX12_answers_96 : decode cX12_answers 96 = .ok (.iload_n 3, 1) := by decide +kernel
theorem dX12_answers_97 : decode cX12_answers 97 = .ok (.invokevirtual 147, 3) := by decide +kernel
theorem dX12_answers_100 : decode cX12_answers 100 = .ok (.istore 7, 2) := by decide +kernel
theorem dX12_answers_102 : decode cX12_answers 102 = .ok (.iconst 0, 1) := by decide +kernel
theorem dX12_answers_103 : decode cX12_answers 103 = .ok (.istore 8, 2) := by decide +kernel
theorem dX12_answers_105 : decode cX12_answers 105 = .ok (.iload 8, 2) := by decide +kernel
theorem dX12_answers_107 : decode cX12_answers 107 = .ok (.iconst 3, 1) := by decide +kernel
theorem dX12_answers_108 : decode cX12_answers 108 = .ok (.if_icmp .ge 39, 3) := by decide +kernel
theorem dX12_answers_111 : decode cX12_answers 111 = .ok (.iload 8, 2) := by decide +kernel
theorem dX12_answers_113 : decode cX12_answers 113 = .ok (.iload_n 1, 1) := by decide +kernel
theorem dX12_answers_114 : decode cX12_answers 114 = .ok (.if_icmp .eq 27, 3) := by decide +kernel
theorem dX12_answers_117 : decode cX12_answers 117 = .ok (.aload_n 0, 1) := by decide +kernel
theorem dX12_answers_118 : decode cX12_answers 118 = .ok (.iload 8, 2) := by decide +kernel
theorem dX12_answers_120 : decode cX12_answers 120 = .ok (.invokevirtual 161, 3) := by decide +kernel
theorem dX12_answers_123 : decode cX12_answers 123 = .ok (.aload_n 0, 1) := by decide +kernel
theorem dX12_answers_124 : decode cX12_answers 124 = .ok (.iload 7, 2) := by decide +kernel
theorem dX12_answers_126 : decode cX12_answers 126 = .ok (.invokevirtual 164, 3) := by decide +kernel
theorem dX12_answers_129 : decode cX12_answers 129 = .ok (.iand, 1) := by decide +kernel
theorem dX12_answers_130 : decode cX12_answers 130 = .ok (.ifCond .eq 11, 3) := by decide +kernel
theorem dX12_answers_133 : decode cX12_answers 133 = .ok (.aload_n 0, 1) := by decide +kernel
theorem dX12_answers_134 : decode cX12_answers 134 = .ok (.iconst 3, 1) := by decide +kernel
theorem dX12_answers_135 : decode cX12_answers 135 = .ok (.iload 8, 2) := by decide +kernel
theorem dX12_answers_137 : decode cX12_answers 137 = .ok (.invokevirtual 177, 3) := by decide +kernel
theorem dX12_answers_140 : decode cX12_answers 140 = .ok (.ireturn, 1) := by decide +kernel
theorem dX12_answers_141 : decode cX12_answers 141 = .ok (.iinc 8 1, 3) := by decide +kernel
theorem dX12_answers_144 : decode cX12_answers 144 = .ok (.goto (-39), 3) := by decide +kernel
theorem dX12_answers_147 : decode cX12_answers 147 = .ok (.aload_n 0, 1) := by decide +kernel
theorem dX12_answers_148 : decode cX12_answers 148 = .ok (.invokevirtual 180, 3) := by decide +kernel
theorem dX12_answers_151 : decode cX12_answers 151 = .ok (.aload_n 0, 1) := by decide +kernel
theorem dX12_answers_152 : decode cX12_answers 152 = .ok (.getfield 106, 3) := by decide +kernel
theorem dX12_answers_155 : decode cX12_answers 155 = .ok (.iload_n 1, 1) := by decide +kernel
theorem dX12_answers_156 : decode cX12_answers 156 = .ok (.dup2, 1) := by decide +kernel
theorem dX12_answers_157 : decode cX12_answers 157 = .ok (.iaload, 1) := by decide +kernel
theorem dX12_answers_158 : decode cX12_answers 158 = .ok (.iconst 1, 1) := by decide +kernel
theorem dX12_answers_159 : decode cX12_answers 159 = .ok (.iload 7, 2) := by decide +kernel
theorem dX12_answers_161 : decode cX12_answers 161 = .ok (.ishl, 1) := by decide +kernel
theorem dX12_answers_162 : decode cX12_answers 162 = .ok (.ior, 1) := by decide +kernel
theorem dX12_answers_163 : decode cX12_answers 163 = .ok (.iastore, 1) := by decide +kernel
theorem dX12_answers_164 : decode cX12_answers 164 = .ok (.aload_n 0, 1) := by decide +kernel
theorem dX12_answers_165 : decode cX12_answers 165 = .ok (.getfield 109, 3) := by decide +kernel
theorem dX12_answers_168 : decode cX12_answers 168 = .ok (.iload_n 1, 1) := by decide +kernel
theorem dX12_answers_169 : decode cX12_answers 169 = .ok (.iload_n 2, 1) := by decide +kernel
theorem dX12_answers_170 : decode cX12_answers 170 = .ok (.iastore, 1) := by decide +kernel
theorem dX12_answers_171 : decode cX12_answers 171 = .ok (.aload_n 0, 1) := by decide +kernel
theorem dX12_answers_172 : decode cX12_answers 172 = .ok (.getfield 112, 3) := by decide +kernel
theorem dX12_answers_175 : decode cX12_answers 175 = .ok (.iload_n 1, 1) := by decide +kernel
theorem dX12_answers_176 : decode cX12_answers 176 = .ok (.iload_n 3, 1) := by decide +kernel
theorem dX12_answers_177 : decode cX12_answers 177 = .ok (.iconst 1, 1) := by decide +kernel
theorem dX12_answers_178 : decode cX12_answers 178 = .ok (.iadd, 1) := by decide +kernel
theorem dX12_answers_179 : decode cX12_answers 179 = .ok (.iastore, 1) := by decide +kernel
theorem dX12_answers_180 : decode cX12_answers 180 = .ok (.aload_n 0, 1) := by decide +kernel
theorem dX12_answers_181 : decode cX12_answers 181 = .ok (.invokevirtual 183, 3) := by decide +kernel
theorem dX12_answers_184 : decode cX12_answers 184 = .ok (.istore 8, 2) := by decide +kernel
theorem dX12_answers_186 : decode cX12_answers 186 = .ok (.iload 8, 2) := by decide +kernel
theorem dX12_answers_188 : decode cX12_answers 188 = .ok (.ifCond .ge 12, 3) := by decide +kernel
theorem dX12_answers_191 : decode cX12_answers 191 = .ok (.aload_n 0, 1) := by decide +kernel
theorem dX12_answers_192 : decode cX12_answers 192 = .ok (.iconst 0, 1) := by decide +kernel
theorem dX12_answers_193 : decode cX12_answers 193 = .ok (.iconst (-1), 1) := by decide +kernel
theorem dX12_answers_194 : decode cX12_answers 194 = .ok (.invokevirtual 177, 3) := by decide +kernel
theorem dX12_answers_197 : decode cX12_answers 197 = .ok (.goto 10, 3) := by decide +kernel
theorem dX12_answers_200 : decode cX12_answers 200 = .ok (.aload_n 0, 1) := by decide +kernel
theorem dX12_answers_201 : decode cX12_answers 201 = .ok (.iconst 4, 1) := by decide +kernel
theorem dX12_answers_202 : decode cX12_answers 202 = .ok (.iload 8, 2) := by decide +kernel
theorem dX12_answers_204 : decode cX12_answers 204 = .ok (.invokevirtual 177, 3) := by decide +kernel
theorem dX12_answers_207 : decode cX12_answers 207 = .ok (.ireturn, 1) := by decide +kernel
theorem dX12_isGranted_0 : decode cX12_isGranted 0 = .ok (.aload_n 0, 1) := by decide +kernel
theorem dX12_isGranted_1 : decode cX12_isGranted 1 = .ok (.iload_n 1, 1) := by decide +kernel
theorem dX12_isGranted_2 : decode cX12_isGranted 2 = .ok (.iload_n 2, 1) := by decide +kernel
theorem dX12_isGranted_3 : decode cX12_isGranted 3 = .ok (.iload_n 3, 1) := by decide +kernel
theorem dX12_isGranted_4 : decode cX12_isGranted 4 = .ok (.iload 4, 2) := by decide +kernel
theorem dX12_isGranted_6 : decode cX12_isGranted 6 = .ok (.invokevirtual 187, 3) := by decide +kernel
theorem dX12_isGranted_9 : decode cX12_isGranted 9 = .ok (.ifCond .ne 5, 3) := by decide +kernel
theorem dX12_isGranted_12 : decode cX12_isGranted 12 = .ok (.iconst 1, 1) := by decide +kernel
theorem dX12_isGranted_13 : decode cX12_isGranted 13 = .ok (.ireturn, 1) := by decide +kernel
theorem dX12_isGranted_14 : decode cX12_isGranted 14 = .ok (.aload_n 0, 1) := by decide +kernel
theorem dX12_isGranted_15 : decode cX12_isGranted 15 = .ok (.getfield 61, 3) := by decide +kernel
theorem dX12_isGranted_18 : decode cX12_isGranted 18 = .ok (.iload_n 1, 1) := by decide +kernel
theorem dX12_isGranted_19 : decode cX12_isGranted 19 = .ok (.aload_n 0, 1) := by decide +kernel
theorem dX12_isGranted_20 : decode cX12_isGranted 20 = .ok (.getfield 171, 3) := by decide +kernel
theorem dX12_isGranted_23 : decode cX12_isGranted 23 = .ok (.iastore, 1) := by decide +kernel
theorem dX12_isGranted_24 : decode cX12_isGranted 24 = .ok (.aload_n 0, 1) := by decide +kernel
theorem dX12_isGranted_25 : decode cX12_isGranted 25 = .ok (.getfield 64, 3) := by decide +kernel
theorem dX12_isGranted_28 : decode cX12_isGranted 28 = .ok (.iload_n 1, 1) := by decide +kernel
theorem dX12_isGranted_29 : decode cX12_isGranted 29 = .ok (.aload_n 0, 1) := by decide +kernel
theorem dX12_isGranted_30 : decode cX12_isGranted 30 = .ok (.getfield 174, 3) := by decide +kernel
theorem dX12_isGranted_33 : decode cX12_isGranted 33 = .ok (.iastore, 1) := by decide +kernel
theorem dX12_isGranted_34 : decode cX12_isGranted 34 = .ok (.aload_n 0, 1) := by decide +kernel
theorem dX12_isGranted_35 : decode cX12_isGranted 35 = .ok (.getfield 67, 3) := by decide +kernel
theorem dX12_isGranted_38 : decode cX12_isGranted 38 = .ok (.iload_n 1, 1) := by decide +kernel
theorem dX12_isGranted_39 : decode cX12_isGranted 39 = .ok (.dup2, 1) := by decide +kernel
theorem dX12_isGranted_40 : decode cX12_isGranted 40 = .ok (.iaload, 1) := by decide +kernel
theorem dX12_isGranted_41 : decode cX12_isGranted 41 = .ok (.iconst 1, 1) := by decide +kernel
theorem dX12_isGranted_42 : decode cX12_isGranted 42 = .ok (.iadd, 1) := by decide +kernel
theorem dX12_isGranted_43 : decode cX12_isGranted 43 = .ok (.iastore, 1) := by decide +kernel
theorem dX12_isGranted_44 : decode cX12_isGranted 44 = .ok (.aload_n 0, 1) := by decide +kernel
theorem dX12_isGranted_45 : decode cX12_isGranted 45 = .ok (.iconst 1, 1) := by decide +kernel
theorem dX12_isGranted_46 : decode cX12_isGranted 46 = .ok (.putfield 191, 3) := by decide +kernel
theorem dX12_isGranted_49 : decode cX12_isGranted 49 = .ok (.iconst 0, 1) := by decide +kernel
theorem dX12_isGranted_50 : decode cX12_isGranted 50 = .ok (.ireturn, 1) := by decide +kernel
theorem dX12_starts_0 : decode cX12_starts 0 = .ok (.aload_n 0, 1) := by decide +kernel
theorem dX12_starts_1 : decode cX12_starts 1 = .ok (.getfield 43, 3) := by decide +kernel
theorem dX12_starts_4 : decode cX12_starts 4 = .ok (.bipush 30, 2) := by decide +kernel
theorem dX12_starts_6 : decode cX12_starts 6 = .ok (.iload_n 1, 1) := by decide +kernel
theorem dX12_starts_7 : decode cX12_starts 7 = .ok (.imul, 1) := by decide +kernel
theorem dX12_starts_8 : decode cX12_starts 8 = .ok (.iaload, 1) := by decide +kernel
theorem dX12_starts_9 : decode cX12_starts 9 = .ok (.istore_n 2, 1) := by decide +kernel
theorem dX12_starts_10 : decode cX12_starts 10 = .ok (.aload_n 0, 1) := by decide +kernel
theorem dX12_starts_11 : decode cX12_starts 11 = .ok (.iload_n 1, 1) := by decide +kernel
theorem dX12_starts_12 : decode cX12_starts 12 = .ok (.iload_n 2, 1) := by decide +kernel
theorem dX12_starts_13 : decode cX12_starts 13 = .ok (.iconst 0, 1) := by decide +kernel
theorem dX12_starts_14 : decode cX12_starts 14 = .ok (.iconst 1, 1) := by decide +kernel
theorem dX12_starts_15 : decode cX12_starts 15 = .ok (.invokevirtual 195, 3) := by decide +kernel
theorem dX12_starts_18 : decode cX12_starts 18 = .ok (.ifCond .ne 4, 3) := by decide +kernel
theorem dX12_starts_21 : decode cX12_starts 21 = .ok (.return_, 1) := by decide +kernel
theorem dX12_starts_22 : decode cX12_starts 22 = .ok (.aload_n 0, 1) := by decide +kernel
theorem dX12_starts_23 : decode cX12_starts 23 = .ok (.getfield 40, 3) := by decide +kernel
theorem dX12_starts_26 : decode cX12_starts 26 = .ok (.iload_n 1, 1) := by decide +kernel
theorem dX12_starts_27 : decode cX12_starts 27 = .ok (.dup2, 1) := by decide +kernel
theorem dX12_starts_28 : decode cX12_starts 28 = .ok (.iaload, 1) := by decide +kernel
theorem dX12_starts_29 : decode cX12_starts 29 = .ok (.iconst 1, 1) := by decide +kernel
theorem dX12_starts_30 : decode cX12_starts 30 = .ok (.isub, 1) := by decide +kernel
theorem dX12_starts_31 : decode cX12_starts 31 = .ok (.iastore, 1) := by decide +kernel
theorem dX12_starts_32 : decode cX12_starts 32 = .ok (.iconst 0, 1) := by decide +kernel
theorem dX12_starts_33 : decode cX12_starts 33 = .ok (.istore_n 3, 1) := by decide +kernel
theorem dX12_starts_34 : decode cX12_starts 34 = .ok (.iload_n 3, 1) := by decide +kernel
theorem dX12_starts_35 : decode cX12_starts 35 = .ok (.aload_n 0, 1) := by decide +kernel
theorem dX12_starts_36 : decode cX12_starts 36 = .ok (.getfield 40, 3) := by decide +kernel
theorem dX12_starts_39 : decode cX12_starts 39 = .ok (.iload_n 1, 1) := by decide +kernel
theorem dX12_starts_40 : decode cX12_starts 40 = .ok (.iaload, 1) := by decide +kernel
theorem dX12_starts_41 : decode cX12_starts 41 = .ok (.if_icmp .ge 33, 3) := by decide +kernel
theorem dX12_starts_44 : decode cX12_starts 44 = .ok (.aload_n 0, 1) := by decide +kernel
theorem dX12_starts_45 : decode cX12_starts 45 = .ok (.getfield 43, 3) := by decide +kernel
theorem dX12_starts_48 : decode cX12_starts 48 = .ok (.bipush 30, 2) := by decide +kernel
theorem dX12_starts_50 : decode cX12_starts 50 = .ok (.iload_n 1, 1) := by decide +kernel
theorem dX12_starts_51 : decode cX12_starts 51 = .ok (.imul, 1) := by decide +kernel
theorem dX12_starts_52 : decode cX12_starts 52 = .ok (.iload_n 3, 1) := by decide +kernel
theorem dX12_starts_53 : decode cX12_starts 53 = .ok (.iadd, 1) := by decide +kernel
theorem dX12_starts_54 : decode cX12_starts 54 = .ok (.aload_n 0, 1) := by decide +kernel
theorem dX12_starts_55 : decode cX12_starts 55 = .ok (.getfield 43, 3) := by decide +kernel
theorem dX12_starts_58 : decode cX12_starts 58 = .ok (.bipush 30, 2) := by decide +kernel
theorem dX12_starts_60 : decode cX12_starts 60 = .ok (.iload_n 1, 1) := by decide +kernel
theorem dX12_starts_61 : decode cX12_starts 61 = .ok (.imul, 1) := by decide +kernel
theorem dX12_starts_62 : decode cX12_starts 62 = .ok (.iload_n 3, 1) := by decide +kernel
theorem dX12_starts_63 : decode cX12_starts 63 = .ok (.iadd, 1) := by decide +kernel
theorem dX12_starts_64 : decode cX12_starts 64 = .ok (.iconst 1, 1) := by decide +kernel
theorem dX12_starts_65 : decode cX12_starts 65 = .ok (.iadd, 1) := by decide +kernel
theorem dX12_starts_66 : decode cX12_starts 66 = .ok (.iaload, 1) := by decide +kernel
theorem dX12_starts_67 : decode cX12_starts 67 = .ok (.iastore, 1) := by decide +kernel
theorem dX12_starts_68 : decode cX12_starts 68 = .ok (.iinc 3 1, 3) := by decide +kernel
theorem dX12_starts_71 : decode cX12_starts 71 = .ok (.goto (-37), 3) := by decide +kernel
theorem dX12_starts_74 : decode cX12_starts 74 = .ok (.aload_n 0, 1) := by decide +kernel
theorem dX12_starts_75 : decode cX12_starts 75 = .ok (.getfield 46, 3) := by decide +kernel
theorem dX12_starts_78 : decode cX12_starts 78 = .ok (.iload_n 1, 1) := by decide +kernel
theorem dX12_starts_79 : decode cX12_starts 79 = .ok (.iload_n 2, 1) := by decide +kernel
theorem dX12_starts_80 : decode cX12_starts 80 = .ok (.iastore, 1) := by decide +kernel
theorem dX12_starts_81 : decode cX12_starts 81 = .ok (.aload_n 0, 1) := by decide +kernel
theorem dX12_starts_82 : decode cX12_starts 82 = .ok (.getfield 94, 3) := by decide +kernel
theorem dX12_starts_85 : decode cX12_starts 85 = .ok (.iload_n 2, 1) := by decide +kernel
theorem dX12_starts_86 : decode cX12_starts 86 = .ok (.iconst 1, 1) := by decide +kernel
theorem dX12_starts_87 : decode cX12_starts 87 = .ok (.iastore, 1) := by decide +kernel
theorem dX12_starts_88 : decode cX12_starts 88 = .ok (.aload_n 0, 1) := by decide +kernel
theorem dX12_starts_89 : decode cX12_starts 89 = .ok (.getfield 97, 3) := by decide +kernel
theorem dX12_starts_92 : decode cX12_starts 92 = .ok (.iload_n 2, 1) := by decide +kernel
theorem dX12_starts_93 : decode cX12_starts 93 = .ok (.aload_n 0, 1) := by decide +kernel
theorem dX12_starts_94 : decode cX12_starts 94 = .ok (.getfield 158, 3) := by decide +kernel
theorem dX12_starts_97 : decode cX12_starts 97 = .ok (.iastore, 1) := by decide +kernel
theorem dX12_starts_98 : decode cX12_starts 98 = .ok (.aload_n 0, 1) := by decide +kernel
theorem dX12_starts_99 : decode cX12_starts 99 = .ok (.getfield 88, 3) := by decide +kernel
theorem dX12_starts_102 : decode cX12_starts 102 = .ok (.iload_n 2, 1) := by decide +kernel
theorem dX12_starts_103 : decode cX12_starts 103 = .ok (.iaload, 1) := by decide +kernel
theorem dX12_starts_104 : decode cX12_starts 104 = .ok (.ifCond .lt 18, 3) := by decide +kernel
theorem dX12_starts_107 : decode cX12_starts 107 = .ok (.aload_n 0, 1) := by decide +kernel
theorem dX12_starts_108 : decode cX12_starts 108 = .ok (.getfield 28, 3) := by decide +kernel
theorem dX12_starts_111 : decode cX12_starts 111 = .ok (.aload_n 0, 1) := by decide +kernel
theorem dX12_starts_112 : decode cX12_starts 112 = .ok (.getfield 88, 3) := by decide +kernel
theorem dX12_starts_115 : decode cX12_starts 115 = .ok (.iload_n 2, 1) := by decide +kernel
theorem dX12_starts_116 : decode cX12_starts 116 = .ok (.iaload, 1) := by decide +kernel
theorem dX12_starts_117 : decode cX12_starts 117 = .ok (.dup2, 1) := by decide +kernel
theorem dX12_starts_118 : decode cX12_starts 118 = .ok (.iaload, 1) := by decide +kernel
theorem dX12_starts_119 : decode cX12_starts 119 = .ok (.iconst 1, 1) := by decide +kernel
theorem dX12_starts_120 : decode cX12_starts 120 = .ok (.iadd, 1) := by decide +kernel
theorem dX12_starts_121 : decode cX12_starts 121 = .ok (.iastore, 1) := by decide +kernel
theorem dX12_starts_122 : decode cX12_starts 122 = .ok (.aload_n 0, 1) := by decide +kernel
theorem dX12_starts_123 : decode cX12_starts 123 = .ok (.getfield 91, 3) := by decide +kernel
theorem dX12_starts_126 : decode cX12_starts 126 = .ok (.iload_n 2, 1) := by decide +kernel
theorem dX12_starts_127 : decode cX12_starts 127 = .ok (.iaload, 1) := by decide +kernel
theorem dX12_starts_128 : decode cX12_starts 128 = .ok (.ifCond .lt 18, 3) := by decide +kernel
theorem dX12_starts_131 : decode cX12_starts 131 = .ok (.aload_n 0, 1) := by decide +kernel
theorem dX12_starts_132 : decode cX12_starts 132 = .ok (.getfield 25, 3) := by decide +kernel
theorem dX12_starts_135 : decode cX12_starts 135 = .ok (.aload_n 0, 1) := by decide +kernel
theorem dX12_starts_136 : decode cX12_starts 136 = .ok (.getfield 91, 3) := by decide +kernel
theorem dX12_starts_139 : decode cX12_starts 139 = .ok (.iload_n 2, 1) := by decide +kernel
theorem dX12_starts_140 : decode cX12_starts 140 = .ok (.iaload, 1) := by decide +kernel
theorem dX12_starts_141 : decode cX12_starts 141 = .ok (.dup2, 1) := by decide +kernel
theorem dX12_starts_142 : decode cX12_starts 142 = .ok (.iaload, 1) := by decide +kernel
theorem dX12_starts_143 : decode cX12_starts 143 = .ok (.iconst 1, 1) := by decide +kernel
theorem dX12_starts_144 : decode cX12_starts 144 = .ok (.iadd, 1) := by decide +kernel
theorem dX12_starts_145 : decode cX12_starts 145 = .ok (.iastore, 1) := by decide +kernel
theorem dX12_starts_146 : decode cX12_starts 146 = .ok (.aload_n 0, 1) := by decide +kernel
theorem dX12_starts_147 : decode cX12_starts 147 = .ok (.iload_n 1, 1) := by decide +kernel
theorem dX12_starts_148 : decode cX12_starts 148 = .ok (.iconst 0, 1) := by decide +kernel
theorem dX12_starts_149 : decode cX12_starts 149 = .ok (.invokevirtual 199, 3) := by decide +kernel
theorem dX12_starts_152 : decode cX12_starts 152 = .ok (.aload_n 0, 1) := by decide +kernel
theorem dX12_starts_153 : decode cX12_starts 153 = .ok (.iload_n 1, 1) := by decide +kernel
theorem dX12_starts_154 : decode cX12_starts 154 = .ok (.iconst 0, 1) := by decide +kernel
theorem dX12_starts_155 : decode cX12_starts 155 = .ok (.aload_n 0, 1) := by decide +kernel
theorem dX12_starts_156 : decode cX12_starts 156 = .ok (.iload_n 2, 1) := by decide +kernel
theorem dX12_starts_157 : decode cX12_starts 157 = .ok (.iconst 0, 1) := by decide +kernel
theorem dX12_starts_158 : decode cX12_starts 158 = .ok (.invokevirtual 147, 3) := by decide +kernel
theorem dX12_starts_161 : decode cX12_starts 161 = .ok (.invokevirtual 203, 3) := by decide +kernel
theorem dX12_starts_164 : decode cX12_starts 164 = .ok (.return_, 1) := by decide +kernel
theorem dX12_works_0 : decode cX12_works 0 = .ok (.aload_n 0, 1) := by decide +kernel
theorem dX12_works_1 : decode cX12_works 1 = .ok (.getfield 49, 3) := by decide +kernel
theorem dX12_works_4 : decode cX12_works 4 = .ok (.iload_n 1, 1) := by decide +kernel
theorem dX12_works_5 : decode cX12_works 5 = .ok (.iconst 1, 1) := by decide +kernel
theorem dX12_works_6 : decode cX12_works 6 = .ok (.iastore, 1) := by decide +kernel
theorem dX12_works_7 : decode cX12_works 7 = .ok (.aload_n 0, 1) := by decide +kernel
theorem dX12_works_8 : decode cX12_works 8 = .ok (.getfield 52, 3) := by decide +kernel
theorem dX12_works_11 : decode cX12_works 11 = .ok (.iload_n 1, 1) := by decide +kernel
theorem dX12_works_12 : decode cX12_works 12 = .ok (.iload_n 2, 1) := by decide +kernel
theorem dX12_works_13 : decode cX12_works 13 = .ok (.iastore, 1) := by decide +kernel
theorem dX12_works_14 : decode cX12_works 14 = .ok (.aload_n 0, 1) := by decide +kernel
theorem dX12_works_15 : decode cX12_works 15 = .ok (.getfield 55, 3) := by decide +kernel
theorem dX12_works_18 : decode cX12_works 18 = .ok (.iload_n 1, 1) := by decide +kernel
theorem dX12_works_19 : decode cX12_works 19 = .ok (.aload_n 0, 1) := by decide +kernel
theorem dX12_works_20 : decode cX12_works 20 = .ok (.getfield 82, 3) := by decide +kernel
theorem dX12_works_23 : decode cX12_works 23 = .ok (.aload_n 0, 1) := by decide +kernel
theorem dX12_works_24 : decode cX12_works 24 = .ok (.getfield 46, 3) := by decide +kernel
theorem dX12_works_27 : decode cX12_works 27 = .ok (.iload_n 1, 1) := by decide +kernel
theorem dX12_works_28 : decode cX12_works 28 = .ok (.iaload, 1) := by decide +kernel
theorem dX12_works_29 : decode cX12_works 29 = .ok (.iaload, 1) := by decide +kernel
theorem dX12_works_30 : decode cX12_works 30 = .ok (.iastore, 1) := by decide +kernel
theorem dX12_works_31 : decode cX12_works 31 = .ok (.return_, 1) := by decide +kernel
theorem dX12_isBeside_0 : decode cX12_isBeside 0 = .ok (.iconst 0, 1) := by decide +kernel
theorem dX12_isBeside_1 : decode cX12_isBeside 1 = .ok (.istore_n 3, 1) := by decide +kernel
theorem dX12_isBeside_2 : decode cX12_isBeside 2 = .ok (.iconst 0, 1) := by decide +kernel
theorem dX12_isBeside_3 : decode cX12_isBeside 3 = .ok (.istore 4, 2) := by decide +kernel
theorem dX12_isBeside_5 : decode cX12_isBeside 5 = .ok (.iload 4, 2) := by decide +kernel
theorem dX12_isBeside_7 : decode cX12_isBeside 7 = .ok (.iconst 3, 1) := by decide +kernel
theorem dX12_isBeside_8 : decode cX12_isBeside 8 = .ok (.if_icmp .ge 28, 3) := by decide +kernel
theorem dX12_isBeside_11 : decode cX12_isBeside 11 = .ok (.iload_n 3, 1) := by decide +kernel
theorem dX12_isBeside_12 : decode cX12_isBeside 12 = .ok (.iload 4, 2) := by decide +kernel
theorem dX12_isBeside_14 : decode cX12_isBeside 14 = .ok (.iload_n 1, 1) := by decide +kernel
theorem dX12_isBeside_15 : decode cX12_isBeside 15 = .ok (.if_icmp .eq 12, 3) := by decide +kernel
theorem dX12_isBeside_18 : decode cX12_isBeside 18 = .ok (.aload_n 0, 1) := by decide +kernel
theorem dX12_isBeside_19 : decode cX12_isBeside 19 = .ok (.iload 4, 2) := by decide +kernel
theorem dX12_isBeside_21 : decode cX12_isBeside 21 = .ok (.invokevirtual 161, 3) := by decide +kernel
theorem dX12_isBeside_24 : decode cX12_isBeside 24 = .ok (.goto 4, 3) := by decide +kernel
theorem dX12_isBeside_27 : decode cX12_isBeside 27 = .ok (.iconst 0, 1) := by decide +kernel
theorem dX12_isBeside_28 : decode cX12_isBeside 28 = .ok (.ior, 1) := by decide +kernel
theorem dX12_isBeside_29 : decode cX12_isBeside 29 = .ok (.istore_n 3, 1) := by decide +kernel
theorem dX12_isBeside_30 : decode cX12_isBeside 30 = .ok (.iinc 4 1, 3) := by decide +kernel
theorem dX12_isBeside_33 : decode cX12_isBeside 33 = .ok (.goto (-28), 3) := by decide +kernel
theorem dX12_isBeside_36 : decode cX12_isBeside 36 = .ok (.iload_n 3, 1) := by decide +kernel
theorem dX12_isBeside_37 : decode cX12_isBeside 37 = .ok (.iconst 1, 1) := by decide +kernel
theorem dX12_isBeside_38 : decode cX12_isBeside 38 = .ok (.iload_n 2, 1) := by decide +kernel
theorem dX12_isBeside_39 : decode cX12_isBeside 39 = .ok (.iconst 1, 1) := by decide +kernel
theorem dX12_isBeside_40 : decode cX12_isBeside 40 = .ok (.iadd, 1) := by decide +kernel
theorem dX12_isBeside_41 : decode cX12_isBeside 41 = .ok (.ishl, 1) := by decide +kernel
theorem dX12_isBeside_42 : decode cX12_isBeside 42 = .ok (.iconst 1, 1) := by decide +kernel
theorem dX12_isBeside_43 : decode cX12_isBeside 43 = .ok (.iload_n 2, 1) := by decide +kernel
theorem dX12_isBeside_44 : decode cX12_isBeside 44 = .ok (.ishl, 1) := by decide +kernel
theorem dX12_isBeside_45 : decode cX12_isBeside 45 = .ok (.iconst 1, 1) := by decide +kernel
theorem dX12_isBeside_46 : decode cX12_isBeside 46 = .ok (.ishr, 1) := by decide +kernel
theorem dX12_isBeside_47 : decode cX12_isBeside 47 = .ok (.ior, 1) := by decide +kernel
theorem dX12_isBeside_48 : decode cX12_isBeside 48 = .ok (.iand, 1) := by decide +kernel
theorem dX12_isBeside_49 : decode cX12_isBeside 49 = .ok (.ifCond .eq 7, 3) := by decide +kernel
theorem dX12_isBeside_52 : decode cX12_isBeside 52 = .ok (.iconst 1, 1) := by decide +kernel
theorem dX12_isBeside_53 : decode cX12_isBeside 53 = .ok (.goto 4, 3) := by decide +kernel
theorem dX12_isBeside_56 : decode cX12_isBeside 56 = .ok (.iconst 0, 1) := by decide +kernel
theorem dX12_isBeside_57 : decode cX12_isBeside 57 = .ok (.ireturn, 1) := by decide +kernel
theorem dX12_requestsNext_0 : decode cX12_requestsNext 0 = .ok (.aload_n 0, 1) := by decide +kernel
theorem dX12_requestsNext_1 : decode cX12_requestsNext 1 = .ok (.getfield 46, 3) := by decide +kernel
theorem dX12_requestsNext_4 : decode cX12_requestsNext 4 = .ok (.iload_n 1, 1) := by decide +kernel
theorem dX12_requestsNext_5 : decode cX12_requestsNext 5 = .ok (.iaload, 1) := by decide +kernel
theorem dX12_requestsNext_6 : decode cX12_requestsNext 6 = .ok (.istore_n 2, 1) := by decide +kernel
theorem dX12_requestsNext_7 : decode cX12_requestsNext 7 = .ok (.aload_n 0, 1) := by decide +kernel
theorem dX12_requestsNext_8 : decode cX12_requestsNext 8 = .ok (.iload_n 1, 1) := by decide +kernel
theorem dX12_requestsNext_9 : decode cX12_requestsNext 9 = .ok (.iload_n 2, 1) := by decide +kernel
theorem dX12_requestsNext_10 : decode cX12_requestsNext 10 = .ok (.aload_n 0, 1) := by decide +kernel
theorem dX12_requestsNext_11 : decode cX12_requestsNext 11 = .ok (.getfield 52, 3) := by decide +kernel
theorem dX12_requestsNext_14 : decode cX12_requestsNext 14 = .ok (.iload_n 1, 1) := by decide +kernel
theorem dX12_requestsNext_15 : decode cX12_requestsNext 15 = .ok (.iaload, 1) := by decide +kernel
theorem dX12_requestsNext_16 : decode cX12_requestsNext 16 = .ok (.iconst 1, 1) := by decide +kernel
theorem dX12_requestsNext_17 : decode cX12_requestsNext 17 = .ok (.iadd, 1) := by decide +kernel
theorem dX12_requestsNext_18 : decode cX12_requestsNext 18 = .ok (.iconst 0, 1) := by decide +kernel
theorem dX12_requestsNext_19 : decode cX12_requestsNext 19 = .ok (.invokevirtual 195, 3) := by decide +kernel
theorem dX12_requestsNext_22 : decode cX12_requestsNext 22 = .ok (.ifCond .ne 18, 3) := by decide +kernel
theorem dX12_requestsNext_25 : decode cX12_requestsNext 25 = .ok (.aload_n 0, 1) := by decide +kernel
theorem dX12_requestsNext_26 : decode cX12_requestsNext 26 = .ok (.getfield 49, 3) := by decide +kernel
theorem dX12_requestsNext_29 : decode cX12_requestsNext 29 = .ok (.iload_n 1, 1) := by decide +kernel
theorem dX12_requestsNext_30 : decode cX12_requestsNext 30 = .ok (.iconst 3, 1) := by decide +kernel
theorem dX12_requestsNext_31 : decode cX12_requestsNext 31 = .ok (.iastore, 1) := by decide +kernel
theorem dX12_requestsNext_32 : decode cX12_requestsNext 32 = .ok (.aload_n 0, 1) := by decide +kernel
theorem dX12_requestsNext_33 : decode cX12_requestsNext 33 = .ok (.getfield 55, 3) := by decide +kernel
theorem dX12_requestsNext_36 : decode cX12_requestsNext 36 = .ok (.iload_n 1, 1) := by decide +kernel
theorem dX12_requestsNext_37 : decode cX12_requestsNext 37 = .ok (.iconst 0, 1) := by decide +kernel
theorem dX12_requestsNext_38 : decode cX12_requestsNext 38 = .ok (.iastore, 1) := by decide +kernel
theorem dX12_requestsNext_39 : decode cX12_requestsNext 39 = .ok (.return_, 1) := by decide +kernel
theorem dX12_requestsNext_40 : decode cX12_requestsNext 40 = .ok (.aload_n 0, 1) := by decide +kernel
theorem dX12_requestsNext_41 : decode cX12_requestsNext 41 = .ok (.iload_n 2, 1) := by decide +kernel
theorem dX12_requestsNext_42 : decode cX12_requestsNext 42 = .ok (.aload_n 0, 1) := by decide +kernel
theorem dX12_requestsNext_43 : decode cX12_requestsNext 43 = .ok (.getfield 52, 3) := by decide +kernel
theorem dX12_requestsNext_46 : decode cX12_requestsNext 46 = .ok (.iload_n 1, 1) := by decide +kernel
theorem dX12_requestsNext_47 : decode cX12_requestsNext 47 = .ok (.iaload, 1) := by decide +kernel
theorem dX12_requestsNext_48 : decode cX12_requestsNext 48 = .ok (.iconst 1, 1) := by decide +kernel
theorem dX12_requestsNext_49 : decode cX12_requestsNext 49 = .ok (.iadd, 1) := by decide +kernel
theorem dX12_requestsNext_50 : decode cX12_requestsNext 50 = .ok (.invokevirtual 147, 3) := by decide +kernel
theorem dX12_requestsNext_53 : decode cX12_requestsNext 53 = .ok (.istore_n 3, 1) := by decide +kernel
theorem dX12_requestsNext_54 : decode cX12_requestsNext 54 = .ok (.aload_n 0, 1) := by decide +kernel
theorem dX12_requestsNext_55 : decode cX12_requestsNext 55 = .ok (.getfield 49, 3) := by decide +kernel
theorem dX12_requestsNext_58 : decode cX12_requestsNext 58 = .ok (.iload_n 1, 1) := by decide +kernel
theorem dX12_requestsNext_59 : decode cX12_requestsNext 59 = .ok (.iconst 2, 1) := by decide +kernel
theorem dX12_requestsNext_60 : decode cX12_requestsNext 60 = .ok (.iastore, 1) := by decide +kernel
theorem dX12_requestsNext_61 : decode cX12_requestsNext 61 = .ok (.aload_n 0, 1) := by decide +kernel
theorem dX12_requestsNext_62 : decode cX12_requestsNext 62 = .ok (.getfield 55, 3) := by decide +kernel
theorem dX12_requestsNext_65 : decode cX12_requestsNext 65 = .ok (.iload_n 1, 1) := by decide +kernel
theorem dX12_requestsNext_66 : decode cX12_requestsNext 66 = .ok (.iconst 1, 1) := by decide +kernel
theorem dX12_requestsNext_67 : decode cX12_requestsNext 67 = .ok (.aload_n 0, 1) := by decide +kernel
theorem dX12_requestsNext_68 : decode cX12_requestsNext 68 = .ok (.getfield 85, 3) := by decide +kernel
theorem dX12_requestsNext_71 : decode cX12_requestsNext 71 = .ok (.iload_n 2, 1) := by decide +kernel
theorem dX12_requestsNext_72 : decode cX12_requestsNext 72 = .ok (.iaload, 1) := by decide +kernel
theorem dX12_requestsNext_73 : decode cX12_requestsNext 73 = .ok (.iconst 4, 1) := by decide +kernel
theorem dX12_requestsNext_74 : decode cX12_requestsNext 74 = .ok (.idiv, 1) := by decide +kernel
theorem dX12_requestsNext_75 : decode cX12_requestsNext 75 = .ok (.iadd, 1) := by decide +kernel
theorem dX12_requestsNext_76 : decode cX12_requestsNext 76 = .ok (.aload_n 0, 1) := by decide +kernel
theorem dX12_requestsNext_77 : decode cX12_requestsNext 77 = .ok (.iload_n 1, 1) := by decide +kernel
theorem dX12_requestsNext_78 : decode cX12_requestsNext 78 = .ok (.iload_n 3, 1) := by decide +kernel
theorem dX12_requestsNext_79 : decode cX12_requestsNext 79 = .ok (.invokevirtual 207, 3) := by decide +kernel
theorem dX12_requestsNext_82 : decode cX12_requestsNext 82 = .ok (.ifCond .eq 7, 3) := by decide +kernel
theorem dX12_requestsNext_85 : decode cX12_requestsNext 85 = .ok (.iconst 1, 1) := by decide +kernel
theorem dX12_requestsNext_86 : decode cX12_requestsNext 86 = .ok (.goto 4, 3) := by decide +kernel
theorem dX12_requestsNext_89 : decode cX12_requestsNext 89 = .ok (.iconst 0, 1) := by decide +kernel
theorem dX12_requestsNext_90 : decode cX12_requestsNext 90 = .ok (.iadd, 1) := by decide +kernel
theorem dX12_requestsNext_91 : decode cX12_requestsNext 91 = .ok (.iastore, 1) := by decide +kernel
theorem dX12_requestsNext_92 : decode cX12_requestsNext 92 = .ok (.aload_n 0, 1) := by decide +kernel
theorem dX12_requestsNext_93 : decode cX12_requestsNext 93 = .ok (.iload_n 1, 1) := by decide +kernel
theorem dX12_requestsNext_94 : decode cX12_requestsNext 94 = .ok (.iconst 1, 1) := by decide +kernel
theorem dX12_requestsNext_95 : decode cX12_requestsNext 95 = .ok (.iload_n 3, 1) := by decide +kernel
theorem dX12_requestsNext_96 : decode cX12_requestsNext 96 = .ok (.invokevirtual 203, 3) := by decide +kernel
theorem dX12_requestsNext_99 : decode cX12_requestsNext 99 = .ok (.return_, 1) := by decide +kernel
theorem dX12_firstPartOf_0 : decode cX12_firstPartOf 0 = .ok (.aload_n 0, 1) := by decide +kernel
theorem dX12_firstPartOf_1 : decode cX12_firstPartOf 1 = .ok (.getfield 22, 3) := by decide +kernel
theorem dX12_firstPartOf_4 : decode cX12_firstPartOf 4 = .ok (.iconst 4, 1) := by decide +kernel
theorem dX12_firstPartOf_5 : decode cX12_firstPartOf 5 = .ok (.iload_n 1, 1) := by decide +kernel
theorem dX12_firstPartOf_6 : decode cX12_firstPartOf 6 = .ok (.imul, 1) := by decide +kernel
theorem dX12_firstPartOf_7 : decode cX12_firstPartOf 7 = .ok (.iaload, 1) := by decide +kernel
theorem dX12_firstPartOf_8 : decode cX12_firstPartOf 8 = .ok (.istore_n 2, 1) := by decide +kernel
theorem dX12_firstPartOf_9 : decode cX12_firstPartOf 9 = .ok (.aload_n 0, 1) := by decide +kernel
theorem dX12_firstPartOf_10 : decode cX12_firstPartOf 10 = .ok (.getfield 19, 3) := by decide +kernel
theorem dX12_firstPartOf_13 : decode cX12_firstPartOf 13 = .ok (.iload_n 1, 1) := by decide +kernel
theorem dX12_firstPartOf_14 : decode cX12_firstPartOf 14 = .ok (.dup2, 1) := by decide +kernel
theorem dX12_firstPartOf_15 : decode cX12_firstPartOf 15 = .ok (.iaload, 1) := by decide +kernel
theorem dX12_firstPartOf_16 : decode cX12_firstPartOf 16 = .ok (.iconst 1, 1) := by decide +kernel
theorem dX12_firstPartOf_17 : decode cX12_firstPartOf 17 = .ok (.isub, 1) := by decide +kernel
theorem dX12_firstPartOf_18 : decode cX12_firstPartOf 18 = .ok (.iastore, 1) := by decide +kernel
theorem dX12_firstPartOf_19 : decode cX12_firstPartOf 19 = .ok (.iconst 0, 1) := by decide +kernel
theorem dX12_firstPartOf_20 : decode cX12_firstPartOf 20 = .ok (.istore_n 3, 1) := by decide +kernel
theorem dX12_firstPartOf_21 : decode cX12_firstPartOf 21 = .ok (.iload_n 3, 1) := by decide +kernel
theorem dX12_firstPartOf_22 : decode cX12_firstPartOf 22 = .ok (.aload_n 0, 1) := by decide +kernel
theorem dX12_firstPartOf_23 : decode cX12_firstPartOf 23 = .ok (.getfield 19, 3) := by decide +kernel
theorem dX12_firstPartOf_26 : decode cX12_firstPartOf 26 = .ok (.iload_n 1, 1) := by decide +kernel
theorem dX12_firstPartOf_27 : decode cX12_firstPartOf 27 = .ok (.iaload, 1) := by decide +kernel
theorem dX12_firstPartOf_28 : decode cX12_firstPartOf 28 = .ok (.if_icmp .ge 31, 3) := by decide +kernel
theorem dX12_firstPartOf_31 : decode cX12_firstPartOf 31 = .ok (.aload_n 0, 1) := by decide +kernel
theorem dX12_firstPartOf_32 : decode cX12_firstPartOf 32 = .ok (.getfield 22, 3) := by decide +kernel
theorem dX12_firstPartOf_35 : decode cX12_firstPartOf 35 = .ok (.iconst 4, 1) := by decide +kernel
theorem dX12_firstPartOf_36 : decode cX12_firstPartOf 36 = .ok (.iload_n 1, 1) := by decide +kernel
theorem dX12_firstPartOf_37 : decode cX12_firstPartOf 37 = .ok (.imul, 1) := by decide +kernel
theorem dX12_firstPartOf_38 : decode cX12_firstPartOf 38 = .ok (.iload_n 3, 1) := by decide +kernel
theorem dX12_firstPartOf_39 : decode cX12_firstPartOf 39 = .ok (.iadd, 1) := by decide +kernel
theorem dX12_firstPartOf_40 : decode cX12_firstPartOf 40 = .ok (.aload_n 0, 1) := by decide +kernel
theorem dX12_firstPartOf_41 : decode cX12_firstPartOf 41 = .ok (.getfield 22, 3) := by decide +kernel
theorem dX12_firstPartOf_44 : decode cX12_firstPartOf 44 = .ok (.iconst 4, 1) := by decide +kernel
theorem dX12_firstPartOf_45 : decode cX12_firstPartOf 45 = .ok (.iload_n 1, 1) := by decide +kernel
theorem dX12_firstPartOf_46 : decode cX12_firstPartOf 46 = .ok (.imul, 1) := by decide +kernel
theorem dX12_firstPartOf_47 : decode cX12_firstPartOf 47 = .ok (.iload_n 3, 1) := by decide +kernel
theorem dX12_firstPartOf_48 : decode cX12_firstPartOf 48 = .ok (.iadd, 1) := by decide +kernel
theorem dX12_firstPartOf_49 : decode cX12_firstPartOf 49 = .ok (.iconst 1, 1) := by decide +kernel
theorem dX12_firstPartOf_50 : decode cX12_firstPartOf 50 = .ok (.iadd, 1) := by decide +kernel
theorem dX12_firstPartOf_51 : decode cX12_firstPartOf 51 = .ok (.iaload, 1) := by decide +kernel
theorem dX12_firstPartOf_52 : decode cX12_firstPartOf 52 = .ok (.iastore, 1) := by decide +kernel
theorem dX12_firstPartOf_53 : decode cX12_firstPartOf 53 = .ok (.iinc 3 1, 3) := by decide +kernel
theorem dX12_firstPartOf_56 : decode cX12_firstPartOf 56 = .ok (.goto (-35), 3) := by decide +kernel
theorem dX12_firstPartOf_59 : decode cX12_firstPartOf 59 = .ok (.aload_n 0, 1) := by decide +kernel
theorem dX12_firstPartOf_60 : decode cX12_firstPartOf 60 = .ok (.getfield 28, 3) := by decide +kernel
theorem dX12_firstPartOf_63 : decode cX12_firstPartOf 63 = .ok (.iload_n 1, 1) := by decide +kernel
theorem dX12_firstPartOf_64 : decode cX12_firstPartOf 64 = .ok (.dup2, 1) := by decide +kernel
theorem dX12_firstPartOf_65 : decode cX12_firstPartOf 65 = .ok (.iaload, 1) := by decide +kernel
theorem dX12_firstPartOf_66 : decode cX12_firstPartOf 66 = .ok (.iconst 1, 1) := by decide +kernel
theorem dX12_firstPartOf_67 : decode cX12_firstPartOf 67 = .ok (.isub, 1) := by decide +kernel
theorem dX12_firstPartOf_68 : decode cX12_firstPartOf 68 = .ok (.iastore, 1) := by decide +kernel
theorem dX12_firstPartOf_69 : decode cX12_firstPartOf 69 = .ok (.aload_n 0, 1) := by decide +kernel
theorem dX12_firstPartOf_70 : decode cX12_firstPartOf 70 = .ok (.getfield 34, 3) := by decide +kernel
theorem dX12_firstPartOf_73 : decode cX12_firstPartOf 73 = .ok (.iload_n 1, 1) := by decide +kernel
theorem dX12_firstPartOf_74 : decode cX12_firstPartOf 74 = .ok (.dup2, 1) := by decide +kernel
theorem dX12_firstPartOf_75 : decode cX12_firstPartOf 75 = .ok (.iaload, 1) := by decide +kernel
theorem dX12_firstPartOf_76 : decode cX12_firstPartOf 76 = .ok (.iconst 1, 1) := by decide +kernel
theorem dX12_firstPartOf_77 : decode cX12_firstPartOf 77 = .ok (.iadd, 1) := by decide +kernel
theorem dX12_firstPartOf_78 : decode cX12_firstPartOf 78 = .ok (.iastore, 1) := by decide +kernel
theorem dX12_firstPartOf_79 : decode cX12_firstPartOf 79 = .ok (.iload_n 2, 1) := by decide +kernel
theorem dX12_firstPartOf_80 : decode cX12_firstPartOf 80 = .ok (.ireturn, 1) := by decide +kernel
theorem dX12_comesPart_0 : decode cX12_comesPart 0 = .ok (.aload_n 0, 1) := by decide +kernel
theorem dX12_comesPart_1 : decode cX12_comesPart 1 = .ok (.getfield 22, 3) := by decide +kernel
theorem dX12_comesPart_4 : decode cX12_comesPart 4 = .ok (.iconst 4, 1) := by decide +kernel
theorem dX12_comesPart_5 : decode cX12_comesPart 5 = .ok (.iload_n 1, 1) := by decide +kernel
theorem dX12_comesPart_6 : decode cX12_comesPart 6 = .ok (.imul, 1) := by decide +kernel
theorem dX12_comesPart_7 : decode cX12_comesPart 7 = .ok (.aload_n 0, 1) := by decide +kernel
theorem dX12_comesPart_8 : decode cX12_comesPart 8 = .ok (.getfield 19, 3) := by decide +kernel
theorem dX12_comesPart_11 : decode cX12_comesPart 11 = .ok (.iload_n 1, 1) := by decide +kernel
theorem dX12_comesPart_12 : decode cX12_comesPart 12 = .ok (.iaload, 1) := by decide +kernel
theorem dX12_comesPart_13 : decode cX12_comesPart 13 = .ok (.iadd, 1) := by decide +kernel
theorem dX12_comesPart_14 : decode cX12_comesPart 14 = .ok (.iload_n 2, 1) := by decide +kernel
theorem dX12_comesPart_15 : decode cX12_comesPart 15 = .ok (.iastore, 1) := by decide +kernel
theorem dX12_comesPart_16 : decode cX12_comesPart 16 = .ok (.aload_n 0, 1) := by decide +kernel
theorem dX12_comesPart_17 : decode cX12_comesPart 17 = .ok (.getfield 19, 3) := by decide +kernel
theorem dX12_comesPart_20 : decode cX12_comesPart 20 = .ok (.iload_n 1, 1) := by decide +kernel
theorem dX12_comesPart_21 : decode cX12_comesPart 21 = .ok (.dup2, 1) := by decide +kernel
theorem dX12_comesPart_22 : decode cX12_comesPart 22 = .ok (.iaload, 1) := by decide +kernel
theorem dX12_comesPart_23 : decode cX12_comesPart 23 = .ok (.iconst 1, 1) := by decide +kernel
theorem dX12_comesPart_24 : decode cX12_comesPart 24 = .ok (.iadd, 1) := by decide +kernel
theorem dX12_comesPart_25 : decode cX12_comesPart 25 = .ok (.iastore, 1) := by decide +kernel
theorem dX12_comesPart_26 : decode cX12_comesPart 26 = .ok (.aload_n 0, 1) := by decide +kernel
theorem dX12_comesPart_27 : decode cX12_comesPart 27 = .ok (.getfield 31, 3) := by decide +kernel
theorem dX12_comesPart_30 : decode cX12_comesPart 30 = .ok (.iload_n 1, 1) := by decide +kernel
theorem dX12_comesPart_31 : decode cX12_comesPart 31 = .ok (.dup2, 1) := by decide +kernel
theorem dX12_comesPart_32 : decode cX12_comesPart 32 = .ok (.iaload, 1) := by decide +kernel
theorem dX12_comesPart_33 : decode cX12_comesPart 33 = .ok (.iconst 1, 1) := by decide +kernel
theorem dX12_comesPart_34 : decode cX12_comesPart 34 = .ok (.iadd, 1) := by decide +kernel
theorem dX12_comesPart_35 : decode cX12_comesPart 35 = .ok (.iastore, 1) := by decide +kernel
theorem dX12_comesPart_36 : decode cX12_comesPart 36 = .ok (.return_, 1) := by decide +kernel
theorem dX12_ends_0 : decode cX12_ends 0 = .ok (.aload_n 0, 1) := by decide +kernel
theorem dX12_ends_1 : decode cX12_ends 1 = .ok (.getfield 46, 3) := by decide +kernel
theorem dX12_ends_4 : decode cX12_ends 4 = .ok (.iload_n 1, 1) := by decide +kernel
theorem dX12_ends_5 : decode cX12_ends 5 = .ok (.iaload, 1) := by decide +kernel
theorem dX12_ends_6 : decode cX12_ends 6 = .ok (.istore_n 2, 1) := by decide +kernel
theorem dX12_ends_7 : decode cX12_ends 7 = .ok (.aload_n 0, 1) := by decide +kernel
theorem dX12_ends_8 : decode cX12_ends 8 = .ok (.iload_n 1, 1) := by decide +kernel
theorem dX12_ends_9 : decode cX12_ends 9 = .ok (.iconst 3, 1) := by decide +kernel
theorem dX12_ends_10 : decode cX12_ends 10 = .ok (.aload_n 0, 1) := by decide +kernel
theorem dX12_ends_11 : decode cX12_ends 11 = .ok (.iload_n 1, 1) := by decide +kernel
theorem dX12_ends_12 : decode cX12_ends 12 = .ok (.invokevirtual 151, 3) := by decide +kernel
theorem dX12_ends_15 : decode cX12_ends 15 = .ok (.invokevirtual 203, 3) := by decide +kernel
theorem dX12_ends_18 : decode cX12_ends 18 = .ok (.aload_n 0, 1) := by decide +kernel
theorem dX12_ends_19 : decode cX12_ends 19 = .ok (.getfield 49, 3) := by decide +kernel
theorem dX12_ends_22 : decode cX12_ends 22 = .ok (.iload_n 1, 1) := by decide +kernel
theorem dX12_ends_23 : decode cX12_ends 23 = .ok (.iconst 0, 1) := by decide +kernel
theorem dX12_ends_24 : decode cX12_ends 24 = .ok (.iastore, 1) := by decide +kernel
theorem dX12_ends_25 : decode cX12_ends 25 = .ok (.aload_n 0, 1) := by decide +kernel
theorem dX12_ends_26 : decode cX12_ends 26 = .ok (.getfield 46, 3) := by decide +kernel
theorem dX12_ends_29 : decode cX12_ends 29 = .ok (.iload_n 1, 1) := by decide +kernel
theorem dX12_ends_30 : decode cX12_ends 30 = .ok (.iconst (-1), 1) := by decide +kernel
theorem dX12_ends_31 : decode cX12_ends 31 = .ok (.iastore, 1) := by decide +kernel
theorem dX12_ends_32 : decode cX12_ends 32 = .ok (.aload_n 0, 1) := by decide +kernel
theorem dX12_ends_33 : decode cX12_ends 33 = .ok (.getfield 52, 3) := by decide +kernel
theorem dX12_ends_36 : decode cX12_ends 36 = .ok (.iload_n 1, 1) := by decide +kernel
theorem dX12_ends_37 : decode cX12_ends 37 = .ok (.iconst 0, 1) := by decide +kernel
theorem dX12_ends_38 : decode cX12_ends 38 = .ok (.iastore, 1) := by decide +kernel
theorem dX12_ends_39 : decode cX12_ends 39 = .ok (.aload_n 0, 1) := by decide +kernel
theorem dX12_ends_40 : decode cX12_ends 40 = .ok (.getfield 55, 3) := by decide +kernel
theorem dX12_ends_43 : decode cX12_ends 43 = .ok (.iload_n 1, 1) := by decide +kernel
theorem dX12_ends_44 : decode cX12_ends 44 = .ok (.iconst 0, 1) := by decide +kernel
theorem dX12_ends_45 : decode cX12_ends 45 = .ok (.iastore, 1) := by decide +kernel
theorem dX12_ends_46 : decode cX12_ends 46 = .ok (.aload_n 0, 1) := by decide +kernel
theorem dX12_ends_47 : decode cX12_ends 47 = .ok (.getfield 94, 3) := by decide +kernel
theorem dX12_ends_50 : decode cX12_ends 50 = .ok (.iload_n 2, 1) := by decide +kernel
theorem dX12_ends_51 : decode cX12_ends 51 = .ok (.iconst 2, 1) := by decide +kernel
theorem dX12_ends_52 : decode cX12_ends 52 = .ok (.iastore, 1) := by decide +kernel
theorem dX12_ends_53 : decode cX12_ends 53 = .ok (.aload_n 0, 1) := by decide +kernel
theorem dX12_ends_54 : decode cX12_ends 54 = .ok (.getfield 100, 3) := by decide +kernel
theorem dX12_ends_57 : decode cX12_ends 57 = .ok (.iload_n 2, 1) := by decide +kernel
theorem dX12_ends_58 : decode cX12_ends 58 = .ok (.aload_n 0, 1) := by decide +kernel
theorem dX12_ends_59 : decode cX12_ends 59 = .ok (.getfield 158, 3) := by decide +kernel
theorem dX12_ends_62 : decode cX12_ends 62 = .ok (.iastore, 1) := by decide +kernel
theorem dX12_ends_63 : decode cX12_ends 63 = .ok (.aload_n 0, 1) := by decide +kernel
theorem dX12_ends_64 : decode cX12_ends 64 = .ok (.dup, 1) := by decide +kernel
theorem dX12_ends_65 : decode cX12_ends 65 = .ok (.getfield 211, 3) := by decide +kernel
theorem dX12_ends_68 : decode cX12_ends 68 = .ok (.iconst 1, 1) := by decide +kernel
theorem dX12_ends_69 : decode cX12_ends 69 = .ok (.iadd, 1) := by decide +kernel
theorem dX12_ends_70 : decode cX12_ends 70 = .ok (.putfield 211, 3) := by decide +kernel
theorem dX12_ends_73 : decode cX12_ends 73 = .ok (.aload_n 0, 1) := by decide +kernel
theorem dX12_ends_74 : decode cX12_ends 74 = .ok (.dup, 1) := by decide +kernel
theorem dX12_ends_75 : decode cX12_ends 75 = .ok (.getfield 214, 3) := by decide +kernel
theorem dX12_ends_78 : decode cX12_ends 78 = .ok (.aload_n 0, 1) := by decide +kernel
theorem dX12_ends_79 : decode cX12_ends 79 = .ok (.getfield 158, 3) := by decide +kernel
theorem dX12_ends_82 : decode cX12_ends 82 = .ok (.aload_n 0, 1) := by decide +kernel
theorem dX12_ends_83 : decode cX12_ends 83 = .ok (.getfield 97, 3) := by decide +kernel
theorem dX12_ends_86 : decode cX12_ends 86 = .ok (.iload_n 2, 1) := by decide +kernel
theorem dX12_ends_87 : decode cX12_ends 87 = .ok (.iaload, 1) := by decide +kernel
theorem dX12_ends_88 : decode cX12_ends 88 = .ok (.isub, 1) := by decide +kernel
theorem dX12_ends_89 : decode cX12_ends 89 = .ok (.iadd, 1) := by decide +kernel
theorem dX12_ends_90 : decode cX12_ends 90 = .ok (.putfield 214, 3) := by decide +kernel
theorem dX12_ends_93 : decode cX12_ends 93 = .ok (.aload_n 0, 1) := by decide +kernel
theorem dX12_ends_94 : decode cX12_ends 94 = .ok (.getfield 88, 3) := by decide +kernel
theorem dX12_ends_97 : decode cX12_ends 97 = .ok (.iload_n 2, 1) := by decide +kernel
theorem dX12_ends_98 : decode cX12_ends 98 = .ok (.iaload, 1) := by decide +kernel
theorem dX12_ends_99 : decode cX12_ends 99 = .ok (.ifCond .lt 16, 3) := by decide +kernel
theorem dX12_ends_102 : decode cX12_ends 102 = .ok (.aload_n 0, 1) := by decide +kernel
theorem dX12_ends_103 : decode cX12_ends 103 = .ok (.aload_n 0, 1) := by decide +kernel
theorem dX12_ends_104 : decode cX12_ends 104 = .ok (.getfield 88, 3) := by decide +kernel
theorem dX12_ends_107 : decode cX12_ends 107 = .ok (.iload_n 2, 1) := by decide +kernel
theorem dX12_ends_108 : decode cX12_ends 108 = .ok (.iaload, 1) := by decide +kernel
theorem dX12_ends_109 : decode cX12_ends 109 = .ok (.invokevirtual 217, 3) := by decide +kernel
theorem dX12_ends_112 : decode cX12_ends 112 = .ok (.goto 4, 3) := by decide +kernel
theorem dX12_ends_115 : decode cX12_ends 115 = .ok (.iconst (-1), 1) := by decide +kernel
theorem dX12_ends_116 : decode cX12_ends 116 = .ok (.istore_n 3, 1) := by decide +kernel
theorem dX12_ends_117 : decode cX12_ends 117 = .ok (.aload_n 0, 1) := by decide +kernel
theorem dX12_ends_118 : decode cX12_ends 118 = .ok (.getfield 91, 3) := by decide +kernel
theorem dX12_ends_121 : decode cX12_ends 121 = .ok (.iload_n 2, 1) := by decide +kernel
theorem dX12_ends_122 : decode cX12_ends 122 = .ok (.iaload, 1) := by decide +kernel
theorem dX12_ends_123 : decode cX12_ends 123 = .ok (.ifCond .ge 22, 3) := by decide +kernel
theorem dX12_ends_126 : decode cX12_ends 126 = .ok (.aload_n 0, 1) := by decide +kernel
theorem dX12_ends_127 : decode cX12_ends 127 = .ok (.dup, 1) := by decide +kernel
theorem dX12_ends_128 : decode cX12_ends 128 = .ok (.getfield 220, 3) := by decide +kernel
theorem dX12_ends_131 : decode cX12_ends 131 = .ok (.iload_n 3, 1) := by decide +kernel
theorem dX12_ends_132 : decode cX12_ends 132 = .ok (.ifCond .lt 7, 3) := by decide +kernel
theorem dX12_ends_135 : decode cX12_ends 135 = .ok (.iconst 1, 1) := by decide +kernel
theorem dX12_ends_136 : decode cX12_ends 136 = .ok (.goto 4, 3) := by decide +kernel
theorem dX12_ends_139 : decode cX12_ends 139 = .ok (.iconst 0, 1) := by decide +kernel
theorem dX12_ends_140 : decode cX12_ends 140 = .ok (.iadd, 1) := by decide +kernel
theorem dX12_ends_141 : decode cX12_ends 141 = .ok (.putfield 220, 3) := by decide +kernel
theorem dX12_ends_144 : decode cX12_ends 144 = .ok (.return_, 1) := by decide +kernel
theorem dX12_ends_145 : decode cX12_ends 145 = .ok (.iload_n 3, 1) := by decide +kernel
theorem dX12_ends_146 : decode cX12_ends 146 = .ok (.ifCond .ge 18, 3) := by decide +kernel
theorem dX12_ends_149 : decode cX12_ends 149 = .ok (.aload_n 0, 1) := by decide +kernel
theorem dX12_ends_150 : decode cX12_ends 150 = .ok (.getfield 223, 3) := by decide +kernel
theorem dX12_ends_153 : decode cX12_ends 153 = .ok (.istore_n 3, 1) := by decide +kernel
theorem dX12_ends_154 : decode cX12_ends 154 = .ok (.aload_n 0, 1) := by decide +kernel
theorem dX12_ends_155 : decode cX12_ends 155 = .ok (.dup, 1) := by decide +kernel
theorem dX12_ends_156 : decode cX12_ends 156 = .ok (.getfield 223, 3) := by decide +kernel
theorem dX12_ends_159 : decode cX12_ends 159 = .ok (.iconst 1, 1) := by decide +kernel
theorem dX12_ends_160 : decode cX12_ends 160 = .ok (.iadd, 1) := by decide +kernel
theorem dX12_ends_161 : decode cX12_ends 161 = .ok (.putfield 223, 3) := by decide +kernel
theorem dX12_ends_164 : decode cX12_ends 164 = .ok (.aload_n 0, 1) := by decide +kernel
theorem dX12_ends_165 : decode cX12_ends 165 = .ok (.getfield 25, 3) := by decide +kernel
theorem dX12_ends_168 : decode cX12_ends 168 = .ok (.aload_n 0, 1) := by decide +kernel
theorem dX12_ends_169 : decode cX12_ends 169 = .ok (.getfield 91, 3) := by decide +kernel
theorem dX12_ends_172 : decode cX12_ends 172 = .ok (.iload_n 2, 1) := by decide +kernel
theorem dX12_ends_173 : decode cX12_ends 173 = .ok (.iaload, 1) := by decide +kernel
theorem dX12_ends_174 : decode cX12_ends 174 = .ok (.dup2, 1) := by decide +kernel
theorem dX12_ends_175 : decode cX12_ends 175 = .ok (.iaload, 1) := by decide +kernel
theorem dX12_ends_176 : decode cX12_ends 176 = .ok (.iconst 1, 1) := by decide +kernel
theorem dX12_ends_177 : decode cX12_ends 177 = .ok (.isub, 1) := by decide +kernel
theorem dX12_ends_178 : decode cX12_ends 178 = .ok (.iastore, 1) := by decide +kernel
theorem dX12_ends_179 : decode cX12_ends 179 = .ok (.aload_n 0, 1) := by decide +kernel
theorem dX12_ends_180 : decode cX12_ends 180 = .ok (.aload_n 0, 1) := by decide +kernel
theorem dX12_ends_181 : decode cX12_ends 181 = .ok (.getfield 91, 3) := by decide +kernel
theorem dX12_ends_184 : decode cX12_ends 184 = .ok (.iload_n 2, 1) := by decide +kernel
theorem dX12_ends_185 : decode cX12_ends 185 = .ok (.iaload, 1) := by decide +kernel
theorem dX12_ends_186 : decode cX12_ends 186 = .ok (.iload_n 3, 1) := by decide +kernel
theorem dX12_ends_187 : decode cX12_ends 187 = .ok (.invokevirtual 226, 3) := by decide +kernel
theorem dX12_ends_190 : decode cX12_ends 190 = .ok (.return_, 1) := by decide +kernel
theorem dX12_acts_0 : decode cX12_acts 0 = .ok (.aload_n 0, 1) := by decide +kernel
theorem dX12_acts_1 : decode cX12_acts 1 = .ok (.getfield 49, 3) := by decide +kernel
theorem dX12_acts_4 : decode cX12_acts 4 = .ok (.iload_n 1, 1) := by decide +kernel
theorem dX12_acts_5 : decode cX12_acts 5 = .ok (.iaload, 1) := by decide +kernel
theorem dX12_acts_6 : decode cX12_acts 6 = .ok (.tableswitch 152 0 2 #[26, 43, 103], 26) := by decide +kernel
theorem dX12_acts_32 : decode cX12_acts 32 = .ok (.aload_n 0, 1) := by decide +kernel
theorem dX12_acts_33 : decode cX12_acts 33 = .ok (.getfield 40, 3) := by decide +kernel
theorem dX12_acts_36 : decode cX12_acts 36 = .ok (.iload_n 1, 1) := by decide +kernel
theorem dX12_acts_37 : decode cX12_acts 37 = .ok (.iaload, 1) := by decide +kernel
theorem dX12_acts_38 : decode cX12_acts 38 = .ok (.ifCond .le 125, 3) := by decide +kernel
theorem dX12_acts_41 : decode cX12_acts 41 = .ok (.aload_n 0, 1) := by decide +kernel
theorem dX12_acts_42 : decode cX12_acts 42 = .ok (.iload_n 1, 1) := by decide +kernel
theorem dX12_acts_43 : decode cX12_acts 43 = .ok (.invokevirtual 229, 3) := by decide +kernel
theorem dX12_acts_46 : decode cX12_acts 46 = .ok (.goto 117, 3) := by decide +kernel
theorem dX12_acts_49 : decode cX12_acts 49 = .ok (.aload_n 0, 1) := by decide +kernel
theorem dX12_acts_50 : decode cX12_acts 50 = .ok (.getfield 55, 3) := by decide +kernel
theorem dX12_acts_53 : decode cX12_acts 53 = .ok (.iload_n 1, 1) := by decide +kernel
theorem dX12_acts_54 : decode cX12_acts 54 = .ok (.dup2, 1) := by decide +kernel
theorem dX12_acts_55 : decode cX12_acts 55 = .ok (.iaload, 1) := by decide +kernel
theorem dX12_acts_56 : decode cX12_acts 56 = .ok (.iconst 1, 1) := by decide +kernel
theorem dX12_acts_57 : decode cX12_acts 57 = .ok (.isub, 1) := by decide +kernel
theorem dX12_acts_58 : decode cX12_acts 58 = .ok (.iastore, 1) := by decide +kernel
theorem dX12_acts_59 : decode cX12_acts 59 = .ok (.aload_n 0, 1) := by decide +kernel
theorem dX12_acts_60 : decode cX12_acts 60 = .ok (.getfield 55, 3) := by decide +kernel
theorem dX12_acts_63 : decode cX12_acts 63 = .ok (.iload_n 1, 1) := by decide +kernel
theorem dX12_acts_64 : decode cX12_acts 64 = .ok (.iaload, 1) := by decide +kernel
theorem dX12_acts_65 : decode cX12_acts 65 = .ok (.ifCond .le 6, 3) := by decide +kernel
theorem dX12_acts_68 : decode cX12_acts 68 = .ok (.goto 95, 3) := by decide +kernel
theorem dX12_acts_71 : decode cX12_acts 71 = .ok (.aload_n 0, 1) := by decide +kernel
theorem dX12_acts_72 : decode cX12_acts 72 = .ok (.getfield 52, 3) := by decide +kernel
theorem dX12_acts_75 : decode cX12_acts 75 = .ok (.iload_n 1, 1) := by decide +kernel
theorem dX12_acts_76 : decode cX12_acts 76 = .ok (.iaload, 1) := by decide +kernel
theorem dX12_acts_77 : decode cX12_acts 77 = .ok (.iconst 1, 1) := by decide +kernel
theorem dX12_acts_78 : decode cX12_acts 78 = .ok (.iadd, 1) := by decide +kernel
theorem dX12_acts_79 : decode cX12_acts 79 = .ok (.aload_n 0, 1) := by decide +kernel
theorem dX12_acts_80 : decode cX12_acts 80 = .ok (.getfield 79, 3) := by decide +kernel
theorem dX12_acts_83 : decode cX12_acts 83 = .ok (.aload_n 0, 1) := by decide +kernel
theorem dX12_acts_84 : decode cX12_acts 84 = .ok (.getfield 46, 3) := by decide +kernel
theorem dX12_acts_87 : decode cX12_acts 87 = .ok (.iload_n 1, 1) := by decide +kernel
theorem dX12_acts_88 : decode cX12_acts 88 = .ok (.iaload, 1) := by decide +kernel
theorem dX12_acts_89 : decode cX12_acts 89 = .ok (.iaload, 1) := by decide +kernel
theorem dX12_acts_90 : decode cX12_acts 90 = .ok (.if_icmp .ge 11, 3) := by decide +kernel
theorem dX12_acts_93 : decode cX12_acts 93 = .ok (.aload_n 0, 1) := by decide +kernel
theorem dX12_acts_94 : decode cX12_acts 94 = .ok (.iload_n 1, 1) := by decide +kernel
theorem dX12_acts_95 : decode cX12_acts 95 = .ok (.invokevirtual 233, 3) := by decide +kernel
theorem dX12_acts_98 : decode cX12_acts 98 = .ok (.goto 65, 3) := by decide +kernel
theorem dX12_acts_101 : decode cX12_acts 101 = .ok (.aload_n 0, 1) := by decide +kernel
theorem dX12_acts_102 : decode cX12_acts 102 = .ok (.iload_n 1, 1) := by decide +kernel
theorem dX12_acts_103 : decode cX12_acts 103 = .ok (.invokevirtual 236, 3) := by decide +kernel
theorem dX12_acts_106 : decode cX12_acts 106 = .ok (.goto 57, 3) := by decide +kernel
theorem dX12_acts_109 : decode cX12_acts 109 = .ok (.aload_n 0, 1) := by decide +kernel
theorem dX12_acts_110 : decode cX12_acts 110 = .ok (.getfield 55, 3) := by decide +kernel
theorem dX12_acts_113 : decode cX12_acts 113 = .ok (.iload_n 1, 1) := by decide +kernel
theorem dX12_acts_114 : decode cX12_acts 114 = .ok (.dup2, 1) := by decide +kernel
theorem dX12_acts_115 : decode cX12_acts 115 = .ok (.iaload, 1) := by decide +kernel
theorem dX12_acts_116 : decode cX12_acts 116 = .ok (.iconst 1, 1) := by decide +kernel
theorem dX12_acts_117 : decode cX12_acts 117 = .ok (.isub, 1) := by decide +kernel
theorem dX12_acts_118 : decode cX12_acts 118 = .ok (.iastore, 1) := by decide +kernel
theorem dX12_acts_119 : decode cX12_acts 119 = .ok (.aload_n 0, 1) := by decide +kernel
theorem dX12_acts_120 : decode cX12_acts 120 = .ok (.getfield 55, 3) := by decide +kernel
theorem dX12_acts_123 : decode cX12_acts 123 = .ok (.iload_n 1, 1) := by decide +kernel
theorem dX12_acts_124 : decode cX12_acts 124 = .ok (.iaload, 1) := by decide +kernel
theorem dX12_acts_125 : decode cX12_acts 125 = .ok (.ifCond .le 6, 3) := by decide +kernel
theorem dX12_acts_128 : decode cX12_acts 128 = .ok (.goto 35, 3) := by decide +kernel
theorem dX12_acts_131 : decode cX12_acts 131 = .ok (.aload_n 0, 1) := by decide +kernel
theorem dX12_acts_132 : decode cX12_acts 132 = .ok (.iload_n 1, 1) := by decide +kernel
theorem dX12_acts_133 : decode cX12_acts 133 = .ok (.iconst 2, 1) := by decide +kernel
theorem dX12_acts_134 : decode cX12_acts 134 = .ok (.aload_n 0, 1) := by decide +kernel
theorem dX12_acts_135 : decode cX12_acts 135 = .ok (.iload_n 1, 1) := by decide +kernel
theorem dX12_acts_136 : decode cX12_acts 136 = .ok (.invokevirtual 151, 3) := by decide +kernel
theorem dX12_acts_139 : decode cX12_acts 139 = .ok (.invokevirtual 203, 3) := by decide +kernel
theorem dX12_acts_142 : decode cX12_acts 142 = .ok (.aload_n 0, 1) := by decide +kernel
theorem dX12_acts_143 : decode cX12_acts 143 = .ok (.iload_n 1, 1) := by decide +kernel
theorem dX12_acts_144 : decode cX12_acts 144 = .ok (.aload_n 0, 1) := by decide +kernel
theorem dX12_acts_145 : decode cX12_acts 145 = .ok (.getfield 52, 3) := by decide +kernel
theorem dX12_acts_148 : decode cX12_acts 148 = .ok (.iload_n 1, 1) := by decide +kernel
theorem dX12_acts_149 : decode cX12_acts 149 = .ok (.iaload, 1) := by decide +kernel
theorem dX12_acts_150 : decode cX12_acts 150 = .ok (.iconst 1, 1) := by decide +kernel
theorem dX12_acts_151 : decode cX12_acts 151 = .ok (.iadd, 1) := by decide +kernel
theorem dX12_acts_152 : decode cX12_acts 152 = .ok (.invokevirtual 199, 3) := by decide +kernel
theorem dX12_acts_155 : decode cX12_acts 155 = .ok (.goto 8, 3) := by decide +kernel
theorem dX12_acts_158 : decode cX12_acts 158 = .ok (.aload_n 0, 1) := by decide +kernel
theorem dX12_acts_159 : decode cX12_acts 159 = .ok (.iload_n 1, 1) := by decide +kernel
theorem dX12_acts_160 : decode cX12_acts 160 = .ok (.invokevirtual 233, 3) := by decide +kernel
theorem dX12_acts_163 : decode cX12_acts 163 = .ok (.return_, 1) := by decide +kernel
theorem dX12_findTurns_0 : decode cX12_findTurns 0 = .ok (.iconst 0, 1) := by decide +kernel
theorem dX12_findTurns_1 : decode cX12_findTurns 1 = .ok (.istore_n 1, 1) := by decide +kernel
theorem dX12_findTurns_2 : decode cX12_findTurns 2 = .ok (.iload_n 1, 1) := by decide +kernel
theorem dX12_findTurns_3 : decode cX12_findTurns 3 = .ok (.iconst 3, 1) := by decide +kernel
theorem dX12_findTurns_4 : decode cX12_findTurns 4 = .ok (.if_icmp .ge 64, 3) := by decide +kernel
theorem dX12_findTurns_7 : decode cX12_findTurns 7 = .ok (.iload_n 1, 1) := by decide +kernel
theorem dX12_findTurns_8 : decode cX12_findTurns 8 = .ok (.istore_n 2, 1) := by decide +kernel
theorem dX12_findTurns_9 : decode cX12_findTurns 9 = .ok (.iload_n 2, 1) := by decide +kernel
theorem dX12_findTurns_10 : decode cX12_findTurns 10 = .ok (.ifCond .le 45, 3) := by decide +kernel
theorem dX12_findTurns_13 : decode cX12_findTurns 13 = .ok (.aload_n 0, 1) := by decide +kernel
theorem dX12_findTurns_14 : decode cX12_findTurns 14 = .ok (.getfield 58, 3) := by decide +kernel
theorem dX12_findTurns_17 : decode cX12_findTurns 17 = .ok (.aload_n 0, 1) := by decide +kernel
theorem dX12_findTurns_18 : decode cX12_findTurns 18 = .ok (.getfield 115, 3) := by decide +kernel
theorem dX12_findTurns_21 : decode cX12_findTurns 21 = .ok (.iload_n 2, 1) := by decide +kernel
theorem dX12_findTurns_22 : decode cX12_findTurns 22 = .ok (.iconst 1, 1) := by decide +kernel
theorem dX12_findTurns_23 : decode cX12_findTurns 23 = .ok (.isub, 1) := by decide +kernel
theorem dX12_findTurns_24 : decode cX12_findTurns 24 = .ok (.iaload, 1) := by decide +kernel
theorem dX12_findTurns_25 : decode cX12_findTurns 25 = .ok (.iaload, 1) := by decide +kernel
theorem dX12_findTurns_26 : decode cX12_findTurns 26 = .ok (.aload_n 0, 1) := by decide +kernel
theorem dX12_findTurns_27 : decode cX12_findTurns 27 = .ok (.getfield 58, 3) := by decide +kernel
theorem dX12_findTurns_30 : decode cX12_findTurns 30 = .ok (.iload_n 1, 1) := by decide +kernel
theorem dX12_findTurns_31 : decode cX12_findTurns 31 = .ok (.iaload, 1) := by decide +kernel
theorem dX12_findTurns_32 : decode cX12_findTurns 32 = .ok (.if_icmp .ge 23, 3) := by decide +kernel
theorem dX12_findTurns_35 : decode cX12_findTurns 35 = .ok (.aload_n 0, 1) := by decide +kernel
theorem dX12_findTurns_36 : decode cX12_findTurns 36 = .ok (.getfield 115, 3) := by decide +kernel
theorem dX12_findTurns_39 : decode cX12_findTurns 39 = .ok (.iload_n 2, 1) := by decide +kernel
theorem dX12_findTurns_40 : decode cX12_findTurns 40 = .ok (.aload_n 0, 1) := by decide +kernel
theorem dX12_findTurns_41 : decode cX12_findTurns 41 = .ok (.getfield 115, 3) := by decide +kernel
theorem dX12_findTurns_44 : decode cX12_findTurns 44 = .ok (.iload_n 2, 1) := by decide +kernel
theorem dX12_findTurns_45 : decode cX12_findTurns 45 = .ok (.iconst 1, 1) := by decide +kernel
theorem dX12_findTurns_46 : decode cX12_findTurns 46 = .ok (.isub, 1) := by decide +kernel
theorem dX12_findTurns_47 : decode cX12_findTurns 47 = .ok (.iaload, 1) := by decide +kernel
theorem dX12_findTurns_48 : decode cX12_findTurns 48 = .ok (.iastore, 1) := by decide +kernel
theorem dX12_findTurns_49 : decode cX12_findTurns 49 = .ok (.iinc 2 (-1), 3) := by decide +kernel
theorem dX12_findTurns_52 : decode cX12_findTurns 52 = .ok (.goto (-43), 3) := by decide +kernel
theorem dX12_findTurns_55 : decode cX12_findTurns 55 = .ok (.aload_n 0, 1) := by decide +kernel
theorem dX12_findTurns_56 : decode cX12_findTurns 56 = .ok (.getfield 115, 3) := by decide +kernel
theorem dX12_findTurns_59 : decode cX12_findTurns 59 = .ok (.iload_n 2, 1) := by decide +kernel
theorem dX12_findTurns_60 : decode cX12_findTurns 60 = .ok (.iload_n 1, 1) := by decide +kernel
theorem dX12_findTurns_61 : decode cX12_findTurns 61 = .ok (.iastore, 1) := by decide +kernel
theorem dX12_findTurns_62 : decode cX12_findTurns 62 = .ok (.iinc 1 1, 3) := by decide +kernel
theorem dX12_findTurns_65 : decode cX12_findTurns 65 = .ok (.goto (-63), 3) := by decide +kernel
theorem dX12_findTurns_68 : decode cX12_findTurns 68 = .ok (.return_, 1) := by decide +kernel
theorem dX12_ticks_0 : decode cX12_ticks 0 = .ok (.aload_n 0, 1) := by decide +kernel
theorem dX12_ticks_1 : decode cX12_ticks 1 = .ok (.dup, 1) := by decide +kernel
theorem dX12_ticks_2 : decode cX12_ticks 2 = .ok (.getfield 158, 3) := by decide +kernel
theorem dX12_ticks_5 : decode cX12_ticks 5 = .ok (.iconst 1, 1) := by decide +kernel
theorem dX12_ticks_6 : decode cX12_ticks 6 = .ok (.iadd, 1) := by decide +kernel
theorem dX12_ticks_7 : decode cX12_ticks 7 = .ok (.putfield 158, 3) := by decide +kernel
theorem dX12_ticks_10 : decode cX12_ticks 10 = .ok (.aload_n 0, 1) := by decide +kernel
theorem dX12_ticks_11 : decode cX12_ticks 11 = .ok (.invokevirtual 239, 3) := by decide +kernel
theorem dX12_ticks_14 : decode cX12_ticks 14 = .ok (.iconst 0, 1) := by decide +kernel
theorem dX12_ticks_15 : decode cX12_ticks 15 = .ok (.istore_n 1, 1) := by decide +kernel
theorem dX12_ticks_16 : decode cX12_ticks 16 = .ok (.iload_n 1, 1) := by decide +kernel
theorem dX12_ticks_17 : decode cX12_ticks 17 = .ok (.iconst 3, 1) := by decide +kernel
theorem dX12_ticks_18 : decode cX12_ticks 18 = .ok (.if_icmp .ge 51, 3) := by decide +kernel
theorem dX12_ticks_21 : decode cX12_ticks 21 = .ok (.aload_n 0, 1) := by decide +kernel
theorem dX12_ticks_22 : decode cX12_ticks 22 = .ok (.getfield 115, 3) := by decide +kernel
theorem dX12_ticks_25 : decode cX12_ticks 25 = .ok (.iload_n 1, 1) := by decide +kernel
theorem dX12_ticks_26 : decode cX12_ticks 26 = .ok (.iaload, 1) := by decide +kernel
theorem dX12_ticks_27 : decode cX12_ticks 27 = .ok (.istore_n 2, 1) := by decide +kernel
theorem dX12_ticks_28 : decode cX12_ticks 28 = .ok (.aload_n 0, 1) := by decide +kernel
theorem dX12_ticks_29 : decode cX12_ticks 29 = .ok (.iconst 0, 1) := by decide +kernel
theorem dX12_ticks_30 : decode cX12_ticks 30 = .ok (.putfield 191, 3) := by decide +kernel
theorem dX12_ticks_33 : decode cX12_ticks 33 = .ok (.aload_n 0, 1) := by decide +kernel
theorem dX12_ticks_34 : decode cX12_ticks 34 = .ok (.iload_n 2, 1) := by decide +kernel
theorem dX12_ticks_35 : decode cX12_ticks 35 = .ok (.invokevirtual 242, 3) := by decide +kernel
theorem dX12_ticks_38 : decode cX12_ticks 38 = .ok (.aload_n 0, 1) := by decide +kernel
theorem dX12_ticks_39 : decode cX12_ticks 39 = .ok (.getfield 58, 3) := by decide +kernel
theorem dX12_ticks_42 : decode cX12_ticks 42 = .ok (.iload_n 2, 1) := by decide +kernel
theorem dX12_ticks_43 : decode cX12_ticks 43 = .ok (.aload_n 0, 1) := by decide +kernel
theorem dX12_ticks_44 : decode cX12_ticks 44 = .ok (.getfield 191, 3) := by decide +kernel
theorem dX12_ticks_47 : decode cX12_ticks 47 = .ok (.ifCond .eq 14, 3) := by decide +kernel
theorem dX12_ticks_50 : decode cX12_ticks 50 = .ok (.aload_n 0, 1) := by decide +kernel
theorem dX12_ticks_51 : decode cX12_ticks 51 = .ok (.getfield 58, 3) := by decide +kernel
theorem dX12_ticks_54 : decode cX12_ticks 54 = .ok (.iload_n 2, 1) := by decide +kernel
theorem dX12_ticks_55 : decode cX12_ticks 55 = .ok (.iaload, 1) := by decide +kernel
theorem dX12_ticks_56 : decode cX12_ticks 56 = .ok (.iconst 1, 1) := by decide +kernel
theorem dX12_ticks_57 : decode cX12_ticks 57 = .ok (.iadd, 1) := by decide +kernel
theorem dX12_ticks_58 : decode cX12_ticks 58 = .ok (.goto 4, 3) := by decide +kernel
theorem dX12_ticks_61 : decode cX12_ticks 61 = .ok (.iconst 0, 1) := by decide +kernel
theorem dX12_ticks_62 : decode cX12_ticks 62 = .ok (.iastore, 1) := by decide +kernel
theorem dX12_ticks_63 : decode cX12_ticks 63 = .ok (.iinc 1 1, 3) := by decide +kernel
theorem dX12_ticks_66 : decode cX12_ticks 66 = .ok (.goto (-50), 3) := by decide +kernel
theorem dX12_ticks_69 : decode cX12_ticks 69 = .ok (.iconst 0, 1) := by decide +kernel
theorem dX12_ticks_70 : decode cX12_ticks 70 = .ok (.istore_n 1, 1) := by decide +kernel
theorem dX12_ticks_71 : decode cX12_ticks 71 = .ok (.iload_n 1, 1) := by decide +kernel
theorem dX12_ticks_72 : decode cX12_ticks 72 = .ok (.iconst 3, 1) := by decide +kernel
theorem dX12_ticks_73 : decode cX12_ticks 73 = .ok (.if_icmp .ge 64, 3) := by decide +kernel
theorem dX12_ticks_76 : decode cX12_ticks 76 = .ok (.aload_n 0, 1) := by decide +kernel
theorem dX12_ticks_77 : decode cX12_ticks 77 = .ok (.getfield 70, 3) := by decide +kernel
theorem dX12_ticks_80 : decode cX12_ticks 80 = .ok (.iload_n 1, 1) := by decide +kernel
theorem dX12_ticks_81 : decode cX12_ticks 81 = .ok (.dup2, 1) := by decide +kernel
theorem dX12_ticks_82 : decode cX12_ticks 82 = .ok (.iaload, 1) := by decide +kernel
theorem dX12_ticks_83 : decode cX12_ticks 83 = .ok (.aload_n 0, 1) := by decide +kernel
theorem dX12_ticks_84 : decode cX12_ticks 84 = .ok (.getfield 49, 3) := by decide +kernel
theorem dX12_ticks_87 : decode cX12_ticks 87 = .ok (.iload_n 1, 1) := by decide +kernel
theorem dX12_ticks_88 : decode cX12_ticks 88 = .ok (.iaload, 1) := by decide +kernel
theorem dX12_ticks_89 : decode cX12_ticks 89 = .ok (.ifCond .ne 7, 3) := by decide +kernel
theorem dX12_ticks_92 : decode cX12_ticks 92 = .ok (.iconst 0, 1) := by decide +kernel
theorem dX12_ticks_93 : decode cX12_ticks 93 = .ok (.goto 4, 3) := by decide +kernel
theorem dX12_ticks_96 : decode cX12_ticks 96 = .ok (.iconst 1, 1) := by decide +kernel
theorem dX12_ticks_97 : decode cX12_ticks 97 = .ok (.iadd, 1) := by decide +kernel
theorem dX12_ticks_98 : decode cX12_ticks 98 = .ok (.iastore, 1) := by decide +kernel
theorem dX12_ticks_99 : decode cX12_ticks 99 = .ok (.iconst 0, 1) := by decide +kernel
theorem dX12_ticks_100 : decode cX12_ticks 100 = .ok (.istore_n 2, 1) := by decide +kernel
theorem dX12_ticks_101 : decode cX12_ticks 101 = .ok (.iload_n 2, 1) := by decide +kernel
theorem dX12_ticks_102 : decode cX12_ticks 102 = .ok (.bipush 8, 2) := by decide +kernel
theorem dX12_ticks_104 : decode cX12_ticks 104 = .ok (.if_icmp .ge 27, 3) := by decide +kernel
theorem dX12_ticks_107 : decode cX12_ticks 107 = .ok (.aload_n 0, 1) := by decide +kernel
theorem dX12_ticks_108 : decode cX12_ticks 108 = .ok (.getfield 13, 3) := by decide +kernel
theorem dX12_ticks_111 : decode cX12_ticks 111 = .ok (.iload_n 2, 1) := by decide +kernel
theorem dX12_ticks_112 : decode cX12_ticks 112 = .ok (.dup2, 1) := by decide +kernel
theorem dX12_ticks_113 : decode cX12_ticks 113 = .ok (.iaload, 1) := by decide +kernel
theorem dX12_ticks_114 : decode cX12_ticks 114 = .ok (.aload_n 0, 1) := by decide +kernel
theorem dX12_ticks_115 : decode cX12_ticks 115 = .ok (.iload_n 1, 1) := by decide +kernel
theorem dX12_ticks_116 : decode cX12_ticks 116 = .ok (.invokevirtual 161, 3) := by decide +kernel
theorem dX12_ticks_119 : decode cX12_ticks 119 = .ok (.iload_n 2, 1) := by decide +kernel
theorem dX12_ticks_120 : decode cX12_ticks 120 = .ok (.ishr, 1) := by decide +kernel
theorem dX12_ticks_121 : decode cX12_ticks 121 = .ok (.iconst 1, 1) := by decide +kernel
theorem dX12_ticks_122 : decode cX12_ticks 122 = .ok (.iand, 1) := by decide +kernel
theorem dX12_ticks_123 : decode cX12_ticks 123 = .ok (.iadd, 1) := by decide +kernel
theorem dX12_ticks_124 : decode cX12_ticks 124 = .ok (.iastore, 1) := by decide +kernel
theorem dX12_ticks_125 : decode cX12_ticks 125 = .ok (.iinc 2 1, 3) := by decide +kernel
theorem dX12_ticks_128 : decode cX12_ticks 128 = .ok (.goto (-27), 3) := by decide +kernel
theorem dX12_ticks_131 : decode cX12_ticks 131 = .ok (.iinc 1 1, 3) := by decide +kernel
