theorem d_L_law_0 : decode b_L_law 0 = .ok (.new 8, 3) := by decide +kernel
theorem d_L_law_3 : decode b_L_law 3 = .ok (.dup, 1) := by decide +kernel
theorem d_L_law_4 : decode b_L_law 4 = .ok (.invokespecial 78, 3) := by decide +kernel
theorem d_L_law_7 : decode b_L_law 7 = .ok (.astore_n 1, 1) := by decide +kernel
theorem d_L_law_8 : decode b_L_law 8 = .ok (.new 79, 3) := by decide +kernel
theorem d_L_law_11 : decode b_L_law 11 = .ok (.dup, 1) := by decide +kernel
theorem d_L_law_12 : decode b_L_law 12 = .ok (.invokespecial 81, 3) := by decide +kernel
theorem d_L_law_15 : decode b_L_law 15 = .ok (.astore_n 2, 1) := by decide +kernel
theorem d_L_law_16 : decode b_L_law 16 = .ok (.iconst 1, 1) := by decide +kernel
theorem d_L_law_17 : decode b_L_law 17 = .ok (.newarray .long, 2) := by decide +kernel
theorem d_L_law_19 : decode b_L_law 19 = .ok (.astore_n 3, 1) := by decide +kernel
theorem d_L_law_20 : decode b_L_law 20 = .ok (.iconst 0, 1) := by decide +kernel
theorem d_L_law_21 : decode b_L_law 21 = .ok (.istore 4, 2) := by decide +kernel
theorem d_L_law_23 : decode b_L_law 23 = .ok (.iload 4, 2) := by decide +kernel
theorem d_L_law_25 : decode b_L_law 25 = .ok (.aload_n 0, 1) := by decide +kernel
theorem d_L_law_26 : decode b_L_law 26 = .ok (.arraylength, 1) := by decide +kernel
theorem d_L_law_27 : decode b_L_law 27 = .ok (.bipush 6, 2) := by decide +kernel
theorem d_L_law_29 : decode b_L_law 29 = .ok (.isub, 1) := by decide +kernel
theorem d_L_law_30 : decode b_L_law 30 = .ok (.if_icmp .gt 1336, 3) := by decide +kernel
theorem d_L_law_33 : decode b_L_law 33 = .ok (.aload_n 0, 1) := by decide +kernel
theorem d_L_law_34 : decode b_L_law 34 = .ok (.iload 4, 2) := by decide +kernel
theorem d_L_law_36 : decode b_L_law 36 = .ok (.iaload, 1) := by decide +kernel
theorem d_L_law_37 : decode b_L_law 37 = .ok (.bipush 31, 2) := by decide +kernel
theorem d_L_law_39 : decode b_L_law 39 = .ok (.iand, 1) := by decide +kernel
theorem d_L_law_40 : decode b_L_law 40 = .ok (.tableswitch 1320 0 18 #[92, 184, 220, 280, 371, 470, 574, 634, 726, 786, 799, 867, 947, 1015, 1071, 1139, 1164, 1208, 1264], 92) := by decide +kernel
theorem d_L_law_132 : decode b_L_law 132 = .ok (.aload_n 1, 1) := by decide +kernel
theorem d_L_law_133 : decode b_L_law 133 = .ok (.aload_n 0, 1) := by decide +kernel
theorem d_L_law_134 : decode b_L_law 134 = .ok (.iload 4, 2) := by decide +kernel
theorem d_L_law_136 : decode b_L_law 136 = .ok (.iconst 1, 1) := by decide +kernel
theorem d_L_law_137 : decode b_L_law 137 = .ok (.iadd, 1) := by decide +kernel
theorem d_L_law_138 : decode b_L_law 138 = .ok (.iaload, 1) := by decide +kernel
theorem d_L_law_139 : decode b_L_law 139 = .ok (.aload_n 0, 1) := by decide +kernel
theorem d_L_law_140 : decode b_L_law 140 = .ok (.iload 4, 2) := by decide +kernel
theorem d_L_law_142 : decode b_L_law 142 = .ok (.iconst 2, 1) := by decide +kernel
theorem d_L_law_143 : decode b_L_law 143 = .ok (.iadd, 1) := by decide +kernel
theorem d_L_law_144 : decode b_L_law 144 = .ok (.iaload, 1) := by decide +kernel
theorem d_L_law_145 : decode b_L_law 145 = .ok (.aload_n 0, 1) := by decide +kernel
theorem d_L_law_146 : decode b_L_law 146 = .ok (.iload 4, 2) := by decide +kernel
theorem d_L_law_148 : decode b_L_law 148 = .ok (.iconst 3, 1) := by decide +kernel
theorem d_L_law_149 : decode b_L_law 149 = .ok (.iadd, 1) := by decide +kernel
theorem d_L_law_150 : decode b_L_law 150 = .ok (.iaload, 1) := by decide +kernel
theorem d_L_law_151 : decode b_L_law 151 = .ok (.aload_n 0, 1) := by decide +kernel
theorem d_L_law_152 : decode b_L_law 152 = .ok (.iload 4, 2) := by decide +kernel
theorem d_L_law_154 : decode b_L_law 154 = .ok (.iconst 4, 1) := by decide +kernel
theorem d_L_law_155 : decode b_L_law 155 = .ok (.iadd, 1) := by decide +kernel
theorem d_L_law_156 : decode b_L_law 156 = .ok (.iaload, 1) := by decide +kernel
theorem d_L_law_157 : decode b_L_law 157 = .ok (.aload_n 3, 1) := by decide +kernel
theorem d_L_law_158 : decode b_L_law 158 = .ok (.invokestatic 82, 3) := by decide +kernel
theorem d_L_law_161 : decode b_L_law 161 = .ok (.istore 5, 2) := by decide +kernel
theorem d_L_law_163 : decode b_L_law 163 = .ok (.aload_n 2, 1) := by decide +kernel
theorem d_L_law_164 : decode b_L_law 164 = .ok (.aload_n 0, 1) := by decide +kernel
theorem d_L_law_165 : decode b_L_law 165 = .ok (.iload 4, 2) := by decide +kernel
theorem d_L_law_167 : decode b_L_law 167 = .ok (.iconst 1, 1) := by decide +kernel
theorem d_L_law_168 : decode b_L_law 168 = .ok (.iadd, 1) := by decide +kernel
theorem d_L_law_169 : decode b_L_law 169 = .ok (.iaload, 1) := by decide +kernel
theorem d_L_law_170 : decode b_L_law 170 = .ok (.aload_n 0, 1) := by decide +kernel
theorem d_L_law_171 : decode b_L_law 171 = .ok (.iload 4, 2) := by decide +kernel
theorem d_L_law_173 : decode b_L_law 173 = .ok (.iconst 2, 1) := by decide +kernel
theorem d_L_law_174 : decode b_L_law 174 = .ok (.iadd, 1) := by decide +kernel
theorem d_L_law_175 : decode b_L_law 175 = .ok (.iaload, 1) := by decide +kernel
theorem d_L_law_176 : decode b_L_law 176 = .ok (.aload_n 0, 1) := by decide +kernel
theorem d_L_law_177 : decode b_L_law 177 = .ok (.iload 4, 2) := by decide +kernel
theorem d_L_law_179 : decode b_L_law 179 = .ok (.iconst 3, 1) := by decide +kernel
theorem d_L_law_180 : decode b_L_law 180 = .ok (.iadd, 1) := by decide +kernel
theorem d_L_law_181 : decode b_L_law 181 = .ok (.iaload, 1) := by decide +kernel
theorem d_L_law_182 : decode b_L_law 182 = .ok (.aload_n 0, 1) := by decide +kernel
theorem d_L_law_183 : decode b_L_law 183 = .ok (.iload 4, 2) := by decide +kernel
theorem d_L_law_185 : decode b_L_law 185 = .ok (.iconst 4, 1) := by decide +kernel
theorem d_L_law_186 : decode b_L_law 186 = .ok (.iadd, 1) := by decide +kernel
theorem d_L_law_187 : decode b_L_law 187 = .ok (.iaload, 1) := by decide +kernel
theorem d_L_law_188 : decode b_L_law 188 = .ok (.invokevirtual 87, 3) := by decide +kernel
theorem d_L_law_191 : decode b_L_law 191 = .ok (.istore 6, 2) := by decide +kernel
theorem d_L_law_193 : decode b_L_law 193 = .ok (.aload_n 2, 1) := by decide +kernel
theorem d_L_law_194 : decode b_L_law 194 = .ok (.invokevirtual 88, 3) := by decide +kernel
theorem d_L_law_197 : decode b_L_law 197 = .ok (.iload 5, 2) := by decide +kernel
theorem d_L_law_199 : decode b_L_law 199 = .ok (.if_icmp .eq 5, 3) := by decide +kernel
theorem d_L_law_202 : decode b_L_law 202 = .ok (.iconst 0, 1) := by decide +kernel
theorem d_L_law_203 : decode b_L_law 203 = .ok (.ireturn, 1) := by decide +kernel
theorem d_L_law_204 : decode b_L_law 204 = .ok (.iload 5, 2) := by decide +kernel
theorem d_L_law_206 : decode b_L_law 206 = .ok (.ifCond .ne 15, 3) := by decide +kernel
theorem d_L_law_209 : decode b_L_law 209 = .ok (.aload_n 3, 1) := by decide +kernel
theorem d_L_law_210 : decode b_L_law 210 = .ok (.iconst 0, 1) := by decide +kernel
theorem d_L_law_211 : decode b_L_law 211 = .ok (.laload, 1) := by decide +kernel
theorem d_L_law_212 : decode b_L_law 212 = .ok (.iload 6, 2) := by decide +kernel
theorem d_L_law_214 : decode b_L_law 214 = .ok (.i2l, 1) := by decide +kernel
theorem d_L_law_215 : decode b_L_law 215 = .ok (.lcmp, 1) := by decide +kernel
theorem d_L_law_216 : decode b_L_law 216 = .ok (.ifCond .eq 5, 3) := by decide +kernel
theorem d_L_law_219 : decode b_L_law 219 = .ok (.iconst 0, 1) := by decide +kernel
theorem d_L_law_220 : decode b_L_law 220 = .ok (.ireturn, 1) := by decide +kernel
theorem d_L_law_221 : decode b_L_law 221 = .ok (.goto 1139, 3) := by decide +kernel
theorem d_L_law_224 : decode b_L_law 224 = .ok (.aload_n 1, 1) := by decide +kernel
theorem d_L_law_225 : decode b_L_law 225 = .ok (.aload_n 0, 1) := by decide +kernel
theorem d_L_law_226 : decode b_L_law 226 = .ok (.iload 4, 2) := by decide +kernel
theorem d_L_law_228 : decode b_L_law 228 = .ok (.iconst 1, 1) := by decide +kernel
theorem d_L_law_229 : decode b_L_law 229 = .ok (.iadd, 1) := by decide +kernel
theorem d_L_law_230 : decode b_L_law 230 = .ok (.iaload, 1) := by decide +kernel
theorem d_L_law_231 : decode b_L_law 231 = .ok (.invokestatic 91, 3) := by decide +kernel
theorem d_L_law_234 : decode b_L_law 234 = .ok (.istore 5, 2) := by decide +kernel
theorem d_L_law_236 : decode b_L_law 236 = .ok (.aload_n 2, 1) := by decide +kernel
theorem d_L_law_237 : decode b_L_law 237 = .ok (.aload_n 0, 1) := by decide +kernel
theorem d_L_law_238 : decode b_L_law 238 = .ok (.iload 4, 2) := by decide +kernel
theorem d_L_law_240 : decode b_L_law 240 = .ok (.iconst 1, 1) := by decide +kernel
theorem d_L_law_241 : decode b_L_law 241 = .ok (.iadd, 1) := by decide +kernel
theorem d_L_law_242 : decode b_L_law 242 = .ok (.iaload, 1) := by decide +kernel
theorem d_L_law_243 : decode b_L_law 243 = .ok (.invokevirtual 94, 3) := by decide +kernel
theorem d_L_law_246 : decode b_L_law 246 = .ok (.aload_n 2, 1) := by decide +kernel
theorem d_L_law_247 : decode b_L_law 247 = .ok (.invokevirtual 88, 3) := by decide +kernel
theorem d_L_law_250 : decode b_L_law 250 = .ok (.iload 5, 2) := by decide +kernel
theorem d_L_law_252 : decode b_L_law 252 = .ok (.if_icmp .eq 5, 3) := by decide +kernel
theorem d_L_law_255 : decode b_L_law 255 = .ok (.iconst 0, 1) := by decide +kernel
theorem d_L_law_256 : decode b_L_law 256 = .ok (.ireturn, 1) := by decide +kernel
theorem d_L_law_257 : decode b_L_law 257 = .ok (.goto 1103, 3) := by decide +kernel
theorem d_L_law_260 : decode b_L_law 260 = .ok (.aload_n 1, 1) := by decide +kernel
theorem d_L_law_261 : decode b_L_law 261 = .ok (.aload_n 0, 1) := by decide +kernel
theorem d_L_law_262 : decode b_L_law 262 = .ok (.iload 4, 2) := by decide +kernel
theorem d_L_law_264 : decode b_L_law 264 = .ok (.iconst 1, 1) := by decide +kernel
theorem d_L_law_265 : decode b_L_law 265 = .ok (.iadd, 1) := by decide +kernel
theorem d_L_law_266 : decode b_L_law 266 = .ok (.iaload, 1) := by decide +kernel
theorem d_L_law_267 : decode b_L_law 267 = .ok (.aload_n 0, 1) := by decide +kernel
theorem d_L_law_268 : decode b_L_law 268 = .ok (.iload 4, 2) := by decide +kernel
theorem d_L_law_270 : decode b_L_law 270 = .ok (.iconst 2, 1) := by decide +kernel
theorem d_L_law_271 : decode b_L_law 271 = .ok (.iadd, 1) := by decide +kernel
theorem d_L_law_272 : decode b_L_law 272 = .ok (.iaload, 1) := by decide +kernel
theorem d_L_law_273 : decode b_L_law 273 = .ok (.aload_n 0, 1) := by decide +kernel
theorem d_L_law_274 : decode b_L_law 274 = .ok (.iload 4, 2) := by decide +kernel
theorem d_L_law_276 : decode b_L_law 276 = .ok (.iconst 3, 1) := by decide +kernel
theorem d_L_law_277 : decode b_L_law 277 = .ok (.iadd, 1) := by decide +kernel
theorem d_L_law_278 : decode b_L_law 278 = .ok (.iaload, 1) := by decide +kernel
theorem d_L_law_279 : decode b_L_law 279 = .ok (.invokestatic 95, 3) := by decide +kernel
theorem d_L_law_282 : decode b_L_law 282 = .ok (.istore 5, 2) := by decide +kernel
theorem d_L_law_284 : decode b_L_law 284 = .ok (.aload_n 2, 1) := by decide +kernel
theorem d_L_law_285 : decode b_L_law 285 = .ok (.aload_n 0, 1) := by decide +kernel
theorem d_L_law_286 : decode b_L_law 286 = .ok (.iload 4, 2) := by decide +kernel
theorem d_L_law_288 : decode b_L_law 288 = .ok (.iconst 1, 1) := by decide +kernel
theorem d_L_law_289 : decode b_L_law 289 = .ok (.iadd, 1) := by decide +kernel
theorem d_L_law_290 : decode b_L_law 290 = .ok (.iaload, 1) := by decide +kernel
theorem d_L_law_291 : decode b_L_law 291 = .ok (.aload_n 0, 1) := by decide +kernel
theorem d_L_law_292 : decode b_L_law 292 = .ok (.iload 4, 2) := by decide +kernel
theorem d_L_law_294 : decode b_L_law 294 = .ok (.iconst 2, 1) := by decide +kernel
theorem d_L_law_295 : decode b_L_law 295 = .ok (.iadd, 1) := by decide +kernel
theorem d_L_law_296 : decode b_L_law 296 = .ok (.iaload, 1) := by decide +kernel
theorem d_L_law_297 : decode b_L_law 297 = .ok (.aload_n 0, 1) := by decide +kernel
theorem d_L_law_298 : decode b_L_law 298 = .ok (.iload 4, 2) := by decide +kernel
theorem d_L_law_300 : decode b_L_law 300 = .ok (.iconst 3, 1) := by decide +kernel
theorem d_L_law_301 : decode b_L_law 301 = .ok (.iadd, 1) := by decide +kernel
theorem d_L_law_302 : decode b_L_law 302 = .ok (.iaload, 1) := by decide +kernel
theorem d_L_law_303 : decode b_L_law 303 = .ok (.invokevirtual 98, 3) := by decide +kernel
theorem d_L_law_306 : decode b_L_law 306 = .ok (.aload_n 2, 1) := by decide +kernel
theorem d_L_law_307 : decode b_L_law 307 = .ok (.invokevirtual 88, 3) := by decide +kernel
theorem d_L_law_310 : decode b_L_law 310 = .ok (.iload 5, 2) := by decide +kernel
theorem d_L_law_312 : decode b_L_law 312 = .ok (.if_icmp .eq 5, 3) := by decide +kernel
theorem d_L_law_315 : decode b_L_law 315 = .ok (.iconst 0, 1) := by decide +kernel
theorem d_L_law_316 : decode b_L_law 316 = .ok (.ireturn, 1) := by decide +kernel
theorem d_L_law_317 : decode b_L_law 317 = .ok (.goto 1043, 3) := by decide +kernel
theorem d_L_law_320 : decode b_L_law 320 = .ok (.aload_n 1, 1) := by decide +kernel
theorem d_L_law_321 : decode b_L_law 321 = .ok (.aload_n 0, 1) := by decide +kernel
theorem d_L_law_322 : decode b_L_law 322 = .ok (.iload 4, 2) := by decide +kernel
theorem d_L_law_324 : decode b_L_law 324 = .ok (.iconst 1, 1) := by decide +kernel
theorem d_L_law_325 : decode b_L_law 325 = .ok (.iadd, 1) := by decide +kernel
theorem d_L_law_326 : decode b_L_law 326 = .ok (.iaload, 1) := by decide +kernel
theorem d_L_law_327 : decode b_L_law 327 = .ok (.aload_n 0, 1) := by decide +kernel
theorem d_L_law_328 : decode b_L_law 328 = .ok (.iload 4, 2) := by decide +kernel
theorem d_L_law_330 : decode b_L_law 330 = .ok (.iconst 2, 1) := by decide +kernel
theorem d_L_law_331 : decode b_L_law 331 = .ok (.iadd, 1) := by decide +kernel
theorem d_L_law_332 : decode b_L_law 332 = .ok (.iaload, 1) := by decide +kernel
theorem d_L_law_333 : decode b_L_law 333 = .ok (.ifCond .eq 7, 3) := by decide +kernel
theorem d_L_law_336 : decode b_L_law 336 = .ok (.iconst 1, 1) := by decide +kernel
theorem d_L_law_337 : decode b_L_law 337 = .ok (.goto 4, 3) := by decide +kernel
theorem d_L_law_340 : decode b_L_law 340 = .ok (.iconst 0, 1) := by decide +kernel
theorem d_L_law_341 : decode b_L_law 341 = .ok (.aload_n 3, 1) := by decide +kernel
theorem d_L_law_342 : decode b_L_law 342 = .ok (.invokestatic 99, 3) := by decide +kernel
theorem d_L_law_345 : decode b_L_law 345 = .ok (.istore 5, 2) := by decide +kernel
theorem d_L_law_347 : decode b_L_law 347 = .ok (.aload_n 2, 1) := by decide +kernel
theorem d_L_law_348 : decode b_L_law 348 = .ok (.aload_n 0, 1) := by decide +kernel
theorem d_L_law_349 : decode b_L_law 349 = .ok (.iload 4, 2) := by decide +kernel
theorem d_L_law_351 : decode b_L_law 351 = .ok (.iconst 1, 1) := by decide +kernel
theorem d_L_law_352 : decode b_L_law 352 = .ok (.iadd, 1) := by decide +kernel
theorem d_L_law_353 : decode b_L_law 353 = .ok (.iaload, 1) := by decide +kernel
theorem d_L_law_354 : decode b_L_law 354 = .ok (.aload_n 0, 1) := by decide +kernel
theorem d_L_law_355 : decode b_L_law 355 = .ok (.iload 4, 2) := by decide +kernel
theorem d_L_law_357 : decode b_L_law 357 = .ok (.iconst 2, 1) := by decide +kernel
theorem d_L_law_358 : decode b_L_law 358 = .ok (.iadd, 1) := by decide +kernel
theorem d_L_law_359 : decode b_L_law 359 = .ok (.iaload, 1) := by decide +kernel
theorem d_L_law_360 : decode b_L_law 360 = .ok (.ifCond .eq 7, 3) := by decide +kernel
theorem d_L_law_363 : decode b_L_law 363 = .ok (.iconst 1, 1) := by decide +kernel
theorem d_L_law_364 : decode b_L_law 364 = .ok (.goto 4, 3) := by decide +kernel
theorem d_L_law_367 : decode b_L_law 367 = .ok (.iconst 0, 1) := by decide +kernel
theorem d_L_law_368 : decode b_L_law 368 = .ok (.invokevirtual 102, 3) := by decide +kernel
theorem d_L_law_371 : decode b_L_law 371 = .ok (.istore 6, 2) := by decide +kernel
theorem d_L_law_373 : decode b_L_law 373 = .ok (.aload_n 2, 1) := by decide +kernel
theorem d_L_law_374 : decode b_L_law 374 = .ok (.invokevirtual 88, 3) := by decide +kernel
theorem d_L_law_377 : decode b_L_law 377 = .ok (.iload 5, 2) := by decide +kernel
theorem d_L_law_379 : decode b_L_law 379 = .ok (.if_icmp .eq 5, 3) := by decide +kernel
theorem d_L_law_382 : decode b_L_law 382 = .ok (.iconst 0, 1) := by decide +kernel
theorem d_L_law_383 : decode b_L_law 383 = .ok (.ireturn, 1) := by decide +kernel
theorem d_L_law_384 : decode b_L_law 384 = .ok (.iload 5, 2) := by decide +kernel
theorem d_L_law_386 : decode b_L_law 386 = .ok (.ifCond .ne 22, 3) := by decide +kernel
theorem d_L_law_389 : decode b_L_law 389 = .ok (.aload_n 3, 1) := by decide +kernel
theorem d_L_law_390 : decode b_L_law 390 = .ok (.iconst 0, 1) := by decide +kernel
theorem d_L_law_391 : decode b_L_law 391 = .ok (.laload, 1) := by decide +kernel
theorem d_L_law_392 : decode b_L_law 392 = .ok (.iload 6, 2) := by decide +kernel
theorem d_L_law_394 : decode b_L_law 394 = .ok (.ifCond .eq 7, 3) := by decide +kernel
theorem d_L_law_397 : decode b_L_law 397 = .ok (.lconst 1, 1) := by decide +kernel
theorem d_L_law_398 : decode b_L_law 398 = .ok (.goto 4, 3) := by decide +kernel
theorem d_L_law_401 : decode b_L_law 401 = .ok (.lconst 0, 1) := by decide +kernel
theorem d_L_law_402 : decode b_L_law 402 = .ok (.lcmp, 1) := by decide +kernel
theorem d_L_law_403 : decode b_L_law 403 = .ok (.ifCond .eq 5, 3) := by decide +kernel
theorem d_L_law_406 : decode b_L_law 406 = .ok (.iconst 0, 1) := by decide +kernel
theorem d_L_law_407 : decode b_L_law 407 = .ok (.ireturn, 1) := by decide +kernel
theorem d_L_law_408 : decode b_L_law 408 = .ok (.goto 952, 3) := by decide +kernel
theorem d_L_law_411 : decode b_L_law 411 = .ok (.aload_n 1, 1) := by decide +kernel
theorem d_L_law_412 : decode b_L_law 412 = .ok (.aload_n 0, 1) := by decide +kernel
theorem d_L_law_413 : decode b_L_law 413 = .ok (.iload 4, 2) := by decide +kernel
theorem d_L_law_415 : decode b_L_law 415 = .ok (.iconst 1, 1) := by decide +kernel
theorem d_L_law_416 : decode b_L_law 416 = .ok (.iadd, 1) := by decide +kernel
theorem d_L_law_417 : decode b_L_law 417 = .ok (.iaload, 1) := by decide +kernel
theorem d_L_law_418 : decode b_L_law 418 = .ok (.aload_n 0, 1) := by decide +kernel
theorem d_L_law_419 : decode b_L_law 419 = .ok (.iload 4, 2) := by decide +kernel
theorem d_L_law_421 : decode b_L_law 421 = .ok (.iconst 2, 1) := by decide +kernel
theorem d_L_law_422 : decode b_L_law 422 = .ok (.iadd, 1) := by decide +kernel
theorem d_L_law_423 : decode b_L_law 423 = .ok (.iaload, 1) := by decide +kernel
theorem d_L_law_424 : decode b_L_law 424 = .ok (.aload_n 0, 1) := by decide +kernel
theorem d_L_law_425 : decode b_L_law 425 = .ok (.iload 4, 2) := by decide +kernel
theorem d_L_law_427 : decode b_L_law 427 = .ok (.iconst 3, 1) := by decide +kernel
theorem d_L_law_428 : decode b_L_law 428 = .ok (.iadd, 1) := by decide +kernel
theorem d_L_law_429 : decode b_L_law 429 = .ok (.iaload, 1) := by decide +kernel
theorem d_L_law_430 : decode b_L_law 430 = .ok (.aload_n 0, 1) := by decide +kernel
theorem d_L_law_431 : decode b_L_law 431 = .ok (.iload 4, 2) := by decide +kernel
theorem d_L_law_433 : decode b_L_law 433 = .ok (.iconst 4, 1) := by decide +kernel
theorem d_L_law_434 : decode b_L_law 434 = .ok (.iadd, 1) := by decide +kernel
theorem d_L_law_435 : decode b_L_law 435 = .ok (.iaload, 1) := by decide +kernel
theorem d_L_law_436 : decode b_L_law 436 = .ok (.aload_n 3, 1) := by decide +kernel
theorem d_L_law_437 : decode b_L_law 437 = .ok (.invokestatic 103, 3) := by decide +kernel
theorem d_L_law_440 : decode b_L_law 440 = .ok (.istore 5, 2) := by decide +kernel
theorem d_L_law_442 : decode b_L_law 442 = .ok (.aload_n 2, 1) := by decide +kernel
theorem d_L_law_443 : decode b_L_law 443 = .ok (.aload_n 0, 1) := by decide +kernel
theorem d_L_law_444 : decode b_L_law 444 = .ok (.iload 4, 2) := by decide +kernel
theorem d_L_law_446 : decode b_L_law 446 = .ok (.iconst 1, 1) := by decide +kernel
theorem d_L_law_447 : decode b_L_law 447 = .ok (.iadd, 1) := by decide +kernel
theorem d_L_law_448 : decode b_L_law 448 = .ok (.iaload, 1) := by decide +kernel
theorem d_L_law_449 : decode b_L_law 449 = .ok (.aload_n 0, 1) := by decide +kernel
theorem d_L_law_450 : decode b_L_law 450 = .ok (.iload 4, 2) := by decide +kernel
theorem d_L_law_452 : decode b_L_law 452 = .ok (.iconst 2, 1) := by decide +kernel
theorem d_L_law_453 : decode b_L_law 453 = .ok (.iadd, 1) := by decide +kernel
theorem d_L_law_454 : decode b_L_law 454 = .ok (.iaload, 1) := by decide +kernel
theorem d_L_law_455 : decode b_L_law 455 = .ok (.aload_n 0, 1) := by decide +kernel
theorem d_L_law_456 : decode b_L_law 456 = .ok (.iload 4, 2) := by decide +kernel
theorem d_L_law_458 : decode b_L_law 458 = .ok (.iconst 3, 1) := by decide +kernel
theorem d_L_law_459 : decode b_L_law 459 = .ok (.iadd, 1) := by decide +kernel
theorem d_L_law_460 : decode b_L_law 460 = .ok (.iaload, 1) := by decide +kernel
theorem d_L_law_461 : decode b_L_law 461 = .ok (.aload_n 0, 1) := by decide +kernel
theorem d_L_law_462 : decode b_L_law 462 = .ok (.iload 4, 2) := by decide +kernel
theorem d_L_law_464 : decode b_L_law 464 = .ok (.iconst 4, 1) := by decide +kernel
theorem d_L_law_465 : decode b_L_law 465 = .ok (.iadd, 1) := by decide +kernel
theorem d_L_law_466 : decode b_L_law 466 = .ok (.iaload, 1) := by decide +kernel
theorem d_L_law_467 : decode b_L_law 467 = .ok (.invokevirtual 105, 3) := by decide +kernel
theorem d_L_law_470 : decode b_L_law 470 = .ok (.istore 6, 2) := by decide +kernel
theorem d_L_law_472 : decode b_L_law 472 = .ok (.aload_n 2, 1) := by decide +kernel
theorem d_L_law_473 : decode b_L_law 473 = .ok (.invokevirtual 88, 3) := by decide +kernel
theorem d_L_law_476 : decode b_L_law 476 = .ok (.iload 5, 2) := by decide +kernel
theorem d_L_law_478 : decode b_L_law 478 = .ok (.if_icmp .eq 5, 3) := by decide +kernel
theorem d_L_law_481 : decode b_L_law 481 = .ok (.iconst 0, 1) := by decide +kernel
theorem d_L_law_482 : decode b_L_law 482 = .ok (.ireturn, 1) := by decide +kernel
theorem d_L_law_483 : decode b_L_law 483 = .ok (.iload 5, 2) := by decide +kernel
theorem d_L_law_485 : decode b_L_law 485 = .ok (.ifCond .ne 22, 3) := by decide +kernel
theorem d_L_law_488 : decode b_L_law 488 = .ok (.aload_n 3, 1) := by decide +kernel
theorem d_L_law_489 : decode b_L_law 489 = .ok (.iconst 0, 1) := by decide +kernel
theorem d_L_law_490 : decode b_L_law 490 = .ok (.laload, 1) := by decide +kernel
theorem d_L_law_491 : decode b_L_law 491 = .ok (.iload 6, 2) := by decide +kernel
theorem d_L_law_493 : decode b_L_law 493 = .ok (.ifCond .eq 7, 3) := by decide +kernel
theorem d_L_law_496 : decode b_L_law 496 = .ok (.lconst 1, 1) := by decide +kernel
theorem d_L_law_497 : decode b_L_law 497 = .ok (.goto 4, 3) := by decide +kernel
theorem d_L_law_500 : decode b_L_law 500 = .ok (.lconst 0, 1) := by decide +kernel
theorem d_L_law_501 : decode b_L_law 501 = .ok (.lcmp, 1) := by decide +kernel
theorem d_L_law_502 : decode b_L_law 502 = .ok (.ifCond .eq 5, 3) := by decide +kernel
theorem d_L_law_505 : decode b_L_law 505 = .ok (.iconst 0, 1) := by decide +kernel
theorem d_L_law_506 : decode b_L_law 506 = .ok (.ireturn, 1) := by decide +kernel
theorem d_L_law_507 : decode b_L_law 507 = .ok (.goto 853, 3) := by decide +kernel
theorem d_L_law_510 : decode b_L_law 510 = .ok (.aload_n 1, 1) := by decide +kernel
theorem d_L_law_511 : decode b_L_law 511 = .ok (.aload_n 0, 1) := by decide +kernel
theorem d_L_law_512 : decode b_L_law 512 = .ok (.iload 4, 2) := by decide +kernel
theorem d_L_law_514 : decode b_L_law 514 = .ok (.iconst 1, 1) := by decide +kernel
theorem d_L_law_515 : decode b_L_law 515 = .ok (.iadd, 1) := by decide +kernel
theorem d_L_law_516 : decode b_L_law 516 = .ok (.iaload, 1) := by decide +kernel
theorem d_L_law_517 : decode b_L_law 517 = .ok (.aload_n 0, 1) := by decide +kernel
theorem d_L_law_518 : decode b_L_law 518 = .ok (.iload 4, 2) := by decide +kernel
theorem d_L_law_520 : decode b_L_law 520 = .ok (.iconst 2, 1) := by decide +kernel
theorem d_L_law_521 : decode b_L_law 521 = .ok (.iadd, 1) := by decide +kernel
theorem d_L_law_522 : decode b_L_law 522 = .ok (.iaload, 1) := by decide +kernel
theorem d_L_law_523 : decode b_L_law 523 = .ok (.aload_n 0, 1) := by decide +kernel
theorem d_L_law_524 : decode b_L_law 524 = .ok (.iload 4, 2) := by decide +kernel
theorem d_L_law_526 : decode b_L_law 526 = .ok (.iconst 3, 1) := by decide +kernel
theorem d_L_law_527 : decode b_L_law 527 = .ok (.iadd, 1) := by decide +kernel
theorem d_L_law_528 : decode b_L_law 528 = .ok (.iaload, 1) := by decide +kernel
theorem d_L_law_529 : decode b_L_law 529 = .ok (.aload_n 0, 1) := by decide +kernel
theorem d_L_law_530 : decode b_L_law 530 = .ok (.iload 4, 2) := by decide +kernel
theorem d_L_law_532 : decode b_L_law 532 = .ok (.iconst 4, 1) := by decide +kernel
theorem d_L_law_533 : decode b_L_law 533 = .ok (.iadd, 1) := by decide +kernel
theorem d_L_law_534 : decode b_L_law 534 = .ok (.iaload, 1) := by decide +kernel
theorem d_L_law_535 : decode b_L_law 535 = .ok (.aload_n 0, 1) := by decide +kernel
theorem d_L_law_536 : decode b_L_law 536 = .ok (.iload 4, 2) := by decide +kernel
theorem d_L_law_538 : decode b_L_law 538 = .ok (.iconst 5, 1) := by decide +kernel
theorem d_L_law_539 : decode b_L_law 539 = .ok (.iadd, 1) := by decide +kernel
theorem d_L_law_540 : decode b_L_law 540 = .ok (.iaload, 1) := by decide +kernel
theorem d_L_law_541 : decode b_L_law 541 = .ok (.aload_n 3, 1) := by decide +kernel
theorem d_L_law_542 : decode b_L_law 542 = .ok (.invokestatic 106, 3) := by decide +kernel
theorem d_L_law_545 : decode b_L_law 545 = .ok (.istore 5, 2) := by decide +kernel
theorem d_L_law_547 : decode b_L_law 547 = .ok (.aload_n 2, 1) := by decide +kernel
theorem d_L_law_548 : decode b_L_law 548 = .ok (.aload_n 0, 1) := by decide +kernel
theorem d_L_law_549 : decode b_L_law 549 = .ok (.iload 4, 2) := by decide +kernel
theorem d_L_law_551 : decode b_L_law 551 = .ok (.iconst 1, 1) := by decide +kernel
theorem d_L_law_552 : decode b_L_law 552 = .ok (.iadd, 1) := by decide +kernel
theorem d_L_law_553 : decode b_L_law 553 = .ok (.iaload, 1) := by decide +kernel
theorem d_L_law_554 : decode b_L_law 554 = .ok (.aload_n 0, 1) := by decide +kernel
theorem d_L_law_555 : decode b_L_law 555 = .ok (.iload 4, 2) := by decide +kernel
theorem d_L_law_557 : decode b_L_law 557 = .ok (.iconst 2, 1) := by decide +kernel
theorem d_L_law_558 : decode b_L_law 558 = .ok (.iadd, 1) := by decide +kernel
theorem d_L_law_559 : decode b_L_law 559 = .ok (.iaload, 1) := by decide +kernel
theorem d_L_law_560 : decode b_L_law 560 = .ok (.aload_n 0, 1) := by decide +kernel
theorem d_L_law_561 : decode b_L_law 561 = .ok (.iload 4, 2) := by decide +kernel
theorem d_L_law_563 : decode b_L_law 563 = .ok (.iconst 3, 1) := by decide +kernel
theorem d_L_law_564 : decode b_L_law 564 = .ok (.iadd, 1) := by decide +kernel
theorem d_L_law_565 : decode b_L_law 565 = .ok (.iaload, 1) := by decide +kernel
theorem d_L_law_566 : decode b_L_law 566 = .ok (.aload_n 0, 1) := by decide +kernel
theorem d_L_law_567 : decode b_L_law 567 = .ok (.iload 4, 2) := by decide +kernel
theorem d_L_law_569 : decode b_L_law 569 = .ok (.iconst 4, 1) := by decide +kernel
theorem d_L_law_570 : decode b_L_law 570 = .ok (.iadd, 1) := by decide +kernel
theorem d_L_law_571 : decode b_L_law 571 = .ok (.iaload, 1) := by decide +kernel
theorem d_L_law_572 : decode b_L_law 572 = .ok (.aload_n 0, 1) := by decide +kernel
theorem d_L_law_573 : decode b_L_law 573 = .ok (.iload 4, 2) := by decide +kernel
theorem d_L_law_575 : decode b_L_law 575 = .ok (.iconst 5, 1) := by decide +kernel
theorem d_L_law_576 : decode b_L_law 576 = .ok (.iadd, 1) := by decide +kernel
theorem d_L_law_577 : decode b_L_law 577 = .ok (.iaload, 1) := by decide +kernel
theorem d_L_law_578 : decode b_L_law 578 = .ok (.invokevirtual 109, 3) := by decide +kernel
theorem d_L_law_581 : decode b_L_law 581 = .ok (.istore 6, 2) := by decide +kernel
theorem d_L_law_583 : decode b_L_law 583 = .ok (.aload_n 2, 1) := by decide +kernel
theorem d_L_law_584 : decode b_L_law 584 = .ok (.invokevirtual 88, 3) := by decide +kernel
theorem d_L_law_587 : decode b_L_law 587 = .ok (.iload 5, 2) := by decide +kernel
theorem d_L_law_589 : decode b_L_law 589 = .ok (.if_icmp .eq 5, 3) := by decide +kernel
theorem d_L_law_592 : decode b_L_law 592 = .ok (.iconst 0, 1) := by decide +kernel
theorem d_L_law_593 : decode b_L_law 593 = .ok (.ireturn, 1) := by decide +kernel
theorem d_L_law_594 : decode b_L_law 594 = .ok (.iload 5, 2) := by decide +kernel
theorem d_L_law_596 : decode b_L_law 596 = .ok (.ifCond .ne 15, 3) := by decide +kernel
theorem d_L_law_599 : decode b_L_law 599 = .ok (.aload_n 3, 1) := by decide +kernel
theorem d_L_law_600 : decode b_L_law 600 = .ok (.iconst 0, 1) := by decide +kernel
theorem d_L_law_601 : decode b_L_law 601 = .ok (.laload, 1) := by decide +kernel
theorem d_L_law_602 : decode b_L_law 602 = .ok (.iload 6, 2) := by decide +kernel
theorem d_L_law_604 : decode b_L_law 604 = .ok (.i2l, 1) := by decide +kernel
theorem d_L_law_605 : decode b_L_law 605 = .ok (.lcmp, 1) := by decide +kernel
theorem d_L_law_606 : decode b_L_law 606 = .ok (.ifCond .eq 5, 3) := by decide +kernel
theorem d_L_law_609 : decode b_L_law 609 = .ok (.iconst 0, 1) := by decide +kernel
theorem d_L_law_610 : decode b_L_law 610 = .ok (.ireturn, 1) := by decide +kernel
theorem d_L_law_611 : decode b_L_law 611 = .ok (.goto 749, 3) := by decide +kernel
theorem d_L_law_614 : decode b_L_law 614 = .ok (.aload_n 1, 1) := by decide +kernel
theorem d_L_law_615 : decode b_L_law 615 = .ok (.aload_n 0, 1) := by decide +kernel
theorem d_L_law_616 : decode b_L_law 616 = .ok (.iload 4, 2) := by decide +kernel
theorem d_L_law_618 : decode b_L_law 618 = .ok (.iconst 1, 1) := by decide +kernel
theorem d_L_law_619 : decode b_L_law 619 = .ok (.iadd, 1) := by decide +kernel
theorem d_L_law_620 : decode b_L_law 620 = .ok (.iaload, 1) := by decide +kernel
theorem d_L_law_621 : decode b_L_law 621 = .ok (.aload_n 0, 1) := by decide +kernel
theorem d_L_law_622 : decode b_L_law 622 = .ok (.iload 4, 2) := by decide +kernel
theorem d_L_law_624 : decode b_L_law 624 = .ok (.iconst 2, 1) := by decide +kernel
theorem d_L_law_625 : decode b_L_law 625 = .ok (.iadd, 1) := by decide +kernel
theorem d_L_law_626 : decode b_L_law 626 = .ok (.iaload, 1) := by decide +kernel
theorem d_L_law_627 : decode b_L_law 627 = .ok (.aload_n 0, 1) := by decide +kernel
theorem d_L_law_628 : decode b_L_law 628 = .ok (.iload 4, 2) := by decide +kernel
theorem d_L_law_630 : decode b_L_law 630 = .ok (.iconst 3, 1) := by decide +kernel
theorem d_L_law_631 : decode b_L_law 631 = .ok (.iadd, 1) := by decide +kernel
theorem d_L_law_632 : decode b_L_law 632 = .ok (.iaload, 1) := by decide +kernel
theorem d_L_law_633 : decode b_L_law 633 = .ok (.invokestatic 110, 3) := by decide +kernel
theorem d_L_law_636 : decode b_L_law 636 = .ok (.istore 5, 2) := by decide +kernel
theorem d_L_law_638 : decode b_L_law 638 = .ok (.aload_n 2, 1) := by decide +kernel
theorem d_L_law_639 : decode b_L_law 639 = .ok (.aload_n 0, 1) := by decide +kernel
theorem d_L_law_640 : decode b_L_law 640 = .ok (.iload 4, 2) := by decide +kernel
theorem d_L_law_642 : decode b_L_law 642 = .ok (.iconst 1, 1) := by decide +kernel
theorem d_L_law_643 : decode b_L_law 643 = .ok (.iadd, 1) := by decide +kernel
theorem d_L_law_644 : decode b_L_law 644 = .ok (.iaload, 1) := by decide +kernel
theorem d_L_law_645 : decode b_L_law 645 = .ok (.aload_n 0, 1) := by decide +kernel
theorem d_L_law_646 : decode b_L_law 646 = .ok (.iload 4, 2) := by decide +kernel
theorem d_L_law_648 : decode b_L_law 648 = .ok (.iconst 2, 1) := by decide +kernel
theorem d_L_law_649 : decode b_L_law 649 = .ok (.iadd, 1) := by decide +kernel
theorem d_L_law_650 : decode b_L_law 650 = .ok (.iaload, 1) := by decide +kernel
theorem d_L_law_651 : decode b_L_law 651 = .ok (.aload_n 0, 1) := by decide +kernel
theorem d_L_law_652 : decode b_L_law 652 = .ok (.iload 4, 2) := by decide +kernel
theorem d_L_law_654 : decode b_L_law 654 = .ok (.iconst 3, 1) := by decide +kernel
theorem d_L_law_655 : decode b_L_law 655 = .ok (.iadd, 1) := by decide +kernel
theorem d_L_law_656 : decode b_L_law 656 = .ok (.iaload, 1) := by decide +kernel
theorem d_L_law_657 : decode b_L_law 657 = .ok (.invokevirtual 112, 3) := by decide +kernel
theorem d_L_law_660 : decode b_L_law 660 = .ok (.aload_n 2, 1) := by decide +kernel
theorem d_L_law_661 : decode b_L_law 661 = .ok (.invokevirtual 88, 3) := by decide +kernel
theorem d_L_law_664 : decode b_L_law 664 = .ok (.iload 5, 2) := by decide +kernel
theorem d_L_law_666 : decode b_L_law 666 = .ok (.if_icmp .eq 5, 3) := by decide +kernel
theorem d_L_law_669 : decode b_L_law 669 = .ok (.iconst 0, 1) := by decide +kernel
theorem d_L_law_670 : decode b_L_law 670 = .ok (.ireturn, 1) := by decide +kernel
theorem d_L_law_671 : decode b_L_law 671 = .ok (.goto 689, 3) := by decide +kernel
theorem d_L_law_674 : decode b_L_law 674 = .ok (.aload_n 1, 1) := by decide +kernel
theorem d_L_law_675 : decode b_L_law 675 = .ok (.aload_n 0, 1) := by decide +kernel
theorem d_L_law_676 : decode b_L_law 676 = .ok (.iload 4, 2) := by decide +kernel
theorem d_L_law_678 : decode b_L_law 678 = .ok (.iconst 1, 1) := by decide +kernel
theorem d_L_law_679 : decode b_L_law 679 = .ok (.iadd, 1) := by decide +kernel
theorem d_L_law_680 : decode b_L_law 680 = .ok (.iaload, 1) := by decide +kernel
theorem d_L_law_681 : decode b_L_law 681 = .ok (.aload_n 0, 1) := by decide +kernel
theorem d_L_law_682 : decode b_L_law 682 = .ok (.iload 4, 2) := by decide +kernel
theorem d_L_law_684 : decode b_L_law 684 = .ok (.iconst 2, 1) := by decide +kernel
theorem d_L_law_685 : decode b_L_law 685 = .ok (.iadd, 1) := by decide +kernel
theorem d_L_law_686 : decode b_L_law 686 = .ok (.iaload, 1) := by decide +kernel
theorem d_L_law_687 : decode b_L_law 687 = .ok (.aload_n 0, 1) := by decide +kernel
theorem d_L_law_688 : decode b_L_law 688 = .ok (.iload 4, 2) := by decide +kernel
theorem d_L_law_690 : decode b_L_law 690 = .ok (.iconst 3, 1) := by decide +kernel
theorem d_L_law_691 : decode b_L_law 691 = .ok (.iadd, 1) := by decide +kernel
theorem d_L_law_692 : decode b_L_law 692 = .ok (.iaload, 1) := by decide +kernel
theorem d_L_law_693 : decode b_L_law 693 = .ok (.aload_n 0, 1) := by decide +kernel
theorem d_L_law_694 : decode b_L_law 694 = .ok (.iload 4, 2) := by decide +kernel
theorem d_L_law_696 : decode b_L_law 696 = .ok (.iconst 4, 1) := by decide +kernel
theorem d_L_law_697 : decode b_L_law 697 = .ok (.iadd, 1) := by decide +kernel
theorem d_L_law_698 : decode b_L_law 698 = .ok (.iaload, 1) := by decide +kernel
theorem d_L_law_699 : decode b_L_law 699 = .ok (.aload_n 3, 1) := by decide +kernel
theorem d_L_law_700 : decode b_L_law 700 = .ok (.invokestatic 113, 3) := by decide +kernel
theorem d_L_law_703 : decode b_L_law 703 = .ok (.istore 5, 2) := by decide +kernel
theorem d_L_law_705 : decode b_L_law 705 = .ok (.aload_n 2, 1) := by decide +kernel
theorem d_L_law_706 : decode b_L_law 706 = .ok (.aload_n 0, 1) := by decide +kernel
theorem d_L_law_707 : decode b_L_law 707 = .ok (.iload 4, 2) := by decide +kernel
theorem d_L_law_709 : decode b_L_law 709 = .ok (.iconst 1, 1) := by decide +kernel
theorem d_L_law_710 : decode b_L_law 710 = .ok (.iadd, 1) := by decide +kernel
theorem d_L_law_711 : decode b_L_law 711 = .ok (.iaload, 1) := by decide +kernel
theorem d_L_law_712 : decode b_L_law 712 = .ok (.aload_n 0, 1) := by decide +kernel
theorem d_L_law_713 : decode b_L_law 713 = .ok (.iload 4, 2) := by decide +kernel
theorem d_L_law_715 : decode b_L_law 715 = .ok (.iconst 2, 1) := by decide +kernel
theorem d_L_law_716 : decode b_L_law 716 = .ok (.iadd, 1) := by decide +kernel
theorem d_L_law_717 : decode b_L_law 717 = .ok (.iaload, 1) := by decide +kernel
