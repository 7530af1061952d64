abbrev b_L_law : ByteArray := code
theorem d_L_law_0 : decode b_L_law 0 = .ok (.new 8, 3) := by decide +kernel
theorem d_L_law_3 : decode b_L_law 3 = .ok (.dup, 1) := by decide +kernel
theorem d_L_law_4 : decode b_L_law 4 = .ok (.invokespecial 77, 3) := by decide +kernel
theorem d_L_law_7 : decode b_L_law 7 = .ok (.astore_n 1, 1) := by decide +kernel
theorem d_L_law_8 : decode b_L_law 8 = .ok (.new 78, 3) := by decide +kernel
theorem d_L_law_11 : decode b_L_law 11 = .ok (.dup, 1) := by decide +kernel
theorem d_L_law_12 : decode b_L_law 12 = .ok (.invokespecial 80, 3) := by decide +kernel
theorem d_L_law_15 : decode b_L_law 15 = .ok (.astore_n 2, 1) := by decide +kernel
theorem d_L_law_16 : decode b_L_law 16 = .ok (.iconst 1, 1) := by decide +kernel
theorem d_L_law_17 : decode b_L_law 17 = .ok (.newarray .long, 2) := by decide +kernel
theorem d_L_law_19 : decode b_L_law 19 = .ok (.astore_n 3, 1) := by decide +kernel
theorem d_L_law_20 : decode b_L_law 20 = .ok (.iconst 0, 1) := by decide +kernel
theorem d_L_law_21 : decode b_L_law 21 = .ok (.istore 4, 2) := by decide +kernel
theorem d_L_law_23 : decode b_L_law 23 = .ok (.iload 4, 2) := by decide +kernel
theorem d_L_law_25 : decode b_L_law 25 = .ok (.aload_n 0, 1) := by decide +kernel
theorem d_L_law_26 : decode b_L_law 26 = .ok (.arraylength, 1) := by decide +kernel
theorem d_L_law_27 : decode b_L_law 27 = .ok (.iconst 5, 1) := by decide +kernel
theorem d_L_law_28 : decode b_L_law 28 = .ok (.isub, 1) := by decide +kernel
theorem d_L_law_29 : decode b_L_law 29 = .ok (.if_icmp .gt 1338, 3) := by decide +kernel
theorem d_L_law_32 : decode b_L_law 32 = .ok (.aload_n 0, 1) := by decide +kernel
theorem d_L_law_33 : decode b_L_law 33 = .ok (.iload 4, 2) := by decide +kernel
theorem d_L_law_35 : decode b_L_law 35 = .ok (.iaload, 1) := by decide +kernel
theorem d_L_law_36 : decode b_L_law 36 = .ok (.bipush 31, 2) := by decide +kernel
theorem d_L_law_38 : decode b_L_law 38 = .ok (.iand, 1) := by decide +kernel
theorem d_L_law_39 : decode b_L_law 39 = .ok (.tableswitch 1322 0 18 #[89, 145, 225, 305, 365, 433, 493, 565, 621, 689, 769, 849, 909, 977, 1037, 1097, 1165, 1241, 1309], 89) := by decide +kernel
theorem d_L_law_128 : decode b_L_law 128 = .ok (.aload_n 1, 1) := by decide +kernel
theorem d_L_law_129 : decode b_L_law 129 = .ok (.aload_n 0, 1) := by decide +kernel
theorem d_L_law_130 : decode b_L_law 130 = .ok (.iload 4, 2) := by decide +kernel
theorem d_L_law_132 : decode b_L_law 132 = .ok (.iconst 1, 1) := by decide +kernel
theorem d_L_law_133 : decode b_L_law 133 = .ok (.iadd, 1) := by decide +kernel
theorem d_L_law_134 : decode b_L_law 134 = .ok (.iaload, 1) := by decide +kernel
theorem d_L_law_135 : decode b_L_law 135 = .ok (.aload_n 3, 1) := by decide +kernel
theorem d_L_law_136 : decode b_L_law 136 = .ok (.invokestatic 81, 3) := by decide +kernel
theorem d_L_law_139 : decode b_L_law 139 = .ok (.istore 5, 2) := by decide +kernel
theorem d_L_law_141 : decode b_L_law 141 = .ok (.aload_n 2, 1) := by decide +kernel
theorem d_L_law_142 : decode b_L_law 142 = .ok (.aload_n 0, 1) := by decide +kernel
theorem d_L_law_143 : decode b_L_law 143 = .ok (.iload 4, 2) := by decide +kernel
theorem d_L_law_145 : decode b_L_law 145 = .ok (.iconst 1, 1) := by decide +kernel
theorem d_L_law_146 : decode b_L_law 146 = .ok (.iadd, 1) := by decide +kernel
theorem d_L_law_147 : decode b_L_law 147 = .ok (.iaload, 1) := by decide +kernel
theorem d_L_law_148 : decode b_L_law 148 = .ok (.invokevirtual 86, 3) := by decide +kernel
theorem d_L_law_151 : decode b_L_law 151 = .ok (.istore 6, 2) := by decide +kernel
theorem d_L_law_153 : decode b_L_law 153 = .ok (.aload_n 2, 1) := by decide +kernel
theorem d_L_law_154 : decode b_L_law 154 = .ok (.invokevirtual 87, 3) := by decide +kernel
theorem d_L_law_157 : decode b_L_law 157 = .ok (.iload 5, 2) := by decide +kernel
theorem d_L_law_159 : decode b_L_law 159 = .ok (.if_icmp .eq 5, 3) := by decide +kernel
theorem d_L_law_162 : decode b_L_law 162 = .ok (.iconst 0, 1) := by decide +kernel
theorem d_L_law_163 : decode b_L_law 163 = .ok (.ireturn, 1) := by decide +kernel
theorem d_L_law_164 : decode b_L_law 164 = .ok (.iload 5, 2) := by decide +kernel
theorem d_L_law_166 : decode b_L_law 166 = .ok (.ifCond .ne 15, 3) := by decide +kernel
theorem d_L_law_169 : decode b_L_law 169 = .ok (.aload_n 3, 1) := by decide +kernel
theorem d_L_law_170 : decode b_L_law 170 = .ok (.iconst 0, 1) := by decide +kernel
theorem d_L_law_171 : decode b_L_law 171 = .ok (.laload, 1) := by decide +kernel
theorem d_L_law_172 : decode b_L_law 172 = .ok (.iload 6, 2) := by decide +kernel
theorem d_L_law_174 : decode b_L_law 174 = .ok (.i2l, 1) := by decide +kernel
theorem d_L_law_175 : decode b_L_law 175 = .ok (.lcmp, 1) := by decide +kernel
theorem d_L_law_176 : decode b_L_law 176 = .ok (.ifCond .eq 5, 3) := by decide +kernel
theorem d_L_law_179 : decode b_L_law 179 = .ok (.iconst 0, 1) := by decide +kernel
theorem d_L_law_180 : decode b_L_law 180 = .ok (.ireturn, 1) := by decide +kernel
theorem d_L_law_181 : decode b_L_law 181 = .ok (.goto 1180, 3) := by decide +kernel
theorem d_L_law_184 : decode b_L_law 184 = .ok (.aload_n 1, 1) := by decide +kernel
theorem d_L_law_185 : decode b_L_law 185 = .ok (.aload_n 0, 1) := by decide +kernel
theorem d_L_law_186 : decode b_L_law 186 = .ok (.iload 4, 2) := by decide +kernel
theorem d_L_law_188 : decode b_L_law 188 = .ok (.iconst 1, 1) := by decide +kernel
theorem d_L_law_189 : decode b_L_law 189 = .ok (.iadd, 1) := by decide +kernel
theorem d_L_law_190 : decode b_L_law 190 = .ok (.iaload, 1) := by decide +kernel
theorem d_L_law_191 : decode b_L_law 191 = .ok (.aload_n 0, 1) := by decide +kernel
theorem d_L_law_192 : decode b_L_law 192 = .ok (.iload 4, 2) := by decide +kernel
theorem d_L_law_194 : decode b_L_law 194 = .ok (.iconst 2, 1) := by decide +kernel
theorem d_L_law_195 : decode b_L_law 195 = .ok (.iadd, 1) := by decide +kernel
theorem d_L_law_196 : decode b_L_law 196 = .ok (.iaload, 1) := by decide +kernel
theorem d_L_law_197 : decode b_L_law 197 = .ok (.aload_n 0, 1) := by decide +kernel
theorem d_L_law_198 : decode b_L_law 198 = .ok (.iload 4, 2) := by decide +kernel
theorem d_L_law_200 : decode b_L_law 200 = .ok (.iconst 3, 1) := by decide +kernel
theorem d_L_law_201 : decode b_L_law 201 = .ok (.iadd, 1) := by decide +kernel
theorem d_L_law_202 : decode b_L_law 202 = .ok (.iaload, 1) := by decide +kernel
theorem d_L_law_203 : decode b_L_law 203 = .ok (.aload_n 3, 1) := by decide +kernel
theorem d_L_law_204 : decode b_L_law 204 = .ok (.invokestatic 91, 3) := by decide +kernel
theorem d_L_law_207 : decode b_L_law 207 = .ok (.istore 5, 2) := by decide +kernel
theorem d_L_law_209 : decode b_L_law 209 = .ok (.aload_n 2, 1) := by decide +kernel
theorem d_L_law_210 : decode b_L_law 210 = .ok (.aload_n 0, 1) := by decide +kernel
theorem d_L_law_211 : decode b_L_law 211 = .ok (.iload 4, 2) := by decide +kernel
theorem d_L_law_213 : decode b_L_law 213 = .ok (.iconst 1, 1) := by decide +kernel
theorem d_L_law_214 : decode b_L_law 214 = .ok (.iadd, 1) := by decide +kernel
theorem d_L_law_215 : decode b_L_law 215 = .ok (.iaload, 1) := by decide +kernel
theorem d_L_law_216 : decode b_L_law 216 = .ok (.aload_n 0, 1) := by decide +kernel
theorem d_L_law_217 : decode b_L_law 217 = .ok (.iload 4, 2) := by decide +kernel
theorem d_L_law_219 : decode b_L_law 219 = .ok (.iconst 2, 1) := by decide +kernel
theorem d_L_law_220 : decode b_L_law 220 = .ok (.iadd, 1) := by decide +kernel
theorem d_L_law_221 : decode b_L_law 221 = .ok (.iaload, 1) := by decide +kernel
theorem d_L_law_222 : decode b_L_law 222 = .ok (.aload_n 0, 1) := by decide +kernel
theorem d_L_law_223 : decode b_L_law 223 = .ok (.iload 4, 2) := by decide +kernel
theorem d_L_law_225 : decode b_L_law 225 = .ok (.iconst 3, 1) := by decide +kernel
theorem d_L_law_226 : decode b_L_law 226 = .ok (.iadd, 1) := by decide +kernel
theorem d_L_law_227 : decode b_L_law 227 = .ok (.iaload, 1) := by decide +kernel
theorem d_L_law_228 : decode b_L_law 228 = .ok (.invokevirtual 94, 3) := by decide +kernel
theorem d_L_law_231 : decode b_L_law 231 = .ok (.istore 6, 2) := by decide +kernel
theorem d_L_law_233 : decode b_L_law 233 = .ok (.aload_n 2, 1) := by decide +kernel
theorem d_L_law_234 : decode b_L_law 234 = .ok (.invokevirtual 87, 3) := by decide +kernel
theorem d_L_law_237 : decode b_L_law 237 = .ok (.iload 5, 2) := by decide +kernel
theorem d_L_law_239 : decode b_L_law 239 = .ok (.if_icmp .eq 5, 3) := by decide +kernel
theorem d_L_law_242 : decode b_L_law 242 = .ok (.iconst 0, 1) := by decide +kernel
theorem d_L_law_243 : decode b_L_law 243 = .ok (.ireturn, 1) := by decide +kernel
theorem d_L_law_244 : decode b_L_law 244 = .ok (.iload 5, 2) := by decide +kernel
theorem d_L_law_246 : decode b_L_law 246 = .ok (.ifCond .ne 15, 3) := by decide +kernel
theorem d_L_law_249 : decode b_L_law 249 = .ok (.aload_n 3, 1) := by decide +kernel
theorem d_L_law_250 : decode b_L_law 250 = .ok (.iconst 0, 1) := by decide +kernel
theorem d_L_law_251 : decode b_L_law 251 = .ok (.laload, 1) := by decide +kernel
theorem d_L_law_252 : decode b_L_law 252 = .ok (.iload 6, 2) := by decide +kernel
theorem d_L_law_254 : decode b_L_law 254 = .ok (.i2l, 1) := by decide +kernel
theorem d_L_law_255 : decode b_L_law 255 = .ok (.lcmp, 1) := by decide +kernel
theorem d_L_law_256 : decode b_L_law 256 = .ok (.ifCond .eq 5, 3) := by decide +kernel
theorem d_L_law_259 : decode b_L_law 259 = .ok (.iconst 0, 1) := by decide +kernel
theorem d_L_law_260 : decode b_L_law 260 = .ok (.ireturn, 1) := by decide +kernel
theorem d_L_law_261 : decode b_L_law 261 = .ok (.goto 1100, 3) := by decide +kernel
theorem d_L_law_264 : decode b_L_law 264 = .ok (.aload_n 1, 1) := by decide +kernel
theorem d_L_law_265 : decode b_L_law 265 = .ok (.aload_n 0, 1) := by decide +kernel
theorem d_L_law_266 : decode b_L_law 266 = .ok (.iload 4, 2) := by decide +kernel
theorem d_L_law_268 : decode b_L_law 268 = .ok (.iconst 1, 1) := by decide +kernel
theorem d_L_law_269 : decode b_L_law 269 = .ok (.iadd, 1) := by decide +kernel
theorem d_L_law_270 : decode b_L_law 270 = .ok (.iaload, 1) := by decide +kernel
theorem d_L_law_271 : decode b_L_law 271 = .ok (.aload_n 0, 1) := by decide +kernel
theorem d_L_law_272 : decode b_L_law 272 = .ok (.iload 4, 2) := by decide +kernel
theorem d_L_law_274 : decode b_L_law 274 = .ok (.iconst 2, 1) := by decide +kernel
theorem d_L_law_275 : decode b_L_law 275 = .ok (.iadd, 1) := by decide +kernel
theorem d_L_law_276 : decode b_L_law 276 = .ok (.iaload, 1) := by decide +kernel
theorem d_L_law_277 : decode b_L_law 277 = .ok (.aload_n 0, 1) := by decide +kernel
theorem d_L_law_278 : decode b_L_law 278 = .ok (.iload 4, 2) := by decide +kernel
theorem d_L_law_280 : decode b_L_law 280 = .ok (.iconst 3, 1) := by decide +kernel
theorem d_L_law_281 : decode b_L_law 281 = .ok (.iadd, 1) := by decide +kernel
theorem d_L_law_282 : decode b_L_law 282 = .ok (.iaload, 1) := by decide +kernel
theorem d_L_law_283 : decode b_L_law 283 = .ok (.aload_n 3, 1) := by decide +kernel
theorem d_L_law_284 : decode b_L_law 284 = .ok (.invokestatic 95, 3) := by decide +kernel
theorem d_L_law_287 : decode b_L_law 287 = .ok (.istore 5, 2) := by decide +kernel
theorem d_L_law_289 : decode b_L_law 289 = .ok (.aload_n 2, 1) := by decide +kernel
theorem d_L_law_290 : decode b_L_law 290 = .ok (.aload_n 0, 1) := by decide +kernel
theorem d_L_law_291 : decode b_L_law 291 = .ok (.iload 4, 2) := by decide +kernel
theorem d_L_law_293 : decode b_L_law 293 = .ok (.iconst 1, 1) := by decide +kernel
theorem d_L_law_294 : decode b_L_law 294 = .ok (.iadd, 1) := by decide +kernel
theorem d_L_law_295 : decode b_L_law 295 = .ok (.iaload, 1) := by decide +kernel
theorem d_L_law_296 : decode b_L_law 296 = .ok (.aload_n 0, 1) := by decide +kernel
theorem d_L_law_297 : decode b_L_law 297 = .ok (.iload 4, 2) := by decide +kernel
theorem d_L_law_299 : decode b_L_law 299 = .ok (.iconst 2, 1) := by decide +kernel
theorem d_L_law_300 : decode b_L_law 300 = .ok (.iadd, 1) := by decide +kernel
theorem d_L_law_301 : decode b_L_law 301 = .ok (.iaload, 1) := by decide +kernel
theorem d_L_law_302 : decode b_L_law 302 = .ok (.aload_n 0, 1) := by decide +kernel
theorem d_L_law_303 : decode b_L_law 303 = .ok (.iload 4, 2) := by decide +kernel
theorem d_L_law_305 : decode b_L_law 305 = .ok (.iconst 3, 1) := by decide +kernel
theorem d_L_law_306 : decode b_L_law 306 = .ok (.iadd, 1) := by decide +kernel
theorem d_L_law_307 : decode b_L_law 307 = .ok (.iaload, 1) := by decide +kernel
theorem d_L_law_308 : decode b_L_law 308 = .ok (.invokevirtual 97, 3) := by decide +kernel
theorem d_L_law_311 : decode b_L_law 311 = .ok (.istore 6, 2) := by decide +kernel
theorem d_L_law_313 : decode b_L_law 313 = .ok (.aload_n 2, 1) := by decide +kernel
theorem d_L_law_314 : decode b_L_law 314 = .ok (.invokevirtual 87, 3) := by decide +kernel
theorem d_L_law_317 : decode b_L_law 317 = .ok (.iload 5, 2) := by decide +kernel
theorem d_L_law_319 : decode b_L_law 319 = .ok (.if_icmp .eq 5, 3) := by decide +kernel
theorem d_L_law_322 : decode b_L_law 322 = .ok (.iconst 0, 1) := by decide +kernel
theorem d_L_law_323 : decode b_L_law 323 = .ok (.ireturn, 1) := by decide +kernel
theorem d_L_law_324 : decode b_L_law 324 = .ok (.iload 5, 2) := by decide +kernel
theorem d_L_law_326 : decode b_L_law 326 = .ok (.ifCond .ne 15, 3) := by decide +kernel
theorem d_L_law_329 : decode b_L_law 329 = .ok (.aload_n 3, 1) := by decide +kernel
theorem d_L_law_330 : decode b_L_law 330 = .ok (.iconst 0, 1) := by decide +kernel
theorem d_L_law_331 : decode b_L_law 331 = .ok (.laload, 1) := by decide +kernel
theorem d_L_law_332 : decode b_L_law 332 = .ok (.iload 6, 2) := by decide +kernel
theorem d_L_law_334 : decode b_L_law 334 = .ok (.i2l, 1) := by decide +kernel
theorem d_L_law_335 : decode b_L_law 335 = .ok (.lcmp, 1) := by decide +kernel
theorem d_L_law_336 : decode b_L_law 336 = .ok (.ifCond .eq 5, 3) := by decide +kernel
theorem d_L_law_339 : decode b_L_law 339 = .ok (.iconst 0, 1) := by decide +kernel
theorem d_L_law_340 : decode b_L_law 340 = .ok (.ireturn, 1) := by decide +kernel
theorem d_L_law_341 : decode b_L_law 341 = .ok (.goto 1020, 3) := by decide +kernel
theorem d_L_law_344 : decode b_L_law 344 = .ok (.aload_n 1, 1) := by decide +kernel
theorem d_L_law_345 : decode b_L_law 345 = .ok (.aload_n 0, 1) := by decide +kernel
theorem d_L_law_346 : decode b_L_law 346 = .ok (.iload 4, 2) := by decide +kernel
theorem d_L_law_348 : decode b_L_law 348 = .ok (.iconst 1, 1) := by decide +kernel
theorem d_L_law_349 : decode b_L_law 349 = .ok (.iadd, 1) := by decide +kernel
theorem d_L_law_350 : decode b_L_law 350 = .ok (.iaload, 1) := by decide +kernel
theorem d_L_law_351 : decode b_L_law 351 = .ok (.aload_n 0, 1) := by decide +kernel
theorem d_L_law_352 : decode b_L_law 352 = .ok (.iload 4, 2) := by decide +kernel
theorem d_L_law_354 : decode b_L_law 354 = .ok (.iconst 2, 1) := by decide +kernel
theorem d_L_law_355 : decode b_L_law 355 = .ok (.iadd, 1) := by decide +kernel
theorem d_L_law_356 : decode b_L_law 356 = .ok (.iaload, 1) := by decide +kernel
theorem d_L_law_357 : decode b_L_law 357 = .ok (.aload_n 0, 1) := by decide +kernel
theorem d_L_law_358 : decode b_L_law 358 = .ok (.iload 4, 2) := by decide +kernel
theorem d_L_law_360 : decode b_L_law 360 = .ok (.iconst 3, 1) := by decide +kernel
theorem d_L_law_361 : decode b_L_law 361 = .ok (.iadd, 1) := by decide +kernel
theorem d_L_law_362 : decode b_L_law 362 = .ok (.iaload, 1) := by decide +kernel
theorem d_L_law_363 : decode b_L_law 363 = .ok (.invokestatic 98, 3) := by decide +kernel
theorem d_L_law_366 : decode b_L_law 366 = .ok (.istore 5, 2) := by decide +kernel
theorem d_L_law_368 : decode b_L_law 368 = .ok (.aload_n 2, 1) := by decide +kernel
theorem d_L_law_369 : decode b_L_law 369 = .ok (.aload_n 0, 1) := by decide +kernel
theorem d_L_law_370 : decode b_L_law 370 = .ok (.iload 4, 2) := by decide +kernel
theorem d_L_law_372 : decode b_L_law 372 = .ok (.iconst 1, 1) := by decide +kernel
theorem d_L_law_373 : decode b_L_law 373 = .ok (.iadd, 1) := by decide +kernel
theorem d_L_law_374 : decode b_L_law 374 = .ok (.iaload, 1) := by decide +kernel
theorem d_L_law_375 : decode b_L_law 375 = .ok (.aload_n 0, 1) := by decide +kernel
theorem d_L_law_376 : decode b_L_law 376 = .ok (.iload 4, 2) := by decide +kernel
theorem d_L_law_378 : decode b_L_law 378 = .ok (.iconst 2, 1) := by decide +kernel
theorem d_L_law_379 : decode b_L_law 379 = .ok (.iadd, 1) := by decide +kernel
theorem d_L_law_380 : decode b_L_law 380 = .ok (.iaload, 1) := by decide +kernel
theorem d_L_law_381 : decode b_L_law 381 = .ok (.aload_n 0, 1) := by decide +kernel
theorem d_L_law_382 : decode b_L_law 382 = .ok (.iload 4, 2) := by decide +kernel
theorem d_L_law_384 : decode b_L_law 384 = .ok (.iconst 3, 1) := by decide +kernel
theorem d_L_law_385 : decode b_L_law 385 = .ok (.iadd, 1) := by decide +kernel
theorem d_L_law_386 : decode b_L_law 386 = .ok (.iaload, 1) := by decide +kernel
theorem d_L_law_387 : decode b_L_law 387 = .ok (.invokevirtual 101, 3) := by decide +kernel
theorem d_L_law_390 : decode b_L_law 390 = .ok (.aload_n 2, 1) := by decide +kernel
theorem d_L_law_391 : decode b_L_law 391 = .ok (.invokevirtual 87, 3) := by decide +kernel
theorem d_L_law_394 : decode b_L_law 394 = .ok (.iload 5, 2) := by decide +kernel
theorem d_L_law_396 : decode b_L_law 396 = .ok (.if_icmp .eq 5, 3) := by decide +kernel
theorem d_L_law_399 : decode b_L_law 399 = .ok (.iconst 0, 1) := by decide +kernel
theorem d_L_law_400 : decode b_L_law 400 = .ok (.ireturn, 1) := by decide +kernel
theorem d_L_law_401 : decode b_L_law 401 = .ok (.goto 960, 3) := by decide +kernel
theorem d_L_law_404 : decode b_L_law 404 = .ok (.aload_n 1, 1) := by decide +kernel
theorem d_L_law_405 : decode b_L_law 405 = .ok (.aload_n 0, 1) := by decide +kernel
theorem d_L_law_406 : decode b_L_law 406 = .ok (.iload 4, 2) := by decide +kernel
theorem d_L_law_408 : decode b_L_law 408 = .ok (.iconst 1, 1) := by decide +kernel
theorem d_L_law_409 : decode b_L_law 409 = .ok (.iadd, 1) := by decide +kernel
theorem d_L_law_410 : decode b_L_law 410 = .ok (.iaload, 1) := by decide +kernel
theorem d_L_law_411 : decode b_L_law 411 = .ok (.aload_n 0, 1) := by decide +kernel