theorem d_La_0 : decode code 0 = .ok (.new 7, 3) := by decide +kernel
theorem d_La_3 : decode code 3 = .ok (.dup, 1) := by decide +kernel
theorem d_La_4 : decode code 4 = .ok (.invokespecial 9, 3) := by decide +kernel
theorem d_La_7 : decode code 7 = .ok (.astore_n 1, 1) := by decide +kernel
theorem d_La_8 : decode code 8 = .ok (.new 10, 3) := by decide +kernel
theorem d_La_11 : decode code 11 = .ok (.dup, 1) := by decide +kernel
theorem d_La_12 : decode code 12 = .ok (.invokespecial 12, 3) := by decide +kernel
theorem d_La_15 : decode code 15 = .ok (.astore_n 2, 1) := by decide +kernel
theorem d_La_16 : decode code 16 = .ok (.iconst 0, 1) := by decide +kernel
theorem d_La_17 : decode code 17 = .ok (.istore_n 3, 1) := by decide +kernel
theorem d_La_18 : decode code 18 = .ok (.iload_n 3, 1) := by decide +kernel
theorem d_La_19 : decode code 19 = .ok (.aload_n 0, 1) := by decide +kernel
theorem d_La_20 : decode code 20 = .ok (.arraylength, 1) := by decide +kernel
theorem d_La_21 : decode code 21 = .ok (.iconst 3, 1) := by decide +kernel
theorem d_La_22 : decode code 22 = .ok (.isub, 1) := by decide +kernel
theorem d_La_23 : decode code 23 = .ok (.if_icmp .gt 406, 3) := by decide +kernel
theorem d_La_26 : decode code 26 = .ok (.aload_n 0, 1) := by decide +kernel
theorem d_La_27 : decode code 27 = .ok (.iload_n 3, 1) := by decide +kernel
theorem d_La_28 : decode code 28 = .ok (.iaload, 1) := by decide +kernel
theorem d_La_29 : decode code 29 = .ok (.bipush 15, 2) := by decide +kernel
theorem d_La_31 : decode code 31 = .ok (.iand, 1) := by decide +kernel
theorem d_La_32 : decode code 32 = .ok (.tableswitch 391 0 14 #[76, 101, 112, 125, 148, 171, 204, 229, 240, 253, 286, 309, 332, 355, 368], 76) := by decide +kernel
theorem d_La_108 : decode code 108 = .ok (.aload_n 1, 1) := by decide +kernel
theorem d_La_109 : decode code 109 = .ok (.aload_n 0, 1) := by decide +kernel
theorem d_La_110 : decode code 110 = .ok (.iload_n 3, 1) := by decide +kernel
theorem d_La_111 : decode code 111 = .ok (.iconst 1, 1) := by decide +kernel
theorem d_La_112 : decode code 112 = .ok (.iadd, 1) := by decide +kernel
theorem d_La_113 : decode code 113 = .ok (.iaload, 1) := by decide +kernel
theorem d_La_114 : decode code 114 = .ok (.i2c, 1) := by decide +kernel
theorem d_La_115 : decode code 115 = .ok (.invokevirtual 13, 3) := by decide +kernel
theorem d_La_118 : decode code 118 = .ok (.aload_n 2, 1) := by decide +kernel
theorem d_La_119 : decode code 119 = .ok (.aload_n 0, 1) := by decide +kernel
theorem d_La_120 : decode code 120 = .ok (.iload_n 3, 1) := by decide +kernel
theorem d_La_121 : decode code 121 = .ok (.iconst 1, 1) := by decide +kernel
theorem d_La_122 : decode code 122 = .ok (.iadd, 1) := by decide +kernel
theorem d_La_123 : decode code 123 = .ok (.iaload, 1) := by decide +kernel
theorem d_La_124 : decode code 124 = .ok (.i2c, 1) := by decide +kernel
theorem d_La_125 : decode code 125 = .ok (.invokevirtual 17, 3) := by decide +kernel
theorem d_La_128 : decode code 128 = .ok (.if_icmp .eq 295, 3) := by decide +kernel
theorem d_La_131 : decode code 131 = .ok (.iconst 0, 1) := by decide +kernel
theorem d_La_132 : decode code 132 = .ok (.ireturn, 1) := by decide +kernel
theorem d_La_133 : decode code 133 = .ok (.aload_n 1, 1) := by decide +kernel
theorem d_La_134 : decode code 134 = .ok (.invokevirtual 18, 3) := by decide +kernel
theorem d_La_137 : decode code 137 = .ok (.aload_n 2, 1) := by decide +kernel
theorem d_La_138 : decode code 138 = .ok (.invokevirtual 21, 3) := by decide +kernel
theorem d_La_141 : decode code 141 = .ok (.goto 282, 3) := by decide +kernel
theorem d_La_144 : decode code 144 = .ok (.aload_n 1, 1) := by decide +kernel
theorem d_La_145 : decode code 145 = .ok (.invokevirtual 22, 3) := by decide +kernel
theorem d_La_148 : decode code 148 = .ok (.aload_n 2, 1) := by decide +kernel
theorem d_La_149 : decode code 149 = .ok (.invokevirtual 26, 3) := by decide +kernel
theorem d_La_152 : decode code 152 = .ok (.if_icmp .eq 271, 3) := by decide +kernel
theorem d_La_155 : decode code 155 = .ok (.iconst 0, 1) := by decide +kernel
theorem d_La_156 : decode code 156 = .ok (.ireturn, 1) := by decide +kernel
theorem d_La_157 : decode code 157 = .ok (.aload_n 1, 1) := by decide +kernel
theorem d_La_158 : decode code 158 = .ok (.aload_n 0, 1) := by decide +kernel
theorem d_La_159 : decode code 159 = .ok (.iload_n 3, 1) := by decide +kernel
theorem d_La_160 : decode code 160 = .ok (.iconst 1, 1) := by decide +kernel
theorem d_La_161 : decode code 161 = .ok (.iadd, 1) := by decide +kernel
theorem d_La_162 : decode code 162 = .ok (.iaload, 1) := by decide +kernel
theorem d_La_163 : decode code 163 = .ok (.invokevirtual 27, 3) := by decide +kernel
theorem d_La_166 : decode code 166 = .ok (.aload_n 2, 1) := by decide +kernel
theorem d_La_167 : decode code 167 = .ok (.aload_n 0, 1) := by decide +kernel
theorem d_La_168 : decode code 168 = .ok (.iload_n 3, 1) := by decide +kernel
theorem d_La_169 : decode code 169 = .ok (.iconst 1, 1) := by decide +kernel
theorem d_La_170 : decode code 170 = .ok (.iadd, 1) := by decide +kernel
theorem d_La_171 : decode code 171 = .ok (.iaload, 1) := by decide +kernel
theorem d_La_172 : decode code 172 = .ok (.invokevirtual 31, 3) := by decide +kernel
theorem d_La_175 : decode code 175 = .ok (.if_icmp .eq 248, 3) := by decide +kernel
theorem d_La_178 : decode code 178 = .ok (.iconst 0, 1) := by decide +kernel
theorem d_La_179 : decode code 179 = .ok (.ireturn, 1) := by decide +kernel
theorem d_La_180 : decode code 180 = .ok (.aload_n 1, 1) := by decide +kernel
theorem d_La_181 : decode code 181 = .ok (.aload_n 0, 1) := by decide +kernel
theorem d_La_182 : decode code 182 = .ok (.iload_n 3, 1) := by decide +kernel
theorem d_La_183 : decode code 183 = .ok (.iconst 1, 1) := by decide +kernel
theorem d_La_184 : decode code 184 = .ok (.iadd, 1) := by decide +kernel
theorem d_La_185 : decode code 185 = .ok (.iaload, 1) := by decide +kernel
theorem d_La_186 : decode code 186 = .ok (.invokevirtual 32, 3) := by decide +kernel
theorem d_La_189 : decode code 189 = .ok (.aload_n 2, 1) := by decide +kernel
theorem d_La_190 : decode code 190 = .ok (.aload_n 0, 1) := by decide +kernel
theorem d_La_191 : decode code 191 = .ok (.iload_n 3, 1) := by decide +kernel
theorem d_La_192 : decode code 192 = .ok (.iconst 1, 1) := by decide +kernel
theorem d_La_193 : decode code 193 = .ok (.iadd, 1) := by decide +kernel
theorem d_La_194 : decode code 194 = .ok (.iaload, 1) := by decide +kernel
theorem d_La_195 : decode code 195 = .ok (.invokevirtual 35, 3) := by decide +kernel
theorem d_La_198 : decode code 198 = .ok (.if_icmp .eq 225, 3) := by decide +kernel
theorem d_La_201 : decode code 201 = .ok (.iconst 0, 1) := by decide +kernel
theorem d_La_202 : decode code 202 = .ok (.ireturn, 1) := by decide +kernel
theorem d_La_203 : decode code 203 = .ok (.aload_n 1, 1) := by decide +kernel
theorem d_La_204 : decode code 204 = .ok (.aload_n 0, 1) := by decide +kernel
theorem d_La_205 : decode code 205 = .ok (.iload_n 3, 1) := by decide +kernel
theorem d_La_206 : decode code 206 = .ok (.iconst 1, 1) := by decide +kernel
theorem d_La_207 : decode code 207 = .ok (.iadd, 1) := by decide +kernel
theorem d_La_208 : decode code 208 = .ok (.iaload, 1) := by decide +kernel
theorem d_La_209 : decode code 209 = .ok (.aload_n 0, 1) := by decide +kernel
theorem d_La_210 : decode code 210 = .ok (.iload_n 3, 1) := by decide +kernel
theorem d_La_211 : decode code 211 = .ok (.iconst 2, 1) := by decide +kernel
theorem d_La_212 : decode code 212 = .ok (.iadd, 1) := by decide +kernel
theorem d_La_213 : decode code 213 = .ok (.iaload, 1) := by decide +kernel
theorem d_La_214 : decode code 214 = .ok (.invokevirtual 36, 3) := by decide +kernel
theorem d_La_217 : decode code 217 = .ok (.aload_n 2, 1) := by decide +kernel
theorem d_La_218 : decode code 218 = .ok (.aload_n 0, 1) := by decide +kernel
theorem d_La_219 : decode code 219 = .ok (.iload_n 3, 1) := by decide +kernel
theorem d_La_220 : decode code 220 = .ok (.iconst 1, 1) := by decide +kernel
theorem d_La_221 : decode code 221 = .ok (.iadd, 1) := by decide +kernel
theorem d_La_222 : decode code 222 = .ok (.iaload, 1) := by decide +kernel
theorem d_La_223 : decode code 223 = .ok (.aload_n 0, 1) := by decide +kernel
theorem d_La_224 : decode code 224 = .ok (.iload_n 3, 1) := by decide +kernel
theorem d_La_225 : decode code 225 = .ok (.iconst 2, 1) := by decide +kernel
theorem d_La_226 : decode code 226 = .ok (.iadd, 1) := by decide +kernel
theorem d_La_227 : decode code 227 = .ok (.iaload, 1) := by decide +kernel
theorem d_La_228 : decode code 228 = .ok (.invokevirtual 40, 3) := by decide +kernel
theorem d_La_231 : decode code 231 = .ok (.if_icmp .eq 192, 3) := by decide +kernel
theorem d_La_234 : decode code 234 = .ok (.iconst 0, 1) := by decide +kernel
theorem d_La_235 : decode code 235 = .ok (.ireturn, 1) := by decide +kernel
theorem d_La_236 : decode code 236 = .ok (.aload_n 1, 1) := by decide +kernel
theorem d_La_237 : decode code 237 = .ok (.aload_n 0, 1) := by decide +kernel
theorem d_La_238 : decode code 238 = .ok (.iload_n 3, 1) := by decide +kernel
theorem d_La_239 : decode code 239 = .ok (.iconst 1, 1) := by decide +kernel
theorem d_La_240 : decode code 240 = .ok (.iadd, 1) := by decide +kernel
theorem d_La_241 : decode code 241 = .ok (.iaload, 1) := by decide +kernel
theorem d_La_242 : decode code 242 = .ok (.i2c, 1) := by decide +kernel
theorem d_La_243 : decode code 243 = .ok (.invokevirtual 41, 3) := by decide +kernel
theorem d_La_246 : decode code 246 = .ok (.aload_n 2, 1) := by decide +kernel
theorem d_La_247 : decode code 247 = .ok (.aload_n 0, 1) := by decide +kernel
theorem d_La_248 : decode code 248 = .ok (.iload_n 3, 1) := by decide +kernel
theorem d_La_249 : decode code 249 = .ok (.iconst 1, 1) := by decide +kernel
theorem d_La_250 : decode code 250 = .ok (.iadd, 1) := by decide +kernel
theorem d_La_251 : decode code 251 = .ok (.iaload, 1) := by decide +kernel
theorem d_La_252 : decode code 252 = .ok (.i2c, 1) := by decide +kernel
theorem d_La_253 : decode code 253 = .ok (.invokevirtual 44, 3) := by decide +kernel
theorem d_La_256 : decode code 256 = .ok (.if_icmp .eq 167, 3) := by decide +kernel
theorem d_La_259 : decode code 259 = .ok (.iconst 0, 1) := by decide +kernel
theorem d_La_260 : decode code 260 = .ok (.ireturn, 1) := by decide +kernel
theorem d_La_261 : decode code 261 = .ok (.aload_n 1, 1) := by decide +kernel
theorem d_La_262 : decode code 262 = .ok (.invokevirtual 45, 3) := by decide +kernel
theorem d_La_265 : decode code 265 = .ok (.aload_n 2, 1) := by decide +kernel
theorem d_La_266 : decode code 266 = .ok (.invokevirtual 48, 3) := by decide +kernel
theorem d_La_269 : decode code 269 = .ok (.goto 154, 3) := by decide +kernel
theorem d_La_272 : decode code 272 = .ok (.aload_n 1, 1) := by decide +kernel
theorem d_La_273 : decode code 273 = .ok (.invokevirtual 49, 3) := by decide +kernel
theorem d_La_276 : decode code 276 = .ok (.aload_n 2, 1) := by decide +kernel
theorem d_La_277 : decode code 277 = .ok (.invokevirtual 52, 3) := by decide +kernel
theorem d_La_280 : decode code 280 = .ok (.if_icmp .eq 143, 3) := by decide +kernel
theorem d_La_283 : decode code 283 = .ok (.iconst 0, 1) := by decide +kernel
theorem d_La_284 : decode code 284 = .ok (.ireturn, 1) := by decide +kernel
theorem d_La_285 : decode code 285 = .ok (.aload_n 1, 1) := by decide +kernel
theorem d_La_286 : decode code 286 = .ok (.aload_n 0, 1) := by decide +kernel
theorem d_La_287 : decode code 287 = .ok (.iload_n 3, 1) := by decide +kernel
theorem d_La_288 : decode code 288 = .ok (.iconst 1, 1) := by decide +kernel
theorem d_La_289 : decode code 289 = .ok (.iadd, 1) := by decide +kernel
theorem d_La_290 : decode code 290 = .ok (.iaload, 1) := by decide +kernel
theorem d_La_291 : decode code 291 = .ok (.aload_n 0, 1) := by decide +kernel
theorem d_La_292 : decode code 292 = .ok (.iload_n 3, 1) := by decide +kernel
theorem d_La_293 : decode code 293 = .ok (.iconst 2, 1) := by decide +kernel
theorem d_La_294 : decode code 294 = .ok (.iadd, 1) := by decide +kernel
theorem d_La_295 : decode code 295 = .ok (.iaload, 1) := by decide +kernel
theorem d_La_296 : decode code 296 = .ok (.invokevirtual 53, 3) := by decide +kernel
theorem d_La_299 : decode code 299 = .ok (.aload_n 2, 1) := by decide +kernel
theorem d_La_300 : decode code 300 = .ok (.aload_n 0, 1) := by decide +kernel
theorem d_La_301 : decode code 301 = .ok (.iload_n 3, 1) := by decide +kernel
theorem d_La_302 : decode code 302 = .ok (.iconst 1, 1) := by decide +kernel
theorem d_La_303 : decode code 303 = .ok (.iadd, 1) := by decide +kernel
theorem d_La_304 : decode code 304 = .ok (.iaload, 1) := by decide +kernel
theorem d_La_305 : decode code 305 = .ok (.aload_n 0, 1) := by decide +kernel
theorem d_La_306 : decode code 306 = .ok (.iload_n 3, 1) := by decide +kernel
theorem d_La_307 : decode code 307 = .ok (.iconst 2, 1) := by decide +kernel
theorem d_La_308 : decode code 308 = .ok (.iadd, 1) := by decide +kernel
theorem d_La_309 : decode code 309 = .ok (.iaload, 1) := by decide +kernel
theorem d_La_310 : decode code 310 = .ok (.invokevirtual 57, 3) := by decide +kernel
theorem d_La_313 : decode code 313 = .ok (.if_icmp .eq 110, 3) := by decide +kernel
theorem d_La_316 : decode code 316 = .ok (.iconst 0, 1) := by decide +kernel
theorem d_La_317 : decode code 317 = .ok (.ireturn, 1) := by decide +kernel
theorem d_La_318 : decode code 318 = .ok (.aload_n 1, 1) := by decide +kernel
theorem d_La_319 : decode code 319 = .ok (.aload_n 0, 1) := by decide +kernel
theorem d_La_320 : decode code 320 = .ok (.iload_n 3, 1) := by decide +kernel
theorem d_La_321 : decode code 321 = .ok (.iconst 1, 1) := by decide +kernel
theorem d_La_322 : decode code 322 = .ok (.iadd, 1) := by decide +kernel
theorem d_La_323 : decode code 323 = .ok (.iaload, 1) := by decide +kernel
theorem d_La_324 : decode code 324 = .ok (.invokevirtual 58, 3) := by decide +kernel
theorem d_La_327 : decode code 327 = .ok (.aload_n 2, 1) := by decide +kernel
theorem d_La_328 : decode code 328 = .ok (.aload_n 0, 1) := by decide +kernel
theorem d_La_329 : decode code 329 = .ok (.iload_n 3, 1) := by decide +kernel
theorem d_La_330 : decode code 330 = .ok (.iconst 1, 1) := by decide +kernel
theorem d_La_331 : decode code 331 = .ok (.iadd, 1) := by decide +kernel
theorem d_La_332 : decode code 332 = .ok (.iaload, 1) := by decide +kernel
theorem d_La_333 : decode code 333 = .ok (.invokevirtual 61, 3) := by decide +kernel
theorem d_La_336 : decode code 336 = .ok (.if_icmp .eq 87, 3) := by decide +kernel
theorem d_La_339 : decode code 339 = .ok (.iconst 0, 1) := by decide +kernel
theorem d_La_340 : decode code 340 = .ok (.ireturn, 1) := by decide +kernel
theorem d_La_341 : decode code 341 = .ok (.aload_n 1, 1) := by decide +kernel
theorem d_La_342 : decode code 342 = .ok (.aload_n 0, 1) := by decide +kernel
theorem d_La_343 : decode code 343 = .ok (.iload_n 3, 1) := by decide +kernel
theorem d_La_344 : decode code 344 = .ok (.iconst 1, 1) := by decide +kernel
theorem d_La_345 : decode code 345 = .ok (.iadd, 1) := by decide +kernel
theorem d_La_346 : decode code 346 = .ok (.iaload, 1) := by decide +kernel
theorem d_La_347 : decode code 347 = .ok (.invokevirtual 62, 3) := by decide +kernel
theorem d_La_350 : decode code 350 = .ok (.aload_n 2, 1) := by decide +kernel
theorem d_La_351 : decode code 351 = .ok (.aload_n 0, 1) := by decide +kernel
theorem d_La_352 : decode code 352 = .ok (.iload_n 3, 1) := by decide +kernel
theorem d_La_353 : decode code 353 = .ok (.iconst 1, 1) := by decide +kernel
theorem d_La_354 : decode code 354 = .ok (.iadd, 1) := by decide +kernel
theorem d_La_355 : decode code 355 = .ok (.iaload, 1) := by decide +kernel
theorem d_La_356 : decode code 356 = .ok (.invokevirtual 65, 3) := by decide +kernel
theorem d_La_359 : decode code 359 = .ok (.if_icmp .eq 64, 3) := by decide +kernel
theorem d_La_362 : decode code 362 = .ok (.iconst 0, 1) := by decide +kernel
theorem d_La_363 : decode code 363 = .ok (.ireturn, 1) := by decide +kernel
theorem d_La_364 : decode code 364 = .ok (.aload_n 1, 1) := by decide +kernel
theorem d_La_365 : decode code 365 = .ok (.aload_n 0, 1) := by decide +kernel
theorem d_La_366 : decode code 366 = .ok (.iload_n 3, 1) := by decide +kernel
theorem d_La_367 : decode code 367 = .ok (.iconst 1, 1) := by decide +kernel
theorem d_La_368 : decode code 368 = .ok (.iadd, 1) := by decide +kernel
theorem d_La_369 : decode code 369 = .ok (.iaload, 1) := by decide +kernel
theorem d_La_370 : decode code 370 = .ok (.invokevirtual 66, 3) := by decide +kernel
theorem d_La_373 : decode code 373 = .ok (.aload_n 2, 1) := by decide +kernel
theorem d_La_374 : decode code 374 = .ok (.aload_n 0, 1) := by decide +kernel
theorem d_La_375 : decode code 375 = .ok (.iload_n 3, 1) := by decide +kernel
theorem d_La_376 : decode code 376 = .ok (.iconst 1, 1) := by decide +kernel
theorem d_La_377 : decode code 377 = .ok (.iadd, 1) := by decide +kernel
theorem d_La_378 : decode code 378 = .ok (.iaload, 1) := by decide +kernel
theorem d_La_379 : decode code 379 = .ok (.invokevirtual 70, 3) := by decide +kernel
theorem d_La_382 : decode code 382 = .ok (.if_icmp .eq 41, 3) := by decide +kernel
theorem d_La_385 : decode code 385 = .ok (.iconst 0, 1) := by decide +kernel
theorem d_La_386 : decode code 386 = .ok (.ireturn, 1) := by decide +kernel
theorem d_La_387 : decode code 387 = .ok (.aload_n 1, 1) := by decide +kernel
theorem d_La_388 : decode code 388 = .ok (.invokevirtual 71, 3) := by decide +kernel
theorem d_La_391 : decode code 391 = .ok (.aload_n 2, 1) := by decide +kernel
theorem d_La_392 : decode code 392 = .ok (.invokevirtual 74, 3) := by decide +kernel
theorem d_La_395 : decode code 395 = .ok (.if_icmp .eq 28, 3) := by decide +kernel
theorem d_La_398 : decode code 398 = .ok (.iconst 0, 1) := by decide +kernel
theorem d_La_399 : decode code 399 = .ok (.ireturn, 1) := by decide +kernel
theorem d_La_400 : decode code 400 = .ok (.aload_n 1, 1) := by decide +kernel
theorem d_La_401 : decode code 401 = .ok (.aload_n 0, 1) := by decide +kernel
theorem d_La_402 : decode code 402 = .ok (.iload_n 3, 1) := by decide +kernel
theorem d_La_403 : decode code 403 = .ok (.iconst 1, 1) := by decide +kernel
theorem d_La_404 : decode code 404 = .ok (.iadd, 1) := by decide +kernel
theorem d_La_405 : decode code 405 = .ok (.iaload, 1) := by decide +kernel
theorem d_La_406 : decode code 406 = .ok (.invokevirtual 75, 3) := by decide +kernel
theorem d_La_409 : decode code 409 = .ok (.aload_n 2, 1) := by decide +kernel
theorem d_La_410 : decode code 410 = .ok (.aload_n 0, 1) := by decide +kernel
theorem d_La_411 : decode code 411 = .ok (.iload_n 3, 1) := by decide +kernel
theorem d_La_412 : decode code 412 = .ok (.iconst 1, 1) := by decide +kernel
theorem d_La_413 : decode code 413 = .ok (.iadd, 1) := by decide +kernel
theorem d_La_414 : decode code 414 = .ok (.iaload, 1) := by decide +kernel
theorem d_La_415 : decode code 415 = .ok (.invokevirtual 78, 3) := by decide +kernel
theorem d_La_418 : decode code 418 = .ok (.if_icmp .eq 5, 3) := by decide +kernel
theorem d_La_421 : decode code 421 = .ok (.iconst 0, 1) := by decide +kernel
theorem d_La_422 : decode code 422 = .ok (.ireturn, 1) := by decide +kernel
theorem d_La_423 : decode code 423 = .ok (.iinc 3 3, 3) := by decide +kernel
theorem d_La_426 : decode code 426 = .ok (.goto (-408), 3) := by decide +kernel
theorem d_La_429 : decode code 429 = .ok (.iconst 1, 1) := by decide +kernel
theorem d_La_430 : decode code 430 = .ok (.ireturn, 1) := by decide +kernel
