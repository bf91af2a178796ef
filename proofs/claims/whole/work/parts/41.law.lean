/-! the law as a function, from behind the constructors on; written by a program -/
theorem d_L_law_16 : decode code 16 = .ok (.iconst 0, 1) := by decide +kernel
theorem d_L_law_17 : decode code 17 = .ok (.istore_n 3, 1) := by decide +kernel
theorem d_L_law_18 : decode code 18 = .ok (.iload_n 3, 1) := by decide +kernel
theorem d_L_law_19 : decode code 19 = .ok (.aload_n 0, 1) := by decide +kernel
theorem d_L_law_20 : decode code 20 = .ok (.arraylength, 1) := by decide +kernel
theorem d_L_law_21 : decode code 21 = .ok (.iconst 4, 1) := by decide +kernel
theorem d_L_law_22 : decode code 22 = .ok (.isub, 1) := by decide +kernel
theorem d_L_law_23 : decode code 23 = .ok (.if_icmp .gt 421, 3) := by decide +kernel
theorem d_L_law_26 : decode code 26 = .ok (.aload_n 0, 1) := by decide +kernel
theorem d_L_law_27 : decode code 27 = .ok (.iload_n 3, 1) := by decide +kernel
theorem d_L_law_28 : decode code 28 = .ok (.iaload, 1) := by decide +kernel
theorem d_L_law_29 : decode code 29 = .ok (.bipush 15, 2) := by decide +kernel
theorem d_L_law_31 : decode code 31 = .ok (.iand, 1) := by decide +kernel
theorem d_L_law_32 : decode code 32 = .ok (.tableswitch 406 0 15 #[80, 103, 126, 159, 170, 183, 196, 209, 222, 235, 248, 291, 334, 347, 360, 373], 80) := by decide +kernel
theorem d_L_law_112 : decode code 112 = .ok (.aload_n 1, 1) := by decide +kernel
theorem d_L_law_113 : decode code 113 = .ok (.aload_n 0, 1) := by decide +kernel
theorem d_L_law_114 : decode code 114 = .ok (.iload_n 3, 1) := by decide +kernel
theorem d_L_law_115 : decode code 115 = .ok (.iconst 1, 1) := by decide +kernel
theorem d_L_law_116 : decode code 116 = .ok (.iadd, 1) := by decide +kernel
theorem d_L_law_117 : decode code 117 = .ok (.iaload, 1) := by decide +kernel
theorem d_L_law_118 : decode code 118 = .ok (.invokevirtual 13, 3) := by decide +kernel
theorem d_L_law_121 : decode code 121 = .ok (.aload_n 2, 1) := by decide +kernel
theorem d_L_law_122 : decode code 122 = .ok (.aload_n 0, 1) := by decide +kernel
theorem d_L_law_123 : decode code 123 = .ok (.iload_n 3, 1) := by decide +kernel
theorem d_L_law_124 : decode code 124 = .ok (.iconst 1, 1) := by decide +kernel
theorem d_L_law_125 : decode code 125 = .ok (.iadd, 1) := by decide +kernel
theorem d_L_law_126 : decode code 126 = .ok (.iaload, 1) := by decide +kernel
theorem d_L_law_127 : decode code 127 = .ok (.invokevirtual 17, 3) := by decide +kernel
theorem d_L_law_130 : decode code 130 = .ok (.if_icmp .eq 308, 3) := by decide +kernel
theorem d_L_law_133 : decode code 133 = .ok (.iconst 0, 1) := by decide +kernel
theorem d_L_law_134 : decode code 134 = .ok (.ireturn, 1) := by decide +kernel
theorem d_L_law_135 : decode code 135 = .ok (.aload_n 1, 1) := by decide +kernel
theorem d_L_law_136 : decode code 136 = .ok (.aload_n 0, 1) := by decide +kernel
theorem d_L_law_137 : decode code 137 = .ok (.iload_n 3, 1) := by decide +kernel
theorem d_L_law_138 : decode code 138 = .ok (.iconst 1, 1) := by decide +kernel
theorem d_L_law_139 : decode code 139 = .ok (.iadd, 1) := by decide +kernel
theorem d_L_law_140 : decode code 140 = .ok (.iaload, 1) := by decide +kernel
theorem d_L_law_141 : decode code 141 = .ok (.invokevirtual 18, 3) := by decide +kernel
theorem d_L_law_144 : decode code 144 = .ok (.aload_n 2, 1) := by decide +kernel
theorem d_L_law_145 : decode code 145 = .ok (.aload_n 0, 1) := by decide +kernel
theorem d_L_law_146 : decode code 146 = .ok (.iload_n 3, 1) := by decide +kernel
theorem d_L_law_147 : decode code 147 = .ok (.iconst 1, 1) := by decide +kernel
theorem d_L_law_148 : decode code 148 = .ok (.iadd, 1) := by decide +kernel
theorem d_L_law_149 : decode code 149 = .ok (.iaload, 1) := by decide +kernel
theorem d_L_law_150 : decode code 150 = .ok (.invokevirtual 21, 3) := by decide +kernel
theorem d_L_law_153 : decode code 153 = .ok (.if_icmp .eq 285, 3) := by decide +kernel
theorem d_L_law_156 : decode code 156 = .ok (.iconst 0, 1) := by decide +kernel
theorem d_L_law_157 : decode code 157 = .ok (.ireturn, 1) := by decide +kernel
theorem d_L_law_158 : decode code 158 = .ok (.aload_n 1, 1) := by decide +kernel
theorem d_L_law_159 : decode code 159 = .ok (.aload_n 0, 1) := by decide +kernel
theorem d_L_law_160 : decode code 160 = .ok (.iload_n 3, 1) := by decide +kernel
theorem d_L_law_161 : decode code 161 = .ok (.iconst 1, 1) := by decide +kernel
theorem d_L_law_162 : decode code 162 = .ok (.iadd, 1) := by decide +kernel
theorem d_L_law_163 : decode code 163 = .ok (.iaload, 1) := by decide +kernel
theorem d_L_law_164 : decode code 164 = .ok (.aload_n 0, 1) := by decide +kernel
theorem d_L_law_165 : decode code 165 = .ok (.iload_n 3, 1) := by decide +kernel
theorem d_L_law_166 : decode code 166 = .ok (.iconst 2, 1) := by decide +kernel
theorem d_L_law_167 : decode code 167 = .ok (.iadd, 1) := by decide +kernel
theorem d_L_law_168 : decode code 168 = .ok (.iaload, 1) := by decide +kernel
theorem d_L_law_169 : decode code 169 = .ok (.invokevirtual 22, 3) := by decide +kernel
theorem d_L_law_172 : decode code 172 = .ok (.aload_n 2, 1) := by decide +kernel
theorem d_L_law_173 : decode code 173 = .ok (.aload_n 0, 1) := by decide +kernel
theorem d_L_law_174 : decode code 174 = .ok (.iload_n 3, 1) := by decide +kernel
theorem d_L_law_175 : decode code 175 = .ok (.iconst 1, 1) := by decide +kernel
theorem d_L_law_176 : decode code 176 = .ok (.iadd, 1) := by decide +kernel
theorem d_L_law_177 : decode code 177 = .ok (.iaload, 1) := by decide +kernel
theorem d_L_law_178 : decode code 178 = .ok (.aload_n 0, 1) := by decide +kernel
theorem d_L_law_179 : decode code 179 = .ok (.iload_n 3, 1) := by decide +kernel
theorem d_L_law_180 : decode code 180 = .ok (.iconst 2, 1) := by decide +kernel
theorem d_L_law_181 : decode code 181 = .ok (.iadd, 1) := by decide +kernel
theorem d_L_law_182 : decode code 182 = .ok (.iaload, 1) := by decide +kernel
theorem d_L_law_183 : decode code 183 = .ok (.invokevirtual 26, 3) := by decide +kernel
theorem d_L_law_186 : decode code 186 = .ok (.if_icmp .eq 252, 3) := by decide +kernel
theorem d_L_law_189 : decode code 189 = .ok (.iconst 0, 1) := by decide +kernel
theorem d_L_law_190 : decode code 190 = .ok (.ireturn, 1) := by decide +kernel
theorem d_L_law_191 : decode code 191 = .ok (.aload_n 1, 1) := by decide +kernel
theorem d_L_law_192 : decode code 192 = .ok (.invokevirtual 27, 3) := by decide +kernel
theorem d_L_law_195 : decode code 195 = .ok (.aload_n 2, 1) := by decide +kernel
theorem d_L_law_196 : decode code 196 = .ok (.invokevirtual 30, 3) := by decide +kernel
theorem d_L_law_199 : decode code 199 = .ok (.goto 239, 3) := by decide +kernel
theorem d_L_law_202 : decode code 202 = .ok (.aload_n 1, 1) := by decide +kernel
theorem d_L_law_203 : decode code 203 = .ok (.invokevirtual 31, 3) := by decide +kernel
theorem d_L_law_206 : decode code 206 = .ok (.aload_n 2, 1) := by decide +kernel
theorem d_L_law_207 : decode code 207 = .ok (.invokevirtual 35, 3) := by decide +kernel
theorem d_L_law_210 : decode code 210 = .ok (.if_icmp .eq 228, 3) := by decide +kernel
theorem d_L_law_213 : decode code 213 = .ok (.iconst 0, 1) := by decide +kernel
theorem d_L_law_214 : decode code 214 = .ok (.ireturn, 1) := by decide +kernel
theorem d_L_law_215 : decode code 215 = .ok (.aload_n 1, 1) := by decide +kernel
theorem d_L_law_216 : decode code 216 = .ok (.invokevirtual 36, 3) := by decide +kernel
theorem d_L_law_219 : decode code 219 = .ok (.aload_n 2, 1) := by decide +kernel
theorem d_L_law_220 : decode code 220 = .ok (.invokevirtual 39, 3) := by decide +kernel
theorem d_L_law_223 : decode code 223 = .ok (.if_icmp .eq 215, 3) := by decide +kernel
theorem d_L_law_226 : decode code 226 = .ok (.iconst 0, 1) := by decide +kernel
theorem d_L_law_227 : decode code 227 = .ok (.ireturn, 1) := by decide +kernel
theorem d_L_law_228 : decode code 228 = .ok (.aload_n 1, 1) := by decide +kernel
theorem d_L_law_229 : decode code 229 = .ok (.invokevirtual 40, 3) := by decide +kernel
theorem d_L_law_232 : decode code 232 = .ok (.aload_n 2, 1) := by decide +kernel
theorem d_L_law_233 : decode code 233 = .ok (.invokevirtual 43, 3) := by decide +kernel
theorem d_L_law_236 : decode code 236 = .ok (.if_icmp .eq 202, 3) := by decide +kernel
theorem d_L_law_239 : decode code 239 = .ok (.iconst 0, 1) := by decide +kernel
theorem d_L_law_240 : decode code 240 = .ok (.ireturn, 1) := by decide +kernel
theorem d_L_law_241 : decode code 241 = .ok (.aload_n 1, 1) := by decide +kernel
theorem d_L_law_242 : decode code 242 = .ok (.invokevirtual 44, 3) := by decide +kernel
theorem d_L_law_245 : decode code 245 = .ok (.aload_n 2, 1) := by decide +kernel
theorem d_L_law_246 : decode code 246 = .ok (.invokevirtual 47, 3) := by decide +kernel
theorem d_L_law_249 : decode code 249 = .ok (.if_icmp .eq 189, 3) := by decide +kernel
theorem d_L_law_252 : decode code 252 = .ok (.iconst 0, 1) := by decide +kernel
theorem d_L_law_253 : decode code 253 = .ok (.ireturn, 1) := by decide +kernel
theorem d_L_law_254 : decode code 254 = .ok (.aload_n 1, 1) := by decide +kernel
theorem d_L_law_255 : decode code 255 = .ok (.invokevirtual 48, 3) := by decide +kernel
theorem d_L_law_258 : decode code 258 = .ok (.aload_n 2, 1) := by decide +kernel
theorem d_L_law_259 : decode code 259 = .ok (.invokevirtual 51, 3) := by decide +kernel
theorem d_L_law_262 : decode code 262 = .ok (.if_icmp .eq 176, 3) := by decide +kernel
theorem d_L_law_265 : decode code 265 = .ok (.iconst 0, 1) := by decide +kernel
theorem d_L_law_266 : decode code 266 = .ok (.ireturn, 1) := by decide +kernel
theorem d_L_law_267 : decode code 267 = .ok (.aload_n 1, 1) := by decide +kernel
theorem d_L_law_268 : decode code 268 = .ok (.invokevirtual 52, 3) := by decide +kernel
theorem d_L_law_271 : decode code 271 = .ok (.aload_n 2, 1) := by decide +kernel
theorem d_L_law_272 : decode code 272 = .ok (.invokevirtual 55, 3) := by decide +kernel
theorem d_L_law_275 : decode code 275 = .ok (.if_icmp .eq 163, 3) := by decide +kernel
theorem d_L_law_278 : decode code 278 = .ok (.iconst 0, 1) := by decide +kernel
theorem d_L_law_279 : decode code 279 = .ok (.ireturn, 1) := by decide +kernel
theorem d_L_law_280 : decode code 280 = .ok (.aload_n 1, 1) := by decide +kernel
theorem d_L_law_281 : decode code 281 = .ok (.aload_n 0, 1) := by decide +kernel
theorem d_L_law_282 : decode code 282 = .ok (.iload_n 3, 1) := by decide +kernel
theorem d_L_law_283 : decode code 283 = .ok (.iconst 1, 1) := by decide +kernel
theorem d_L_law_284 : decode code 284 = .ok (.iadd, 1) := by decide +kernel
theorem d_L_law_285 : decode code 285 = .ok (.iaload, 1) := by decide +kernel
theorem d_L_law_286 : decode code 286 = .ok (.aload_n 0, 1) := by decide +kernel
theorem d_L_law_287 : decode code 287 = .ok (.iload_n 3, 1) := by decide +kernel
theorem d_L_law_288 : decode code 288 = .ok (.iconst 2, 1) := by decide +kernel
theorem d_L_law_289 : decode code 289 = .ok (.iadd, 1) := by decide +kernel
theorem d_L_law_290 : decode code 290 = .ok (.iaload, 1) := by decide +kernel
theorem d_L_law_291 : decode code 291 = .ok (.aload_n 0, 1) := by decide +kernel
theorem d_L_law_292 : decode code 292 = .ok (.iload_n 3, 1) := by decide +kernel
theorem d_L_law_293 : decode code 293 = .ok (.iconst 3, 1) := by decide +kernel
theorem d_L_law_294 : decode code 294 = .ok (.iadd, 1) := by decide +kernel
theorem d_L_law_295 : decode code 295 = .ok (.iaload, 1) := by decide +kernel
theorem d_L_law_296 : decode code 296 = .ok (.invokevirtual 56, 3) := by decide +kernel
theorem d_L_law_299 : decode code 299 = .ok (.aload_n 2, 1) := by decide +kernel
theorem d_L_law_300 : decode code 300 = .ok (.aload_n 0, 1) := by decide +kernel
theorem d_L_law_301 : decode code 301 = .ok (.iload_n 3, 1) := by decide +kernel
theorem d_L_law_302 : decode code 302 = .ok (.iconst 1, 1) := by decide +kernel
theorem d_L_law_303 : decode code 303 = .ok (.iadd, 1) := by decide +kernel
theorem d_L_law_304 : decode code 304 = .ok (.iaload, 1) := by decide +kernel
theorem d_L_law_305 : decode code 305 = .ok (.aload_n 0, 1) := by decide +kernel
theorem d_L_law_306 : decode code 306 = .ok (.iload_n 3, 1) := by decide +kernel
theorem d_L_law_307 : decode code 307 = .ok (.iconst 2, 1) := by decide +kernel
theorem d_L_law_308 : decode code 308 = .ok (.iadd, 1) := by decide +kernel
theorem d_L_law_309 : decode code 309 = .ok (.iaload, 1) := by decide +kernel
theorem d_L_law_310 : decode code 310 = .ok (.aload_n 0, 1) := by decide +kernel
theorem d_L_law_311 : decode code 311 = .ok (.iload_n 3, 1) := by decide +kernel
theorem d_L_law_312 : decode code 312 = .ok (.iconst 3, 1) := by decide +kernel
theorem d_L_law_313 : decode code 313 = .ok (.iadd, 1) := by decide +kernel
theorem d_L_law_314 : decode code 314 = .ok (.iaload, 1) := by decide +kernel
theorem d_L_law_315 : decode code 315 = .ok (.invokevirtual 60, 3) := by decide +kernel
theorem d_L_law_318 : decode code 318 = .ok (.if_icmp .eq 120, 3) := by decide +kernel
theorem d_L_law_321 : decode code 321 = .ok (.iconst 0, 1) := by decide +kernel
theorem d_L_law_322 : decode code 322 = .ok (.ireturn, 1) := by decide +kernel
theorem d_L_law_323 : decode code 323 = .ok (.aload_n 1, 1) := by decide +kernel
theorem d_L_law_324 : decode code 324 = .ok (.aload_n 0, 1) := by decide +kernel
theorem d_L_law_325 : decode code 325 = .ok (.iload_n 3, 1) := by decide +kernel
theorem d_L_law_326 : decode code 326 = .ok (.iconst 1, 1) := by decide +kernel
theorem d_L_law_327 : decode code 327 = .ok (.iadd, 1) := by decide +kernel
theorem d_L_law_328 : decode code 328 = .ok (.iaload, 1) := by decide +kernel
theorem d_L_law_329 : decode code 329 = .ok (.aload_n 0, 1) := by decide +kernel
theorem d_L_law_330 : decode code 330 = .ok (.iload_n 3, 1) := by decide +kernel
theorem d_L_law_331 : decode code 331 = .ok (.iconst 2, 1) := by decide +kernel
theorem d_L_law_332 : decode code 332 = .ok (.iadd, 1) := by decide +kernel
theorem d_L_law_333 : decode code 333 = .ok (.iaload, 1) := by decide +kernel
theorem d_L_law_334 : decode code 334 = .ok (.aload_n 0, 1) := by decide +kernel
theorem d_L_law_335 : decode code 335 = .ok (.iload_n 3, 1) := by decide +kernel
theorem d_L_law_336 : decode code 336 = .ok (.iconst 3, 1) := by decide +kernel
theorem d_L_law_337 : decode code 337 = .ok (.iadd, 1) := by decide +kernel
theorem d_L_law_338 : decode code 338 = .ok (.iaload, 1) := by decide +kernel
theorem d_L_law_339 : decode code 339 = .ok (.invokevirtual 61, 3) := by decide +kernel
theorem d_L_law_342 : decode code 342 = .ok (.aload_n 2, 1) := by decide +kernel
theorem d_L_law_343 : decode code 343 = .ok (.aload_n 0, 1) := by decide +kernel
theorem d_L_law_344 : decode code 344 = .ok (.iload_n 3, 1) := by decide +kernel
theorem d_L_law_345 : decode code 345 = .ok (.iconst 1, 1) := by decide +kernel
theorem d_L_law_346 : decode code 346 = .ok (.iadd, 1) := by decide +kernel
theorem d_L_law_347 : decode code 347 = .ok (.iaload, 1) := by decide +kernel
theorem d_L_law_348 : decode code 348 = .ok (.aload_n 0, 1) := by decide +kernel
theorem d_L_law_349 : decode code 349 = .ok (.iload_n 3, 1) := by decide +kernel
theorem d_L_law_350 : decode code 350 = .ok (.iconst 2, 1) := by decide +kernel
theorem d_L_law_351 : decode code 351 = .ok (.iadd, 1) := by decide +kernel
theorem d_L_law_352 : decode code 352 = .ok (.iaload, 1) := by decide +kernel
theorem d_L_law_353 : decode code 353 = .ok (.aload_n 0, 1) := by decide +kernel
theorem d_L_law_354 : decode code 354 = .ok (.iload_n 3, 1) := by decide +kernel
theorem d_L_law_355 : decode code 355 = .ok (.iconst 3, 1) := by decide +kernel
theorem d_L_law_356 : decode code 356 = .ok (.iadd, 1) := by decide +kernel
theorem d_L_law_357 : decode code 357 = .ok (.iaload, 1) := by decide +kernel
theorem d_L_law_358 : decode code 358 = .ok (.invokevirtual 64, 3) := by decide +kernel
theorem d_L_law_361 : decode code 361 = .ok (.if_icmp .eq 77, 3) := by decide +kernel
theorem d_L_law_364 : decode code 364 = .ok (.iconst 0, 1) := by decide +kernel
theorem d_L_law_365 : decode code 365 = .ok (.ireturn, 1) := by decide +kernel
theorem d_L_law_366 : decode code 366 = .ok (.aload_n 1, 1) := by decide +kernel
theorem d_L_law_367 : decode code 367 = .ok (.invokevirtual 65, 3) := by decide +kernel
theorem d_L_law_370 : decode code 370 = .ok (.aload_n 2, 1) := by decide +kernel
theorem d_L_law_371 : decode code 371 = .ok (.invokevirtual 68, 3) := by decide +kernel
theorem d_L_law_374 : decode code 374 = .ok (.if_icmp .eq 64, 3) := by decide +kernel
theorem d_L_law_377 : decode code 377 = .ok (.iconst 0, 1) := by decide +kernel
theorem d_L_law_378 : decode code 378 = .ok (.ireturn, 1) := by decide +kernel
theorem d_L_law_379 : decode code 379 = .ok (.aload_n 1, 1) := by decide +kernel
theorem d_L_law_380 : decode code 380 = .ok (.invokevirtual 69, 3) := by decide +kernel
theorem d_L_law_383 : decode code 383 = .ok (.aload_n 2, 1) := by decide +kernel
theorem d_L_law_384 : decode code 384 = .ok (.invokevirtual 72, 3) := by decide +kernel
theorem d_L_law_387 : decode code 387 = .ok (.if_icmp .eq 51, 3) := by decide +kernel
theorem d_L_law_390 : decode code 390 = .ok (.iconst 0, 1) := by decide +kernel
theorem d_L_law_391 : decode code 391 = .ok (.ireturn, 1) := by decide +kernel
theorem d_L_law_392 : decode code 392 = .ok (.aload_n 1, 1) := by decide +kernel
theorem d_L_law_393 : decode code 393 = .ok (.invokevirtual 73, 3) := by decide +kernel
theorem d_L_law_396 : decode code 396 = .ok (.aload_n 2, 1) := by decide +kernel
theorem d_L_law_397 : decode code 397 = .ok (.invokevirtual 76, 3) := by decide +kernel
theorem d_L_law_400 : decode code 400 = .ok (.if_icmp .eq 38, 3) := by decide +kernel
theorem d_L_law_403 : decode code 403 = .ok (.iconst 0, 1) := by decide +kernel
theorem d_L_law_404 : decode code 404 = .ok (.ireturn, 1) := by decide +kernel
theorem d_L_law_405 : decode code 405 = .ok (.aload_n 1, 1) := by decide +kernel
theorem d_L_law_406 : decode code 406 = .ok (.aload_n 0, 1) := by decide +kernel
theorem d_L_law_407 : decode code 407 = .ok (.iload_n 3, 1) := by decide +kernel
theorem d_L_law_408 : decode code 408 = .ok (.iconst 1, 1) := by decide +kernel
theorem d_L_law_409 : decode code 409 = .ok (.iadd, 1) := by decide +kernel
theorem d_L_law_410 : decode code 410 = .ok (.iaload, 1) := by decide +kernel
theorem d_L_law_411 : decode code 411 = .ok (.aload_n 0, 1) := by decide +kernel
theorem d_L_law_412 : decode code 412 = .ok (.iload_n 3, 1) := by decide +kernel
theorem d_L_law_413 : decode code 413 = .ok (.iconst 2, 1) := by decide +kernel
theorem d_L_law_414 : decode code 414 = .ok (.iadd, 1) := by decide +kernel
theorem d_L_law_415 : decode code 415 = .ok (.iaload, 1) := by decide +kernel
theorem d_L_law_416 : decode code 416 = .ok (.invokevirtual 77, 3) := by decide +kernel
theorem d_L_law_419 : decode code 419 = .ok (.aload_n 2, 1) := by decide +kernel
theorem d_L_law_420 : decode code 420 = .ok (.aload_n 0, 1) := by decide +kernel
theorem d_L_law_421 : decode code 421 = .ok (.iload_n 3, 1) := by decide +kernel
theorem d_L_law_422 : decode code 422 = .ok (.iconst 1, 1) := by decide +kernel
theorem d_L_law_423 : decode code 423 = .ok (.iadd, 1) := by decide +kernel
theorem d_L_law_424 : decode code 424 = .ok (.iaload, 1) := by decide +kernel
theorem d_L_law_425 : decode code 425 = .ok (.aload_n 0, 1) := by decide +kernel
theorem d_L_law_426 : decode code 426 = .ok (.iload_n 3, 1) := by decide +kernel
theorem d_L_law_427 : decode code 427 = .ok (.iconst 2, 1) := by decide +kernel
theorem d_L_law_428 : decode code 428 = .ok (.iadd, 1) := by decide +kernel
theorem d_L_law_429 : decode code 429 = .ok (.iaload, 1) := by decide +kernel
theorem d_L_law_430 : decode code 430 = .ok (.invokevirtual 80, 3) := by decide +kernel
theorem d_L_law_433 : decode code 433 = .ok (.if_icmp .eq 5, 3) := by decide +kernel
theorem d_L_law_436 : decode code 436 = .ok (.iconst 0, 1) := by decide +kernel
theorem d_L_law_437 : decode code 437 = .ok (.ireturn, 1) := by decide +kernel
theorem d_L_law_438 : decode code 438 = .ok (.iinc 3 4, 3) := by decide +kernel
theorem d_L_law_441 : decode code 441 = .ok (.goto (-423), 3) := by decide +kernel
theorem d_L_law_444 : decode code 444 = .ok (.iconst 1, 1) := by decide +kernel
theorem d_L_law_445 : decode code 445 = .ok (.ireturn, 1) := by decide +kernel
def f_L_law_438 (L : Nat) (xs : Nat → Int32) (k18 : Int32 → zx_G → Option (Int32 × zx_G)) (x3 : Int32) (G : zx_G) : Option (Int32 × zx_G) :=
  zx_lt (x3 + (4 : Int32)) fun x3_1 =>
  k18 x3_1 G
def f_L_law_18 (L : Nat) (xs : Nat → Int32) : Nat → Int32 → zx_G → Option (Int32 × zx_G)
  | 0, _, _ => none
  | n + 1, x3, G =>
    zx_if (((Int32.ofNat L) - (4 : Int32)) < x3)
      (zx_gd (zx_01 (1 : Int32)) <| some ((1 : Int32), G))
      (zx_gd (zx_in x3 L) <|
      zx_if (((xs (Int32.toNatClampNeg x3)) &&& (15 : Int32)) = (0 : Int32))
        (zx_gd (zx_in (x3 + (1 : Int32)) L) <|
        zx_bd (f_S_add (xs (Int32.toNatClampNeg (x3 + (1 : Int32)))) G) fun r_7 G_6 =>
        zx_gd (zx_in (x3 + (1 : Int32)) L) <|
        zx_bd (f_M_add (xs (Int32.toNatClampNeg (x3 + (1 : Int32)))) G_6) fun r_11 G_10 =>
        zx_if (r_7 = r_11)
          (f_L_law_438 L xs (f_L_law_18 L xs n) x3 G_10)
          (zx_gd (zx_01 (0 : Int32)) <| some ((0 : Int32), G_10)))
        (zx_if (((xs (Int32.toNatClampNeg x3)) &&& (15 : Int32)) = (1 : Int32))
        (zx_gd (zx_in (x3 + (1 : Int32)) L) <|
        zx_bd (f_S_word (xs (Int32.toNatClampNeg (x3 + (1 : Int32)))) G) fun r_18 G_17 =>
        zx_gd (zx_in (x3 + (1 : Int32)) L) <|
        zx_bd (f_M_word (xs (Int32.toNatClampNeg (x3 + (1 : Int32)))) G_17) fun r_22 G_21 =>
        zx_if (r_18 = r_22)
          (f_L_law_438 L xs (f_L_law_18 L xs n) x3 G_21)
          (zx_gd (zx_01 (0 : Int32)) <| some ((0 : Int32), G_21)))
        (zx_if (((xs (Int32.toNatClampNeg x3)) &&& (15 : Int32)) = (2 : Int32))
        (zx_gd (zx_in (x3 + (1 : Int32)) L) <|
        zx_gd (zx_in (x3 + (2 : Int32)) L) <|
        zx_bd (f_S_patch (xs (Int32.toNatClampNeg (x3 + (1 : Int32)))) (xs (Int32.toNatClampNeg (x3 + (2 : Int32)))) G) fun r_30 G_29 =>
        zx_gd (zx_in (x3 + (1 : Int32)) L) <|
        zx_gd (zx_in (x3 + (2 : Int32)) L) <|
        zx_bd (f_M_patch (xs (Int32.toNatClampNeg (x3 + (1 : Int32)))) (xs (Int32.toNatClampNeg (x3 + (2 : Int32)))) G_29) fun r_35 G_34 =>
        zx_if (r_30 = r_35)
          (f_L_law_438 L xs (f_L_law_18 L xs n) x3 G_34)
          (zx_gd (zx_01 (0 : Int32)) <| some ((0 : Int32), G_34)))
        (zx_if (((xs (Int32.toNatClampNeg x3)) &&& (15 : Int32)) = (3 : Int32))
        (zx_bd (f_S_clear G) fun r_41 G_40 =>
        zx_bd (f_M_clear G_40) fun r_44 G_43 =>
        f_L_law_438 L xs (f_L_law_18 L xs n) x3 G_43)
        (zx_if (((xs (Int32.toNatClampNeg x3)) &&& (15 : Int32)) = (4 : Int32))
        (zx_bd (f_S_size G) fun r_48 G_47 =>
        zx_bd (f_M_size G_47) fun r_51 G_50 =>
        zx_if (r_48 = r_51)
          (f_L_law_438 L xs (f_L_law_18 L xs n) x3 G_50)
          (zx_gd (zx_01 (0 : Int32)) <| some ((0 : Int32), G_50)))
        (zx_if (((xs (Int32.toNatClampNeg x3)) &&& (15 : Int32)) = (5 : Int32))
        (zx_bd (f_S_decode G) fun r_57 G_56 =>
        zx_bd (f_M_decode G_56) fun r_60 G_59 =>
        zx_if (r_57 = r_60)
          (f_L_law_438 L xs (f_L_law_18 L xs n) x3 G_59)
          (zx_gd (zx_01 (0 : Int32)) <| some ((0 : Int32), G_59)))
        (zx_if (((xs (Int32.toNatClampNeg x3)) &&& (15 : Int32)) = (6 : Int32))
        (zx_bd (f_S_planes G) fun r_66 G_65 =>
        zx_bd (f_M_planes G_65) fun r_69 G_68 =>
        zx_if (r_66 = r_69)
          (f_L_law_438 L xs (f_L_law_18 L xs n) x3 G_68)
          (zx_gd (zx_01 (0 : Int32)) <| some ((0 : Int32), G_68)))
        (zx_if (((xs (Int32.toNatClampNeg x3)) &&& (15 : Int32)) = (7 : Int32))
        (zx_bd (f_S_width G) fun r_75 G_74 =>
        zx_bd (f_M_width G_74) fun r_78 G_77 =>
        zx_if (r_75 = r_78)
          (f_L_law_438 L xs (f_L_law_18 L xs n) x3 G_77)
          (zx_gd (zx_01 (0 : Int32)) <| some ((0 : Int32), G_77)))
        (zx_if (((xs (Int32.toNatClampNeg x3)) &&& (15 : Int32)) = (8 : Int32))
        (zx_bd (f_S_height G) fun r_84 G_83 =>
        zx_bd (f_M_height G_83) fun r_87 G_86 =>
        zx_if (r_84 = r_87)
          (f_L_law_438 L xs (f_L_law_18 L xs n) x3 G_86)
          (zx_gd (zx_01 (0 : Int32)) <| some ((0 : Int32), G_86)))
        (zx_if (((xs (Int32.toNatClampNeg x3)) &&& (15 : Int32)) = (9 : Int32))
        (zx_bd (f_S_depth G) fun r_93 G_92 =>
        zx_bd (f_M_depth G_92) fun r_96 G_95 =>
        zx_if (r_93 = r_96)
          (f_L_law_438 L xs (f_L_law_18 L xs n) x3 G_95)
          (zx_gd (zx_01 (0 : Int32)) <| some ((0 : Int32), G_95)))
        (zx_if (((xs (Int32.toNatClampNeg x3)) &&& (15 : Int32)) = (10 : Int32))
        (zx_gd (zx_in (x3 + (1 : Int32)) L) <|
        zx_gd (zx_in (x3 + (2 : Int32)) L) <|
        zx_gd (zx_in (x3 + (3 : Int32)) L) <|
        zx_bd (f_S_sample (xs (Int32.toNatClampNeg (x3 + (1 : Int32)))) (xs (Int32.toNatClampNeg (x3 + (2 : Int32)))) (xs (Int32.toNatClampNeg (x3 + (3 : Int32)))) G) fun r_105 G_104 =>
        zx_gd (zx_in (x3 + (1 : Int32)) L) <|
        zx_gd (zx_in (x3 + (2 : Int32)) L) <|
        zx_gd (zx_in (x3 + (3 : Int32)) L) <|
        zx_bd (f_M_sample (xs (Int32.toNatClampNeg (x3 + (1 : Int32)))) (xs (Int32.toNatClampNeg (x3 + (2 : Int32)))) (xs (Int32.toNatClampNeg (x3 + (3 : Int32)))) G_104) fun r_111 G_110 =>
        zx_if (r_105 = r_111)
          (f_L_law_438 L xs (f_L_law_18 L xs n) x3 G_110)
          (zx_gd (zx_01 (0 : Int32)) <| some ((0 : Int32), G_110)))
        (zx_if (((xs (Int32.toNatClampNeg x3)) &&& (15 : Int32)) = (11 : Int32))
        (zx_gd (zx_in (x3 + (1 : Int32)) L) <|
        zx_gd (zx_in (x3 + (2 : Int32)) L) <|
        zx_gd (zx_in (x3 + (3 : Int32)) L) <|
        zx_bd (f_S_block (xs (Int32.toNatClampNeg (x3 + (1 : Int32)))) (xs (Int32.toNatClampNeg (x3 + (2 : Int32)))) (xs (Int32.toNatClampNeg (x3 + (3 : Int32)))) G) fun r_120 G_119 =>
        zx_gd (zx_in (x3 + (1 : Int32)) L) <|
        zx_gd (zx_in (x3 + (2 : Int32)) L) <|
        zx_gd (zx_in (x3 + (3 : Int32)) L) <|
        zx_bd (f_M_block (xs (Int32.toNatClampNeg (x3 + (1 : Int32)))) (xs (Int32.toNatClampNeg (x3 + (2 : Int32)))) (xs (Int32.toNatClampNeg (x3 + (3 : Int32)))) G_119) fun r_126 G_125 =>
        zx_if (r_120 = r_126)
          (f_L_law_438 L xs (f_L_law_18 L xs n) x3 G_125)
          (zx_gd (zx_01 (0 : Int32)) <| some ((0 : Int32), G_125)))
        (zx_if (((xs (Int32.toNatClampNeg x3)) &&& (15 : Int32)) = (12 : Int32))
        (zx_bd (f_S_blocks G) fun r_132 G_131 =>
        zx_bd (f_M_blocks G_131) fun r_135 G_134 =>
        zx_if (r_132 = r_135)
          (f_L_law_438 L xs (f_L_law_18 L xs n) x3 G_134)
          (zx_gd (zx_01 (0 : Int32)) <| some ((0 : Int32), G_134)))
        (zx_if (((xs (Int32.toNatClampNeg x3)) &&& (15 : Int32)) = (13 : Int32))
        (zx_bd (f_S_symbols G) fun r_141 G_140 =>
        zx_bd (f_M_symbols G_140) fun r_144 G_143 =>
        zx_if (r_141 = r_144)
          (f_L_law_438 L xs (f_L_law_18 L xs n) x3 G_143)
          (zx_gd (zx_01 (0 : Int32)) <| some ((0 : Int32), G_143)))
        (zx_if (((xs (Int32.toNatClampNeg x3)) &&& (15 : Int32)) = (14 : Int32))
        (zx_bd (f_S_taken G) fun r_150 G_149 =>
        zx_bd (f_M_taken G_149) fun r_153 G_152 =>
        zx_if (r_150 = r_153)
          (f_L_law_438 L xs (f_L_law_18 L xs n) x3 G_152)
          (zx_gd (zx_01 (0 : Int32)) <| some ((0 : Int32), G_152)))
        (zx_if (((xs (Int32.toNatClampNeg x3)) &&& (15 : Int32)) = (15 : Int32))
        (zx_gd (zx_in (x3 + (1 : Int32)) L) <|
        zx_gd (zx_in (x3 + (2 : Int32)) L) <|
        zx_bd (f_S_table (xs (Int32.toNatClampNeg (x3 + (1 : Int32)))) (xs (Int32.toNatClampNeg (x3 + (2 : Int32)))) G) fun r_161 G_160 =>
        zx_gd (zx_in (x3 + (1 : Int32)) L) <|
        zx_gd (zx_in (x3 + (2 : Int32)) L) <|
        zx_bd (f_M_table (xs (Int32.toNatClampNeg (x3 + (1 : Int32)))) (xs (Int32.toNatClampNeg (x3 + (2 : Int32)))) G_160) fun r_166 G_165 =>
        zx_if (r_161 = r_166)
          (f_L_law_438 L xs (f_L_law_18 L xs n) x3 G_165)
          (zx_gd (zx_01 (0 : Int32)) <| some ((0 : Int32), G_165)))
        (f_L_law_438 L xs (f_L_law_18 L xs n) x3 G)))))))))))))))))
def f_L_law (L : Nat) (xs : Nat → Int32) (G : zx_G) : Option (Int32 × zx_G) :=
  zx_lt (0 : Int32) fun x3_1 =>
  f_L_law_18 L xs 600 x3_1 G
set_option maxRecDepth 100000 in
set_option maxHeartbeats 4000000 in
theorem z_L_law_438 {κ : zx_K} {ad : Nat → Nat} {r : Int32} {G1 : zx_G} (h : zx_C M_L_law κ ad) (hE : zx_EL M_L_law κ ad r G1) {L : Nat} {xs : Nat → Int32} (hX : zx_X κ ad L xs) {k18 : Int32 → zx_G → Option (Int32 × zx_G)} (hk18 : ∀ (x3 : Int32) (G : zx_G), k18 x3 G = some (r, G1) → zx_Z κ ad 18 [(0, .ref (ad 103)), (1, .ref (ad 0)), (2, .ref (ad 32)), (3, .int x3)] [] G) (x3 : Int32) (G : zx_G) (hf : f_L_law_438 L xs k18 x3 G = some (r, G1)) : zx_Z κ ad 438 [(0, .ref (ad 103)), (1, .ref (ad 0)), (2, .ref (ad 32)), (3, .int x3)] [] G := by
  unfold f_L_law_438 at hf
  obtain ⟨x3_1, ex3_1, hf⟩ := zx_lt_some hf
  refine zr_iinc (j := 3) h d_L_law_438 rfl rfl (by decide) ex3_1 (by decide) rfl ?_
  refine zr_goto (tgt := 18) h d_L_law_441 rfl ?_
  refine zr_sub [1, 2, 3, 0] rfl ?_
  exact hk18 x3_1 G hf
set_option maxRecDepth 100000 in
set_option maxHeartbeats 4000000 in
theorem z_L_law_18 {κ : zx_K} {ad : Nat → Nat} {r : Int32} {G1 : zx_G} (h : zx_C M_L_law κ ad) (hE : zx_EL M_L_law κ ad r G1) {L : Nat} {xs : Nat → Int32} (hX : zx_X κ ad L xs) : ∀ (n : Nat) (x3 : Int32) (G : zx_G), f_L_law_18 L xs n x3 G = some (r, G1) → zx_Z κ ad 18 [(0, .ref (ad 103)), (1, .ref (ad 0)), (2, .ref (ad 32)), (3, .int x3)] [] G := by
  intro n
  induction n with
  | zero => intro x3 G hf; cases hf
  | succ n ih =>
    intro x3 G hf
    unfold f_L_law_18 at hf
    refine zr_iload_n h d_L_law_18 rfl rfl 3 rfl ?_
    refine zr_aload_n h d_L_law_19 rfl rfl 0 rfl ?_
    refine zr_slen h hX d_L_law_20 rfl ?_
    refine zr_iconst (v := (4 : Int32)) h d_L_law_21 rfl (by decide) ?_
    refine zr_isub h d_L_law_22 rfl ?_
    rcases zx_if_some hf with ⟨hc_1, hf⟩ | ⟨hc_1, hf⟩
    · refine zr_icmp_gt_t (tgt := 444) h d_L_law_23 rfl hc_1 ?_
      refine zr_iconst (v := (1 : Int32)) h d_L_law_444 rfl (by decide) ?_
      obtain ⟨hb_2, hf⟩ := zx_gd_some hf
      exact zr_lret h hE d_L_law_445 hf
    · refine zr_icmp_gt_f h 444 d_L_law_23 rfl rfl hc_1 ?_
      refine zr_aload_n h d_L_law_26 rfl rfl 0 rfl ?_
      refine zr_iload_n h d_L_law_27 rfl rfl 3 rfl ?_
      obtain ⟨hb_3, hf⟩ := zx_gd_some hf
      refine zr_sld h hX d_L_law_28 rfl hb_3 ?_
      refine zr_bipush (v := (15 : Int32)) h d_L_law_29 rfl (by decide) ?_
      refine zr_iand h d_L_law_31 rfl ?_
      rcases zx_if_some hf with ⟨hc_4, hf⟩ | ⟨hc_4, hf⟩
      · refine zr_tsw_in (tgt := 112) (off := 80) (v := (0 : Int32)) h d_L_law_32 hc_4 (by decide) (by decide) (by decide) rfl ?_
        refine zr_aload_n h d_L_law_112 rfl rfl 1 rfl ?_
        refine zr_aload_n h d_L_law_113 rfl rfl 0 rfl ?_
        refine zr_iload_n h d_L_law_114 rfl rfl 3 rfl ?_
        refine zr_iconst (v := (1 : Int32)) h d_L_law_115 rfl (by decide) ?_
        refine zr_iadd h d_L_law_116 rfl ?_
        obtain ⟨hb_5, hf⟩ := zx_gd_some hf
        refine zr_sld h hX d_L_law_117 rfl hb_5 ?_
        obtain ⟨r_7, G_6, hq_8, hf⟩ := zx_bd_some hf
        refine zr_callVI (As := [.int (xs (Int32.toNatClampNeg (x3 + (1 : Int32))))]) (b := 0) h (c_S_add _ _ _ _ _ (xs (Int32.toNatClampNeg (x3 + (1 : Int32)))) G r_7 G_6 hq_8) cc_L_13 d_L_law_118 rfl rfl rfl sh_0 ⟨rfl, rfl, by decide, by decide⟩ (Nat.le_of_ble_eq_true rfl) ?_
        refine zr_aload_n h d_L_law_121 rfl rfl 2 rfl ?_
        refine zr_aload_n h d_L_law_122 rfl rfl 0 rfl ?_
        refine zr_iload_n h d_L_law_123 rfl rfl 3 rfl ?_
        refine zr_iconst (v := (1 : Int32)) h d_L_law_124 rfl (by decide) ?_
        refine zr_iadd h d_L_law_125 rfl ?_
        obtain ⟨hb_9, hf⟩ := zx_gd_some hf
        refine zr_sld h hX d_L_law_126 rfl hb_9 ?_
        obtain ⟨r_11, G_10, hq_12, hf⟩ := zx_bd_some hf
        refine zr_callVI (As := [.int (xs (Int32.toNatClampNeg (x3 + (1 : Int32))))]) (b := 32) h (c_M_add _ _ _ _ _ (xs (Int32.toNatClampNeg (x3 + (1 : Int32)))) G_6 r_11 G_10 hq_12) cc_L_17 d_L_law_127 rfl rfl rfl sh_32 ⟨rfl, rfl, by decide, by decide⟩ (Nat.le_of_ble_eq_true rfl) ?_
        rcases zx_if_some hf with ⟨hc_13, hf⟩ | ⟨hc_13, hf⟩
        · refine zr_icmp_eq_t (tgt := 438) h d_L_law_130 rfl hc_13 ?_
          exact z_L_law_438 h hE hX ih x3 G_10 hf
        · refine zr_icmp_eq_f h 438 d_L_law_130 rfl rfl hc_13 ?_
          refine zr_iconst (v := (0 : Int32)) h d_L_law_133 rfl (by decide) ?_
          obtain ⟨hb_14, hf⟩ := zx_gd_some hf
          exact zr_lret h hE d_L_law_134 hf
      · skip
        rcases zx_if_some hf with ⟨hc_15, hf⟩ | ⟨hc_15, hf⟩
        · refine zr_tsw_in (tgt := 135) (off := 103) (v := (1 : Int32)) h d_L_law_32 hc_15 (by decide) (by decide) (by decide) rfl ?_
          refine zr_aload_n h d_L_law_135 rfl rfl 1 rfl ?_
          refine zr_aload_n h d_L_law_136 rfl rfl 0 rfl ?_
          refine zr_iload_n h d_L_law_137 rfl rfl 3 rfl ?_
          refine zr_iconst (v := (1 : Int32)) h d_L_law_138 rfl (by decide) ?_
          refine zr_iadd h d_L_law_139 rfl ?_
          obtain ⟨hb_16, hf⟩ := zx_gd_some hf
          refine zr_sld h hX d_L_law_140 rfl hb_16 ?_
          obtain ⟨r_18, G_17, hq_19, hf⟩ := zx_bd_some hf
          refine zr_callVI (As := [.int (xs (Int32.toNatClampNeg (x3 + (1 : Int32))))]) (b := 0) h (c_S_word _ _ _ _ _ (xs (Int32.toNatClampNeg (x3 + (1 : Int32)))) G r_18 G_17 hq_19) cc_L_18 d_L_law_141 rfl rfl rfl sh_0 ⟨rfl, rfl, by decide, by decide⟩ (Nat.le_of_ble_eq_true rfl) ?_
          refine zr_aload_n h d_L_law_144 rfl rfl 2 rfl ?_
          refine zr_aload_n h d_L_law_145 rfl rfl 0 rfl ?_
          refine zr_iload_n h d_L_law_146 rfl rfl 3 rfl ?_
          refine zr_iconst (v := (1 : Int32)) h d_L_law_147 rfl (by decide) ?_
          refine zr_iadd h d_L_law_148 rfl ?_
          obtain ⟨hb_20, hf⟩ := zx_gd_some hf
          refine zr_sld h hX d_L_law_149 rfl hb_20 ?_
          obtain ⟨r_22, G_21, hq_23, hf⟩ := zx_bd_some hf
          refine zr_callVI (As := [.int (xs (Int32.toNatClampNeg (x3 + (1 : Int32))))]) (b := 32) h (c_M_word _ _ _ _ _ (xs (Int32.toNatClampNeg (x3 + (1 : Int32)))) G_17 r_22 G_21 hq_23) cc_L_21 d_L_law_150 rfl rfl rfl sh_32 ⟨rfl, rfl, by decide, by decide⟩ (Nat.le_of_ble_eq_true rfl) ?_
          rcases zx_if_some hf with ⟨hc_24, hf⟩ | ⟨hc_24, hf⟩
          · refine zr_icmp_eq_t (tgt := 438) h d_L_law_153 rfl hc_24 ?_
            exact z_L_law_438 h hE hX ih x3 G_21 hf
          · refine zr_icmp_eq_f h 438 d_L_law_153 rfl rfl hc_24 ?_
            refine zr_iconst (v := (0 : Int32)) h d_L_law_156 rfl (by decide) ?_
            obtain ⟨hb_25, hf⟩ := zx_gd_some hf
            exact zr_lret h hE d_L_law_157 hf
        · skip
          rcases zx_if_some hf with ⟨hc_26, hf⟩ | ⟨hc_26, hf⟩
          · refine zr_tsw_in (tgt := 158) (off := 126) (v := (2 : Int32)) h d_L_law_32 hc_26 (by decide) (by decide) (by decide) rfl ?_
            refine zr_aload_n h d_L_law_158 rfl rfl 1 rfl ?_
            refine zr_aload_n h d_L_law_159 rfl rfl 0 rfl ?_
            refine zr_iload_n h d_L_law_160 rfl rfl 3 rfl ?_
            refine zr_iconst (v := (1 : Int32)) h d_L_law_161 rfl (by decide) ?_
            refine zr_iadd h d_L_law_162 rfl ?_
            obtain ⟨hb_27, hf⟩ := zx_gd_some hf
            refine zr_sld h hX d_L_law_163 rfl hb_27 ?_
            refine zr_aload_n h d_L_law_164 rfl rfl 0 rfl ?_
            refine zr_iload_n h d_L_law_165 rfl rfl 3 rfl ?_
            refine zr_iconst (v := (2 : Int32)) h d_L_law_166 rfl (by decide) ?_
            refine zr_iadd h d_L_law_167 rfl ?_
            obtain ⟨hb_28, hf⟩ := zx_gd_some hf
            refine zr_sld h hX d_L_law_168 rfl hb_28 ?_
            obtain ⟨r_30, G_29, hq_31, hf⟩ := zx_bd_some hf
            refine zr_callVI (As := [.int (xs (Int32.toNatClampNeg (x3 + (1 : Int32)))), .int (xs (Int32.toNatClampNeg (x3 + (2 : Int32))))]) (b := 0) h (c_S_patch _ _ _ _ _ (xs (Int32.toNatClampNeg (x3 + (1 : Int32)))) (xs (Int32.toNatClampNeg (x3 + (2 : Int32)))) G r_30 G_29 hq_31) cc_L_22 d_L_law_169 rfl rfl rfl sh_0 ⟨rfl, rfl, by decide, by decide⟩ (Nat.le_of_ble_eq_true rfl) ?_
            refine zr_aload_n h d_L_law_172 rfl rfl 2 rfl ?_
            refine zr_aload_n h d_L_law_173 rfl rfl 0 rfl ?_
            refine zr_iload_n h d_L_law_174 rfl rfl 3 rfl ?_
            refine zr_iconst (v := (1 : Int32)) h d_L_law_175 rfl (by decide) ?_
            refine zr_iadd h d_L_law_176 rfl ?_
            obtain ⟨hb_32, hf⟩ := zx_gd_some hf
            refine zr_sld h hX d_L_law_177 rfl hb_32 ?_
            refine zr_aload_n h d_L_law_178 rfl rfl 0 rfl ?_
            refine zr_iload_n h d_L_law_179 rfl rfl 3 rfl ?_
            refine zr_iconst (v := (2 : Int32)) h d_L_law_180 rfl (by decide) ?_
            refine zr_iadd h d_L_law_181 rfl ?_
            obtain ⟨hb_33, hf⟩ := zx_gd_some hf
            refine zr_sld h hX d_L_law_182 rfl hb_33 ?_
            obtain ⟨r_35, G_34, hq_36, hf⟩ := zx_bd_some hf
            refine zr_callVI (As := [.int (xs (Int32.toNatClampNeg (x3 + (1 : Int32)))), .int (xs (Int32.toNatClampNeg (x3 + (2 : Int32))))]) (b := 32) h (c_M_patch _ _ _ _ _ (xs (Int32.toNatClampNeg (x3 + (1 : Int32)))) (xs (Int32.toNatClampNeg (x3 + (2 : Int32)))) G_29 r_35 G_34 hq_36) cc_L_26 d_L_law_183 rfl rfl rfl sh_32 ⟨rfl, rfl, by decide, by decide⟩ (Nat.le_of_ble_eq_true rfl) ?_
            rcases zx_if_some hf with ⟨hc_37, hf⟩ | ⟨hc_37, hf⟩
            · refine zr_icmp_eq_t (tgt := 438) h d_L_law_186 rfl hc_37 ?_
              exact z_L_law_438 h hE hX ih x3 G_34 hf
            · refine zr_icmp_eq_f h 438 d_L_law_186 rfl rfl hc_37 ?_
              refine zr_iconst (v := (0 : Int32)) h d_L_law_189 rfl (by decide) ?_
              obtain ⟨hb_38, hf⟩ := zx_gd_some hf
              exact zr_lret h hE d_L_law_190 hf
          · skip
            rcases zx_if_some hf with ⟨hc_39, hf⟩ | ⟨hc_39, hf⟩
            · refine zr_tsw_in (tgt := 191) (off := 159) (v := (3 : Int32)) h d_L_law_32 hc_39 (by decide) (by decide) (by decide) rfl ?_
              refine zr_aload_n h d_L_law_191 rfl rfl 1 rfl ?_
              obtain ⟨r_41, G_40, hq_42, hf⟩ := zx_bd_some hf
              refine zr_callVV (As := []) (b := 0) h (c_S_clear _ _ _ _ _ G r_41 G_40 hq_42) cc_L_27 d_L_law_192 rfl rfl rfl sh_0 ⟨rfl, rfl, by decide, by decide⟩ (Nat.le_of_ble_eq_true rfl) ?_
              refine zr_aload_n h d_L_law_195 rfl rfl 2 rfl ?_
              obtain ⟨r_44, G_43, hq_45, hf⟩ := zx_bd_some hf
              refine zr_callVV (As := []) (b := 32) h (c_M_clear _ _ _ _ _ G_40 r_44 G_43 hq_45) cc_L_30 d_L_law_196 rfl rfl rfl sh_32 ⟨rfl, rfl, by decide, by decide⟩ (Nat.le_of_ble_eq_true rfl) ?_
              refine zr_goto (tgt := 438) h d_L_law_199 rfl ?_
              exact z_L_law_438 h hE hX ih x3 G_43 hf
            · skip
              rcases zx_if_some hf with ⟨hc_46, hf⟩ | ⟨hc_46, hf⟩
              · refine zr_tsw_in (tgt := 202) (off := 170) (v := (4 : Int32)) h d_L_law_32 hc_46 (by decide) (by decide) (by decide) rfl ?_
                refine zr_aload_n h d_L_law_202 rfl rfl 1 rfl ?_
                obtain ⟨r_48, G_47, hq_49, hf⟩ := zx_bd_some hf
                refine zr_callVI (As := []) (b := 0) h (c_S_size _ _ _ _ _ G r_48 G_47 hq_49) cc_L_31 d_L_law_203 rfl rfl rfl sh_0 ⟨rfl, rfl, by decide, by decide⟩ (Nat.le_of_ble_eq_true rfl) ?_
                refine zr_aload_n h d_L_law_206 rfl rfl 2 rfl ?_
                obtain ⟨r_51, G_50, hq_52, hf⟩ := zx_bd_some hf
                refine zr_callVI (As := []) (b := 32) h (c_M_size _ _ _ _ _ G_47 r_51 G_50 hq_52) cc_L_35 d_L_law_207 rfl rfl rfl sh_32 ⟨rfl, rfl, by decide, by decide⟩ (Nat.le_of_ble_eq_true rfl) ?_
                rcases zx_if_some hf with ⟨hc_53, hf⟩ | ⟨hc_53, hf⟩
                · refine zr_icmp_eq_t (tgt := 438) h d_L_law_210 rfl hc_53 ?_
                  exact z_L_law_438 h hE hX ih x3 G_50 hf
                · refine zr_icmp_eq_f h 438 d_L_law_210 rfl rfl hc_53 ?_
                  refine zr_iconst (v := (0 : Int32)) h d_L_law_213 rfl (by decide) ?_
                  obtain ⟨hb_54, hf⟩ := zx_gd_some hf
                  exact zr_lret h hE d_L_law_214 hf
              · skip
                rcases zx_if_some hf with ⟨hc_55, hf⟩ | ⟨hc_55, hf⟩
                · refine zr_tsw_in (tgt := 215) (off := 183) (v := (5 : Int32)) h d_L_law_32 hc_55 (by decide) (by decide) (by decide) rfl ?_
                  refine zr_aload_n h d_L_law_215 rfl rfl 1 rfl ?_
                  obtain ⟨r_57, G_56, hq_58, hf⟩ := zx_bd_some hf
                  refine zr_callVI (As := []) (b := 0) h (c_S_decode _ _ _ _ _ G r_57 G_56 hq_58) cc_L_36 d_L_law_216 rfl rfl rfl sh_0 ⟨rfl, rfl, by decide, by decide⟩ (Nat.le_of_ble_eq_true rfl) ?_
                  refine zr_aload_n h d_L_law_219 rfl rfl 2 rfl ?_
                  obtain ⟨r_60, G_59, hq_61, hf⟩ := zx_bd_some hf
                  refine zr_callVI (As := []) (b := 32) h (c_M_decode _ _ _ _ _ G_56 r_60 G_59 hq_61) cc_L_39 d_L_law_220 rfl rfl rfl sh_32 ⟨rfl, rfl, by decide, by decide⟩ (Nat.le_of_ble_eq_true rfl) ?_
                  rcases zx_if_some hf with ⟨hc_62, hf⟩ | ⟨hc_62, hf⟩
                  · refine zr_icmp_eq_t (tgt := 438) h d_L_law_223 rfl hc_62 ?_
                    exact z_L_law_438 h hE hX ih x3 G_59 hf
                  · refine zr_icmp_eq_f h 438 d_L_law_223 rfl rfl hc_62 ?_
                    refine zr_iconst (v := (0 : Int32)) h d_L_law_226 rfl (by decide) ?_
                    obtain ⟨hb_63, hf⟩ := zx_gd_some hf
                    exact zr_lret h hE d_L_law_227 hf
                · skip
                  rcases zx_if_some hf with ⟨hc_64, hf⟩ | ⟨hc_64, hf⟩
                  · refine zr_tsw_in (tgt := 228) (off := 196) (v := (6 : Int32)) h d_L_law_32 hc_64 (by decide) (by decide) (by decide) rfl ?_
                    refine zr_aload_n h d_L_law_228 rfl rfl 1 rfl ?_
                    obtain ⟨r_66, G_65, hq_67, hf⟩ := zx_bd_some hf
                    refine zr_callVI (As := []) (b := 0) h (c_S_planes _ _ _ _ _ G r_66 G_65 hq_67) cc_L_40 d_L_law_229 rfl rfl rfl sh_0 ⟨rfl, rfl, by decide, by decide⟩ (Nat.le_of_ble_eq_true rfl) ?_
                    refine zr_aload_n h d_L_law_232 rfl rfl 2 rfl ?_
                    obtain ⟨r_69, G_68, hq_70, hf⟩ := zx_bd_some hf
                    refine zr_callVI (As := []) (b := 32) h (c_M_planes _ _ _ _ _ G_65 r_69 G_68 hq_70) cc_L_43 d_L_law_233 rfl rfl rfl sh_32 ⟨rfl, rfl, by decide, by decide⟩ (Nat.le_of_ble_eq_true rfl) ?_
                    rcases zx_if_some hf with ⟨hc_71, hf⟩ | ⟨hc_71, hf⟩
                    · refine zr_icmp_eq_t (tgt := 438) h d_L_law_236 rfl hc_71 ?_
                      exact z_L_law_438 h hE hX ih x3 G_68 hf
                    · refine zr_icmp_eq_f h 438 d_L_law_236 rfl rfl hc_71 ?_
                      refine zr_iconst (v := (0 : Int32)) h d_L_law_239 rfl (by decide) ?_
                      obtain ⟨hb_72, hf⟩ := zx_gd_some hf
                      exact zr_lret h hE d_L_law_240 hf
                  · skip
                    rcases zx_if_some hf with ⟨hc_73, hf⟩ | ⟨hc_73, hf⟩
                    · refine zr_tsw_in (tgt := 241) (off := 209) (v := (7 : Int32)) h d_L_law_32 hc_73 (by decide) (by decide) (by decide) rfl ?_
                      refine zr_aload_n h d_L_law_241 rfl rfl 1 rfl ?_
                      obtain ⟨r_75, G_74, hq_76, hf⟩ := zx_bd_some hf
                      refine zr_callVI (As := []) (b := 0) h (c_S_width _ _ _ _ _ G r_75 G_74 hq_76) cc_L_44 d_L_law_242 rfl rfl rfl sh_0 ⟨rfl, rfl, by decide, by decide⟩ (Nat.le_of_ble_eq_true rfl) ?_
                      refine zr_aload_n h d_L_law_245 rfl rfl 2 rfl ?_
                      obtain ⟨r_78, G_77, hq_79, hf⟩ := zx_bd_some hf
                      refine zr_callVI (As := []) (b := 32) h (c_M_width _ _ _ _ _ G_74 r_78 G_77 hq_79) cc_L_47 d_L_law_246 rfl rfl rfl sh_32 ⟨rfl, rfl, by decide, by decide⟩ (Nat.le_of_ble_eq_true rfl) ?_
                      rcases zx_if_some hf with ⟨hc_80, hf⟩ | ⟨hc_80, hf⟩
                      · refine zr_icmp_eq_t (tgt := 438) h d_L_law_249 rfl hc_80 ?_
                        exact z_L_law_438 h hE hX ih x3 G_77 hf
                      · refine zr_icmp_eq_f h 438 d_L_law_249 rfl rfl hc_80 ?_
                        refine zr_iconst (v := (0 : Int32)) h d_L_law_252 rfl (by decide) ?_
                        obtain ⟨hb_81, hf⟩ := zx_gd_some hf
                        exact zr_lret h hE d_L_law_253 hf
                    · skip
                      rcases zx_if_some hf with ⟨hc_82, hf⟩ | ⟨hc_82, hf⟩
                      · refine zr_tsw_in (tgt := 254) (off := 222) (v := (8 : Int32)) h d_L_law_32 hc_82 (by decide) (by decide) (by decide) rfl ?_
                        refine zr_aload_n h d_L_law_254 rfl rfl 1 rfl ?_
                        obtain ⟨r_84, G_83, hq_85, hf⟩ := zx_bd_some hf
                        refine zr_callVI (As := []) (b := 0) h (c_S_height _ _ _ _ _ G r_84 G_83 hq_85) cc_L_48 d_L_law_255 rfl rfl rfl sh_0 ⟨rfl, rfl, by decide, by decide⟩ (Nat.le_of_ble_eq_true rfl) ?_
                        refine zr_aload_n h d_L_law_258 rfl rfl 2 rfl ?_
                        obtain ⟨r_87, G_86, hq_88, hf⟩ := zx_bd_some hf
                        refine zr_callVI (As := []) (b := 32) h (c_M_height _ _ _ _ _ G_83 r_87 G_86 hq_88) cc_L_51 d_L_law_259 rfl rfl rfl sh_32 ⟨rfl, rfl, by decide, by decide⟩ (Nat.le_of_ble_eq_true rfl) ?_
                        rcases zx_if_some hf with ⟨hc_89, hf⟩ | ⟨hc_89, hf⟩
                        · refine zr_icmp_eq_t (tgt := 438) h d_L_law_262 rfl hc_89 ?_
                          exact z_L_law_438 h hE hX ih x3 G_86 hf
                        · refine zr_icmp_eq_f h 438 d_L_law_262 rfl rfl hc_89 ?_
                          refine zr_iconst (v := (0 : Int32)) h d_L_law_265 rfl (by decide) ?_
                          obtain ⟨hb_90, hf⟩ := zx_gd_some hf
                          exact zr_lret h hE d_L_law_266 hf
                      · skip
                        rcases zx_if_some hf with ⟨hc_91, hf⟩ | ⟨hc_91, hf⟩
                        · refine zr_tsw_in (tgt := 267) (off := 235) (v := (9 : Int32)) h d_L_law_32 hc_91 (by decide) (by decide) (by decide) rfl ?_
                          refine zr_aload_n h d_L_law_267 rfl rfl 1 rfl ?_
                          obtain ⟨r_93, G_92, hq_94, hf⟩ := zx_bd_some hf
                          refine zr_callVI (As := []) (b := 0) h (c_S_depth _ _ _ _ _ G r_93 G_92 hq_94) cc_L_52 d_L_law_268 rfl rfl rfl sh_0 ⟨rfl, rfl, by decide, by decide⟩ (Nat.le_of_ble_eq_true rfl) ?_
                          refine zr_aload_n h d_L_law_271 rfl rfl 2 rfl ?_
                          obtain ⟨r_96, G_95, hq_97, hf⟩ := zx_bd_some hf
                          refine zr_callVI (As := []) (b := 32) h (c_M_depth _ _ _ _ _ G_92 r_96 G_95 hq_97) cc_L_55 d_L_law_272 rfl rfl rfl sh_32 ⟨rfl, rfl, by decide, by decide⟩ (Nat.le_of_ble_eq_true rfl) ?_
                          rcases zx_if_some hf with ⟨hc_98, hf⟩ | ⟨hc_98, hf⟩
                          · refine zr_icmp_eq_t (tgt := 438) h d_L_law_275 rfl hc_98 ?_
                            exact z_L_law_438 h hE hX ih x3 G_95 hf
                          · refine zr_icmp_eq_f h 438 d_L_law_275 rfl rfl hc_98 ?_
                            refine zr_iconst (v := (0 : Int32)) h d_L_law_278 rfl (by decide) ?_
                            obtain ⟨hb_99, hf⟩ := zx_gd_some hf
                            exact zr_lret h hE d_L_law_279 hf
                        · skip
                          rcases zx_if_some hf with ⟨hc_100, hf⟩ | ⟨hc_100, hf⟩
                          · refine zr_tsw_in (tgt := 280) (off := 248) (v := (10 : Int32)) h d_L_law_32 hc_100 (by decide) (by decide) (by decide) rfl ?_
                            refine zr_aload_n h d_L_law_280 rfl rfl 1 rfl ?_
                            refine zr_aload_n h d_L_law_281 rfl rfl 0 rfl ?_
                            refine zr_iload_n h d_L_law_282 rfl rfl 3 rfl ?_
                            refine zr_iconst (v := (1 : Int32)) h d_L_law_283 rfl (by decide) ?_
                            refine zr_iadd h d_L_law_284 rfl ?_
                            obtain ⟨hb_101, hf⟩ := zx_gd_some hf
                            refine zr_sld h hX d_L_law_285 rfl hb_101 ?_
                            refine zr_aload_n h d_L_law_286 rfl rfl 0 rfl ?_
                            refine zr_iload_n h d_L_law_287 rfl rfl 3 rfl ?_
                            refine zr_iconst (v := (2 : Int32)) h d_L_law_288 rfl (by decide) ?_
                            refine zr_iadd h d_L_law_289 rfl ?_
                            obtain ⟨hb_102, hf⟩ := zx_gd_some hf
                            refine zr_sld h hX d_L_law_290 rfl hb_102 ?_
                            refine zr_aload_n h d_L_law_291 rfl rfl 0 rfl ?_
                            refine zr_iload_n h d_L_law_292 rfl rfl 3 rfl ?_
                            refine zr_iconst (v := (3 : Int32)) h d_L_law_293 rfl (by decide) ?_
                            refine zr_iadd h d_L_law_294 rfl ?_
                            obtain ⟨hb_103, hf⟩ := zx_gd_some hf
                            refine zr_sld h hX d_L_law_295 rfl hb_103 ?_
                            obtain ⟨r_105, G_104, hq_106, hf⟩ := zx_bd_some hf
                            refine zr_callVI (As := [.int (xs (Int32.toNatClampNeg (x3 + (1 : Int32)))), .int (xs (Int32.toNatClampNeg (x3 + (2 : Int32)))), .int (xs (Int32.toNatClampNeg (x3 + (3 : Int32))))]) (b := 0) h (c_S_sample _ _ _ _ _ (xs (Int32.toNatClampNeg (x3 + (1 : Int32)))) (xs (Int32.toNatClampNeg (x3 + (2 : Int32)))) (xs (Int32.toNatClampNeg (x3 + (3 : Int32)))) G r_105 G_104 hq_106) cc_L_56 d_L_law_296 rfl rfl rfl sh_0 ⟨rfl, rfl, by decide, by decide⟩ (Nat.le_of_ble_eq_true rfl) ?_
                            refine zr_aload_n h d_L_law_299 rfl rfl 2 rfl ?_
                            refine zr_aload_n h d_L_law_300 rfl rfl 0 rfl ?_
                            refine zr_iload_n h d_L_law_301 rfl rfl 3 rfl ?_
                            refine zr_iconst (v := (1 : Int32)) h d_L_law_302 rfl (by decide) ?_
                            refine zr_iadd h d_L_law_303 rfl ?_
                            obtain ⟨hb_107, hf⟩ := zx_gd_some hf
                            refine zr_sld h hX d_L_law_304 rfl hb_107 ?_
                            refine zr_aload_n h d_L_law_305 rfl rfl 0 rfl ?_
                            refine zr_iload_n h d_L_law_306 rfl rfl 3 rfl ?_
                            refine zr_iconst (v := (2 : Int32)) h d_L_law_307 rfl (by decide) ?_
                            refine zr_iadd h d_L_law_308 rfl ?_
                            obtain ⟨hb_108, hf⟩ := zx_gd_some hf
                            refine zr_sld h hX d_L_law_309 rfl hb_108 ?_
                            refine zr_aload_n h d_L_law_310 rfl rfl 0 rfl ?_
                            refine zr_iload_n h d_L_law_311 rfl rfl 3 rfl ?_
                            refine zr_iconst (v := (3 : Int32)) h d_L_law_312 rfl (by decide) ?_
                            refine zr_iadd h d_L_law_313 rfl ?_
                            obtain ⟨hb_109, hf⟩ := zx_gd_some hf
                            refine zr_sld h hX d_L_law_314 rfl hb_109 ?_
                            obtain ⟨r_111, G_110, hq_112, hf⟩ := zx_bd_some hf
                            refine zr_callVI (As := [.int (xs (Int32.toNatClampNeg (x3 + (1 : Int32)))), .int (xs (Int32.toNatClampNeg (x3 + (2 : Int32)))), .int (xs (Int32.toNatClampNeg (x3 + (3 : Int32))))]) (b := 32) h (c_M_sample _ _ _ _ _ (xs (Int32.toNatClampNeg (x3 + (1 : Int32)))) (xs (Int32.toNatClampNeg (x3 + (2 : Int32)))) (xs (Int32.toNatClampNeg (x3 + (3 : Int32)))) G_104 r_111 G_110 hq_112) cc_L_60 d_L_law_315 rfl rfl rfl sh_32 ⟨rfl, rfl, by decide, by decide⟩ (Nat.le_of_ble_eq_true rfl) ?_
                            rcases zx_if_some hf with ⟨hc_113, hf⟩ | ⟨hc_113, hf⟩
                            · refine zr_icmp_eq_t (tgt := 438) h d_L_law_318 rfl hc_113 ?_
                              exact z_L_law_438 h hE hX ih x3 G_110 hf
                            · refine zr_icmp_eq_f h 438 d_L_law_318 rfl rfl hc_113 ?_
                              refine zr_iconst (v := (0 : Int32)) h d_L_law_321 rfl (by decide) ?_
                              obtain ⟨hb_114, hf⟩ := zx_gd_some hf
                              exact zr_lret h hE d_L_law_322 hf
                          · skip
                            rcases zx_if_some hf with ⟨hc_115, hf⟩ | ⟨hc_115, hf⟩
                            · refine zr_tsw_in (tgt := 323) (off := 291) (v := (11 : Int32)) h d_L_law_32 hc_115 (by decide) (by decide) (by decide) rfl ?_
                              refine zr_aload_n h d_L_law_323 rfl rfl 1 rfl ?_
                              refine zr_aload_n h d_L_law_324 rfl rfl 0 rfl ?_
                              refine zr_iload_n h d_L_law_325 rfl rfl 3 rfl ?_
                              refine zr_iconst (v := (1 : Int32)) h d_L_law_326 rfl (by decide) ?_
                              refine zr_iadd h d_L_law_327 rfl ?_
                              obtain ⟨hb_116, hf⟩ := zx_gd_some hf
                              refine zr_sld h hX d_L_law_328 rfl hb_116 ?_
                              refine zr_aload_n h d_L_law_329 rfl rfl 0 rfl ?_
                              refine zr_iload_n h d_L_law_330 rfl rfl 3 rfl ?_
                              refine zr_iconst (v := (2 : Int32)) h d_L_law_331 rfl (by decide) ?_
                              refine zr_iadd h d_L_law_332 rfl ?_
                              obtain ⟨hb_117, hf⟩ := zx_gd_some hf
                              refine zr_sld h hX d_L_law_333 rfl hb_117 ?_
                              refine zr_aload_n h d_L_law_334 rfl rfl 0 rfl ?_
                              refine zr_iload_n h d_L_law_335 rfl rfl 3 rfl ?_
                              refine zr_iconst (v := (3 : Int32)) h d_L_law_336 rfl (by decide) ?_
                              refine zr_iadd h d_L_law_337 rfl ?_
                              obtain ⟨hb_118, hf⟩ := zx_gd_some hf
                              refine zr_sld h hX d_L_law_338 rfl hb_118 ?_
                              obtain ⟨r_120, G_119, hq_121, hf⟩ := zx_bd_some hf
                              refine zr_callVI (As := [.int (xs (Int32.toNatClampNeg (x3 + (1 : Int32)))), .int (xs (Int32.toNatClampNeg (x3 + (2 : Int32)))), .int (xs (Int32.toNatClampNeg (x3 + (3 : Int32))))]) (b := 0) h (c_S_block _ _ _ _ _ (xs (Int32.toNatClampNeg (x3 + (1 : Int32)))) (xs (Int32.toNatClampNeg (x3 + (2 : Int32)))) (xs (Int32.toNatClampNeg (x3 + (3 : Int32)))) G r_120 G_119 hq_121) cc_L_61 d_L_law_339 rfl rfl rfl sh_0 ⟨rfl, rfl, by decide, by decide⟩ (Nat.le_of_ble_eq_true rfl) ?_
                              refine zr_aload_n h d_L_law_342 rfl rfl 2 rfl ?_
                              refine zr_aload_n h d_L_law_343 rfl rfl 0 rfl ?_
                              refine zr_iload_n h d_L_law_344 rfl rfl 3 rfl ?_
                              refine zr_iconst (v := (1 : Int32)) h d_L_law_345 rfl (by decide) ?_
                              refine zr_iadd h d_L_law_346 rfl ?_
                              obtain ⟨hb_122, hf⟩ := zx_gd_some hf
                              refine zr_sld h hX d_L_law_347 rfl hb_122 ?_
                              refine zr_aload_n h d_L_law_348 rfl rfl 0 rfl ?_
                              refine zr_iload_n h d_L_law_349 rfl rfl 3 rfl ?_
                              refine zr_iconst (v := (2 : Int32)) h d_L_law_350 rfl (by decide) ?_
                              refine zr_iadd h d_L_law_351 rfl ?_
                              obtain ⟨hb_123, hf⟩ := zx_gd_some hf
                              refine zr_sld h hX d_L_law_352 rfl hb_123 ?_
                              refine zr_aload_n h d_L_law_353 rfl rfl 0 rfl ?_
                              refine zr_iload_n h d_L_law_354 rfl rfl 3 rfl ?_
                              refine zr_iconst (v := (3 : Int32)) h d_L_law_355 rfl (by decide) ?_
                              refine zr_iadd h d_L_law_356 rfl ?_
                              obtain ⟨hb_124, hf⟩ := zx_gd_some hf
                              refine zr_sld h hX d_L_law_357 rfl hb_124 ?_
                              obtain ⟨r_126, G_125, hq_127, hf⟩ := zx_bd_some hf
                              refine zr_callVI (As := [.int (xs (Int32.toNatClampNeg (x3 + (1 : Int32)))), .int (xs (Int32.toNatClampNeg (x3 + (2 : Int32)))), .int (xs (Int32.toNatClampNeg (x3 + (3 : Int32))))]) (b := 32) h (c_M_block _ _ _ _ _ (xs (Int32.toNatClampNeg (x3 + (1 : Int32)))) (xs (Int32.toNatClampNeg (x3 + (2 : Int32)))) (xs (Int32.toNatClampNeg (x3 + (3 : Int32)))) G_119 r_126 G_125 hq_127) cc_L_64 d_L_law_358 rfl rfl rfl sh_32 ⟨rfl, rfl, by decide, by decide⟩ (Nat.le_of_ble_eq_true rfl) ?_
                              rcases zx_if_some hf with ⟨hc_128, hf⟩ | ⟨hc_128, hf⟩
                              · refine zr_icmp_eq_t (tgt := 438) h d_L_law_361 rfl hc_128 ?_
                                exact z_L_law_438 h hE hX ih x3 G_125 hf
                              · refine zr_icmp_eq_f h 438 d_L_law_361 rfl rfl hc_128 ?_
                                refine zr_iconst (v := (0 : Int32)) h d_L_law_364 rfl (by decide) ?_
                                obtain ⟨hb_129, hf⟩ := zx_gd_some hf
                                exact zr_lret h hE d_L_law_365 hf
                            · skip
                              rcases zx_if_some hf with ⟨hc_130, hf⟩ | ⟨hc_130, hf⟩
                              · refine zr_tsw_in (tgt := 366) (off := 334) (v := (12 : Int32)) h d_L_law_32 hc_130 (by decide) (by decide) (by decide) rfl ?_
                                refine zr_aload_n h d_L_law_366 rfl rfl 1 rfl ?_
                                obtain ⟨r_132, G_131, hq_133, hf⟩ := zx_bd_some hf
                                refine zr_callVI (As := []) (b := 0) h (c_S_blocks _ _ _ _ _ G r_132 G_131 hq_133) cc_L_65 d_L_law_367 rfl rfl rfl sh_0 ⟨rfl, rfl, by decide, by decide⟩ (Nat.le_of_ble_eq_true rfl) ?_
                                refine zr_aload_n h d_L_law_370 rfl rfl 2 rfl ?_
                                obtain ⟨r_135, G_134, hq_136, hf⟩ := zx_bd_some hf
                                refine zr_callVI (As := []) (b := 32) h (c_M_blocks _ _ _ _ _ G_131 r_135 G_134 hq_136) cc_L_68 d_L_law_371 rfl rfl rfl sh_32 ⟨rfl, rfl, by decide, by decide⟩ (Nat.le_of_ble_eq_true rfl) ?_
                                rcases zx_if_some hf with ⟨hc_137, hf⟩ | ⟨hc_137, hf⟩
                                · refine zr_icmp_eq_t (tgt := 438) h d_L_law_374 rfl hc_137 ?_
                                  exact z_L_law_438 h hE hX ih x3 G_134 hf
                                · refine zr_icmp_eq_f h 438 d_L_law_374 rfl rfl hc_137 ?_
                                  refine zr_iconst (v := (0 : Int32)) h d_L_law_377 rfl (by decide) ?_
                                  obtain ⟨hb_138, hf⟩ := zx_gd_some hf
                                  exact zr_lret h hE d_L_law_378 hf
                              · skip
                                rcases zx_if_some hf with ⟨hc_139, hf⟩ | ⟨hc_139, hf⟩
                                · refine zr_tsw_in (tgt := 379) (off := 347) (v := (13 : Int32)) h d_L_law_32 hc_139 (by decide) (by decide) (by decide) rfl ?_
                                  refine zr_aload_n h d_L_law_379 rfl rfl 1 rfl ?_
                                  obtain ⟨r_141, G_140, hq_142, hf⟩ := zx_bd_some hf
                                  refine zr_callVI (As := []) (b := 0) h (c_S_symbols _ _ _ _ _ G r_141 G_140 hq_142) cc_L_69 d_L_law_380 rfl rfl rfl sh_0 ⟨rfl, rfl, by decide, by decide⟩ (Nat.le_of_ble_eq_true rfl) ?_
                                  refine zr_aload_n h d_L_law_383 rfl rfl 2 rfl ?_
                                  obtain ⟨r_144, G_143, hq_145, hf⟩ := zx_bd_some hf
                                  refine zr_callVI (As := []) (b := 32) h (c_M_symbols _ _ _ _ _ G_140 r_144 G_143 hq_145) cc_L_72 d_L_law_384 rfl rfl rfl sh_32 ⟨rfl, rfl, by decide, by decide⟩ (Nat.le_of_ble_eq_true rfl) ?_
                                  rcases zx_if_some hf with ⟨hc_146, hf⟩ | ⟨hc_146, hf⟩
                                  · refine zr_icmp_eq_t (tgt := 438) h d_L_law_387 rfl hc_146 ?_
                                    exact z_L_law_438 h hE hX ih x3 G_143 hf
                                  · refine zr_icmp_eq_f h 438 d_L_law_387 rfl rfl hc_146 ?_
                                    refine zr_iconst (v := (0 : Int32)) h d_L_law_390 rfl (by decide) ?_
                                    obtain ⟨hb_147, hf⟩ := zx_gd_some hf
                                    exact zr_lret h hE d_L_law_391 hf
                                · skip
                                  rcases zx_if_some hf with ⟨hc_148, hf⟩ | ⟨hc_148, hf⟩
                                  · refine zr_tsw_in (tgt := 392) (off := 360) (v := (14 : Int32)) h d_L_law_32 hc_148 (by decide) (by decide) (by decide) rfl ?_
                                    refine zr_aload_n h d_L_law_392 rfl rfl 1 rfl ?_
                                    obtain ⟨r_150, G_149, hq_151, hf⟩ := zx_bd_some hf
                                    refine zr_callVI (As := []) (b := 0) h (c_S_taken _ _ _ _ _ G r_150 G_149 hq_151) cc_L_73 d_L_law_393 rfl rfl rfl sh_0 ⟨rfl, rfl, by decide, by decide⟩ (Nat.le_of_ble_eq_true rfl) ?_
                                    refine zr_aload_n h d_L_law_396 rfl rfl 2 rfl ?_
                                    obtain ⟨r_153, G_152, hq_154, hf⟩ := zx_bd_some hf
                                    refine zr_callVI (As := []) (b := 32) h (c_M_taken _ _ _ _ _ G_149 r_153 G_152 hq_154) cc_L_76 d_L_law_397 rfl rfl rfl sh_32 ⟨rfl, rfl, by decide, by decide⟩ (Nat.le_of_ble_eq_true rfl) ?_
                                    rcases zx_if_some hf with ⟨hc_155, hf⟩ | ⟨hc_155, hf⟩
                                    · refine zr_icmp_eq_t (tgt := 438) h d_L_law_400 rfl hc_155 ?_
                                      exact z_L_law_438 h hE hX ih x3 G_152 hf
                                    · refine zr_icmp_eq_f h 438 d_L_law_400 rfl rfl hc_155 ?_
                                      refine zr_iconst (v := (0 : Int32)) h d_L_law_403 rfl (by decide) ?_
                                      obtain ⟨hb_156, hf⟩ := zx_gd_some hf
                                      exact zr_lret h hE d_L_law_404 hf
                                  · skip
                                    rcases zx_if_some hf with ⟨hc_157, hf⟩ | ⟨hc_157, hf⟩
                                    · refine zr_tsw_in (tgt := 405) (off := 373) (v := (15 : Int32)) h d_L_law_32 hc_157 (by decide) (by decide) (by decide) rfl ?_
                                      refine zr_aload_n h d_L_law_405 rfl rfl 1 rfl ?_
                                      refine zr_aload_n h d_L_law_406 rfl rfl 0 rfl ?_
                                      refine zr_iload_n h d_L_law_407 rfl rfl 3 rfl ?_
                                      refine zr_iconst (v := (1 : Int32)) h d_L_law_408 rfl (by decide) ?_
                                      refine zr_iadd h d_L_law_409 rfl ?_
                                      obtain ⟨hb_158, hf⟩ := zx_gd_some hf
                                      refine zr_sld h hX d_L_law_410 rfl hb_158 ?_
                                      refine zr_aload_n h d_L_law_411 rfl rfl 0 rfl ?_
                                      refine zr_iload_n h d_L_law_412 rfl rfl 3 rfl ?_
                                      refine zr_iconst (v := (2 : Int32)) h d_L_law_413 rfl (by decide) ?_
                                      refine zr_iadd h d_L_law_414 rfl ?_
                                      obtain ⟨hb_159, hf⟩ := zx_gd_some hf
                                      refine zr_sld h hX d_L_law_415 rfl hb_159 ?_
                                      obtain ⟨r_161, G_160, hq_162, hf⟩ := zx_bd_some hf
                                      refine zr_callVI (As := [.int (xs (Int32.toNatClampNeg (x3 + (1 : Int32)))), .int (xs (Int32.toNatClampNeg (x3 + (2 : Int32))))]) (b := 0) h (c_S_table _ _ _ _ _ (xs (Int32.toNatClampNeg (x3 + (1 : Int32)))) (xs (Int32.toNatClampNeg (x3 + (2 : Int32)))) G r_161 G_160 hq_162) cc_L_77 d_L_law_416 rfl rfl rfl sh_0 ⟨rfl, rfl, by decide, by decide⟩ (Nat.le_of_ble_eq_true rfl) ?_
                                      refine zr_aload_n h d_L_law_419 rfl rfl 2 rfl ?_
                                      refine zr_aload_n h d_L_law_420 rfl rfl 0 rfl ?_
                                      refine zr_iload_n h d_L_law_421 rfl rfl 3 rfl ?_
                                      refine zr_iconst (v := (1 : Int32)) h d_L_law_422 rfl (by decide) ?_
                                      refine zr_iadd h d_L_law_423 rfl ?_
                                      obtain ⟨hb_163, hf⟩ := zx_gd_some hf
                                      refine zr_sld h hX d_L_law_424 rfl hb_163 ?_
                                      refine zr_aload_n h d_L_law_425 rfl rfl 0 rfl ?_
                                      refine zr_iload_n h d_L_law_426 rfl rfl 3 rfl ?_
                                      refine zr_iconst (v := (2 : Int32)) h d_L_law_427 rfl (by decide) ?_
                                      refine zr_iadd h d_L_law_428 rfl ?_
                                      obtain ⟨hb_164, hf⟩ := zx_gd_some hf
                                      refine zr_sld h hX d_L_law_429 rfl hb_164 ?_
                                      obtain ⟨r_166, G_165, hq_167, hf⟩ := zx_bd_some hf
                                      refine zr_callVI (As := [.int (xs (Int32.toNatClampNeg (x3 + (1 : Int32)))), .int (xs (Int32.toNatClampNeg (x3 + (2 : Int32))))]) (b := 32) h (c_M_table _ _ _ _ _ (xs (Int32.toNatClampNeg (x3 + (1 : Int32)))) (xs (Int32.toNatClampNeg (x3 + (2 : Int32)))) G_160 r_166 G_165 hq_167) cc_L_80 d_L_law_430 rfl rfl rfl sh_32 ⟨rfl, rfl, by decide, by decide⟩ (Nat.le_of_ble_eq_true rfl) ?_
                                      rcases zx_if_some hf with ⟨hc_168, hf⟩ | ⟨hc_168, hf⟩
                                      · refine zr_icmp_eq_t (tgt := 438) h d_L_law_433 rfl hc_168 ?_
                                        exact z_L_law_438 h hE hX ih x3 G_165 hf
                                      · refine zr_icmp_eq_f h 438 d_L_law_433 rfl rfl hc_168 ?_
                                        refine zr_iconst (v := (0 : Int32)) h d_L_law_436 rfl (by decide) ?_
                                        obtain ⟨hb_169, hf⟩ := zx_gd_some hf
                                        exact zr_lret h hE d_L_law_437 hf
                                    · skip
                                      refine zr_tsw_out (tgt := 438) h d_L_law_32 (by have q0 := lv_neT (a := 0) hc_4 (by decide); have q1 := lv_neT (a := 1) hc_15 (by decide); have q2 := lv_neT (a := 2) hc_26 (by decide); have q3 := lv_neT (a := 3) hc_39 (by decide); have q4 := lv_neT (a := 4) hc_46 (by decide); have q5 := lv_neT (a := 5) hc_55 (by decide); have q6 := lv_neT (a := 6) hc_64 (by decide); have q7 := lv_neT (a := 7) hc_73 (by decide); have q8 := lv_neT (a := 8) hc_82 (by decide); have q9 := lv_neT (a := 9) hc_91 (by decide); have q10 := lv_neT (a := 10) hc_100 (by decide); have q11 := lv_neT (a := 11) hc_115 (by decide); have q12 := lv_neT (a := 12) hc_130 (by decide); have q13 := lv_neT (a := 13) hc_139 (by decide); have q14 := lv_neT (a := 14) hc_148 (by decide); have q15 := lv_neT (a := 15) hc_157 (by decide); omega) rfl ?_
                                      exact z_L_law_438 h hE hX ih x3 G hf
set_option maxRecDepth 100000 in
set_option maxHeartbeats 4000000 in
theorem z_L_law_16 {κ : zx_K} {ad : Nat → Nat} {r : Int32} {G1 : zx_G} (h : zx_C M_L_law κ ad) (hE : zx_EL M_L_law κ ad r G1) {L : Nat} {xs : Nat → Int32} (hX : zx_X κ ad L xs) (G : zx_G) (hf : f_L_law L xs G = some (r, G1)) : zx_Z κ ad 16 [(0, .ref (ad 103)), (1, .ref (ad 0)), (2, .ref (ad 32))] [] G := by
  unfold f_L_law at hf
  refine zr_iconst (v := (0 : Int32)) h d_L_law_16 rfl (by decide) ?_
  obtain ⟨x3_1, ex3_1, hf⟩ := zx_lt_some hf
  refine zr_istore_n h d_L_law_17 rfl rfl (by decide) ex3_1 rfl ?_
  refine zr_sub [1, 2, 3, 0] rfl ?_
  exact z_L_law_18 h hE hX 600 x3_1 G hf
