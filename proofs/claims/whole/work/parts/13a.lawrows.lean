-- ===== THE LAW, over the small machine's runs =====
def mj_h0 : mj_H := (fun _ _ => 0, fun _ _ => 0, fun _ _ => none)
theorem dL_0 : decode code 0 = .ok (.new 7, 3) := by decide +kernel
theorem dL_3 : decode code 3 = .ok (.dup, 1) := by decide +kernel
theorem dL_4 : decode code 4 = .ok (.invokespecial 9, 3) := by decide +kernel
theorem dL_7 : decode code 7 = .ok (.astore_n 1, 1) := by decide +kernel
theorem dL_8 : decode code 8 = .ok (.new 10, 3) := by decide +kernel
theorem dL_11 : decode code 11 = .ok (.dup, 1) := by decide +kernel
theorem dL_12 : decode code 12 = .ok (.invokespecial 12, 3) := by decide +kernel
theorem dL_15 : decode code 15 = .ok (.astore_n 2, 1) := by decide +kernel
theorem dL_16 : decode code 16 = .ok (.iconst 0, 1) := by decide +kernel
theorem dL_17 : decode code 17 = .ok (.istore_n 3, 1) := by decide +kernel
theorem dL_18 : decode code 18 = .ok (.iload_n 3, 1) := by decide +kernel
theorem dL_19 : decode code 19 = .ok (.aload_n 0, 1) := by decide +kernel
theorem dL_20 : decode code 20 = .ok (.arraylength, 1) := by decide +kernel
theorem dL_21 : decode code 21 = .ok (.iconst 4, 1) := by decide +kernel
theorem dL_22 : decode code 22 = .ok (.isub, 1) := by decide +kernel
theorem dL_23 : decode code 23 = .ok (.if_icmp .gt 425, 3) := by decide +kernel
theorem dL_26 : decode code 26 = .ok (.aload_n 0, 1) := by decide +kernel
theorem dL_27 : decode code 27 = .ok (.iload_n 3, 1) := by decide +kernel
theorem dL_28 : decode code 28 = .ok (.iaload, 1) := by decide +kernel
theorem dL_29 : decode code 29 = .ok (.bipush 15, 2) := by decide +kernel
theorem dL_31 : decode code 31 = .ok (.iand, 1) := by decide +kernel
theorem dL_32 : decode code 32 = .ok (.tableswitch 410 0 11 #[64, 117, 130, 143, 176, 209, 222, 235, 258, 291, 334, 377], 64) := by decide +kernel
theorem dL_96 : decode code 96 = .ok (.aload_n 1, 1) := by decide +kernel
theorem dL_97 : decode code 97 = .ok (.aload_n 0, 1) := by decide +kernel
theorem dL_98 : decode code 98 = .ok (.iload_n 3, 1) := by decide +kernel
theorem dL_99 : decode code 99 = .ok (.iconst 1, 1) := by decide +kernel
theorem dL_100 : decode code 100 = .ok (.iadd, 1) := by decide +kernel
theorem dL_101 : decode code 101 = .ok (.iaload, 1) := by decide +kernel
theorem dL_102 : decode code 102 = .ok (.i2l, 1) := by decide +kernel
theorem dL_103 : decode code 103 = .ok (.bipush 32, 2) := by decide +kernel
theorem dL_105 : decode code 105 = .ok (.lshl, 1) := by decide +kernel
theorem dL_106 : decode code 106 = .ok (.aload_n 0, 1) := by decide +kernel
theorem dL_107 : decode code 107 = .ok (.iload_n 3, 1) := by decide +kernel
theorem dL_108 : decode code 108 = .ok (.iconst 2, 1) := by decide +kernel
theorem dL_109 : decode code 109 = .ok (.iadd, 1) := by decide +kernel
theorem dL_110 : decode code 110 = .ok (.iaload, 1) := by decide +kernel
theorem dL_111 : decode code 111 = .ok (.i2l, 1) := by decide +kernel
theorem dL_112 : decode code 112 = .ok (.ldc2_w 13, 3) := by decide +kernel
theorem dL_115 : decode code 115 = .ok (.land, 1) := by decide +kernel
theorem dL_116 : decode code 116 = .ok (.lor, 1) := by decide +kernel
theorem dL_117 : decode code 117 = .ok (.invokevirtual 15, 3) := by decide +kernel
theorem dL_120 : decode code 120 = .ok (.aload_n 2, 1) := by decide +kernel
theorem dL_121 : decode code 121 = .ok (.aload_n 0, 1) := by decide +kernel
theorem dL_122 : decode code 122 = .ok (.iload_n 3, 1) := by decide +kernel
theorem dL_123 : decode code 123 = .ok (.iconst 1, 1) := by decide +kernel
theorem dL_124 : decode code 124 = .ok (.iadd, 1) := by decide +kernel
theorem dL_125 : decode code 125 = .ok (.iaload, 1) := by decide +kernel
theorem dL_126 : decode code 126 = .ok (.i2l, 1) := by decide +kernel
theorem dL_127 : decode code 127 = .ok (.bipush 32, 2) := by decide +kernel
theorem dL_129 : decode code 129 = .ok (.lshl, 1) := by decide +kernel
theorem dL_130 : decode code 130 = .ok (.aload_n 0, 1) := by decide +kernel
theorem dL_131 : decode code 131 = .ok (.iload_n 3, 1) := by decide +kernel
theorem dL_132 : decode code 132 = .ok (.iconst 2, 1) := by decide +kernel
theorem dL_133 : decode code 133 = .ok (.iadd, 1) := by decide +kernel
theorem dL_134 : decode code 134 = .ok (.iaload, 1) := by decide +kernel
theorem dL_135 : decode code 135 = .ok (.i2l, 1) := by decide +kernel
theorem dL_136 : decode code 136 = .ok (.ldc2_w 13, 3) := by decide +kernel
theorem dL_139 : decode code 139 = .ok (.land, 1) := by decide +kernel
theorem dL_140 : decode code 140 = .ok (.lor, 1) := by decide +kernel
theorem dL_141 : decode code 141 = .ok (.invokevirtual 19, 3) := by decide +kernel
theorem dL_144 : decode code 144 = .ok (.if_icmp .eq 298, 3) := by decide +kernel
theorem dL_147 : decode code 147 = .ok (.iconst 0, 1) := by decide +kernel
theorem dL_148 : decode code 148 = .ok (.ireturn, 1) := by decide +kernel
theorem dL_149 : decode code 149 = .ok (.aload_n 1, 1) := by decide +kernel
theorem dL_150 : decode code 150 = .ok (.invokevirtual 20, 3) := by decide +kernel
theorem dL_153 : decode code 153 = .ok (.aload_n 2, 1) := by decide +kernel
theorem dL_154 : decode code 154 = .ok (.invokevirtual 24, 3) := by decide +kernel
theorem dL_157 : decode code 157 = .ok (.if_icmp .eq 285, 3) := by decide +kernel
theorem dL_160 : decode code 160 = .ok (.iconst 0, 1) := by decide +kernel
theorem dL_161 : decode code 161 = .ok (.ireturn, 1) := by decide +kernel
theorem dL_162 : decode code 162 = .ok (.aload_n 1, 1) := by decide +kernel
theorem dL_163 : decode code 163 = .ok (.invokevirtual 25, 3) := by decide +kernel
theorem dL_166 : decode code 166 = .ok (.aload_n 2, 1) := by decide +kernel
theorem dL_167 : decode code 167 = .ok (.invokevirtual 29, 3) := by decide +kernel
theorem dL_170 : decode code 170 = .ok (.if_icmp .eq 272, 3) := by decide +kernel
theorem dL_173 : decode code 173 = .ok (.iconst 0, 1) := by decide +kernel
theorem dL_174 : decode code 174 = .ok (.ireturn, 1) := by decide +kernel
theorem dL_175 : decode code 175 = .ok (.aload_n 1, 1) := by decide +kernel
theorem dL_176 : decode code 176 = .ok (.aload_n 0, 1) := by decide +kernel
theorem dL_177 : decode code 177 = .ok (.iload_n 3, 1) := by decide +kernel
theorem dL_178 : decode code 178 = .ok (.iconst 1, 1) := by decide +kernel
theorem dL_179 : decode code 179 = .ok (.iadd, 1) := by decide +kernel
theorem dL_180 : decode code 180 = .ok (.iaload, 1) := by decide +kernel
theorem dL_181 : decode code 181 = .ok (.aload_n 0, 1) := by decide +kernel
theorem dL_182 : decode code 182 = .ok (.iload_n 3, 1) := by decide +kernel
theorem dL_183 : decode code 183 = .ok (.iconst 2, 1) := by decide +kernel
theorem dL_184 : decode code 184 = .ok (.iadd, 1) := by decide +kernel
theorem dL_185 : decode code 185 = .ok (.iaload, 1) := by decide +kernel
theorem dL_186 : decode code 186 = .ok (.invokevirtual 30, 3) := by decide +kernel
theorem dL_189 : decode code 189 = .ok (.aload_n 2, 1) := by decide +kernel
theorem dL_190 : decode code 190 = .ok (.aload_n 0, 1) := by decide +kernel
theorem dL_191 : decode code 191 = .ok (.iload_n 3, 1) := by decide +kernel
theorem dL_192 : decode code 192 = .ok (.iconst 1, 1) := by decide +kernel
theorem dL_193 : decode code 193 = .ok (.iadd, 1) := by decide +kernel
theorem dL_194 : decode code 194 = .ok (.iaload, 1) := by decide +kernel
theorem dL_195 : decode code 195 = .ok (.aload_n 0, 1) := by decide +kernel
theorem dL_196 : decode code 196 = .ok (.iload_n 3, 1) := by decide +kernel
theorem dL_197 : decode code 197 = .ok (.iconst 2, 1) := by decide +kernel
theorem dL_198 : decode code 198 = .ok (.iadd, 1) := by decide +kernel
theorem dL_199 : decode code 199 = .ok (.iaload, 1) := by decide +kernel
theorem dL_200 : decode code 200 = .ok (.invokevirtual 34, 3) := by decide +kernel
theorem dL_203 : decode code 203 = .ok (.if_icmp .eq 239, 3) := by decide +kernel
theorem dL_206 : decode code 206 = .ok (.iconst 0, 1) := by decide +kernel
theorem dL_207 : decode code 207 = .ok (.ireturn, 1) := by decide +kernel
theorem dL_208 : decode code 208 = .ok (.aload_n 1, 1) := by decide +kernel
theorem dL_209 : decode code 209 = .ok (.aload_n 0, 1) := by decide +kernel
theorem dL_210 : decode code 210 = .ok (.iload_n 3, 1) := by decide +kernel
theorem dL_211 : decode code 211 = .ok (.iconst 1, 1) := by decide +kernel
theorem dL_212 : decode code 212 = .ok (.iadd, 1) := by decide +kernel
theorem dL_213 : decode code 213 = .ok (.iaload, 1) := by decide +kernel
theorem dL_214 : decode code 214 = .ok (.aload_n 0, 1) := by decide +kernel
theorem dL_215 : decode code 215 = .ok (.iload_n 3, 1) := by decide +kernel
theorem dL_216 : decode code 216 = .ok (.iconst 2, 1) := by decide +kernel
theorem dL_217 : decode code 217 = .ok (.iadd, 1) := by decide +kernel
theorem dL_218 : decode code 218 = .ok (.iaload, 1) := by decide +kernel
theorem dL_219 : decode code 219 = .ok (.invokevirtual 35, 3) := by decide +kernel
theorem dL_222 : decode code 222 = .ok (.aload_n 2, 1) := by decide +kernel
theorem dL_223 : decode code 223 = .ok (.aload_n 0, 1) := by decide +kernel
theorem dL_224 : decode code 224 = .ok (.iload_n 3, 1) := by decide +kernel
theorem dL_225 : decode code 225 = .ok (.iconst 1, 1) := by decide +kernel
theorem dL_226 : decode code 226 = .ok (.iadd, 1) := by decide +kernel
theorem dL_227 : decode code 227 = .ok (.iaload, 1) := by decide +kernel
theorem dL_228 : decode code 228 = .ok (.aload_n 0, 1) := by decide +kernel
theorem dL_229 : decode code 229 = .ok (.iload_n 3, 1) := by decide +kernel
theorem dL_230 : decode code 230 = .ok (.iconst 2, 1) := by decide +kernel
theorem dL_231 : decode code 231 = .ok (.iadd, 1) := by decide +kernel
theorem dL_232 : decode code 232 = .ok (.iaload, 1) := by decide +kernel
theorem dL_233 : decode code 233 = .ok (.invokevirtual 38, 3) := by decide +kernel
theorem dL_236 : decode code 236 = .ok (.if_icmp .eq 206, 3) := by decide +kernel
theorem dL_239 : decode code 239 = .ok (.iconst 0, 1) := by decide +kernel
theorem dL_240 : decode code 240 = .ok (.ireturn, 1) := by decide +kernel
theorem dL_241 : decode code 241 = .ok (.aload_n 1, 1) := by decide +kernel
theorem dL_242 : decode code 242 = .ok (.invokevirtual 39, 3) := by decide +kernel
theorem dL_245 : decode code 245 = .ok (.aload_n 2, 1) := by decide +kernel
theorem dL_246 : decode code 246 = .ok (.invokevirtual 42, 3) := by decide +kernel
theorem dL_249 : decode code 249 = .ok (.if_icmp .eq 193, 3) := by decide +kernel
theorem dL_252 : decode code 252 = .ok (.iconst 0, 1) := by decide +kernel
theorem dL_253 : decode code 253 = .ok (.ireturn, 1) := by decide +kernel
theorem dL_254 : decode code 254 = .ok (.aload_n 1, 1) := by decide +kernel
theorem dL_255 : decode code 255 = .ok (.invokevirtual 43, 3) := by decide +kernel
theorem dL_258 : decode code 258 = .ok (.aload_n 2, 1) := by decide +kernel
theorem dL_259 : decode code 259 = .ok (.invokevirtual 46, 3) := by decide +kernel
theorem dL_262 : decode code 262 = .ok (.if_icmp .eq 180, 3) := by decide +kernel
theorem dL_265 : decode code 265 = .ok (.iconst 0, 1) := by decide +kernel
theorem dL_266 : decode code 266 = .ok (.ireturn, 1) := by decide +kernel
theorem dL_267 : decode code 267 = .ok (.aload_n 1, 1) := by decide +kernel
theorem dL_268 : decode code 268 = .ok (.aload_n 0, 1) := by decide +kernel
theorem dL_269 : decode code 269 = .ok (.iload_n 3, 1) := by decide +kernel
theorem dL_270 : decode code 270 = .ok (.iconst 1, 1) := by decide +kernel
theorem dL_271 : decode code 271 = .ok (.iadd, 1) := by decide +kernel
theorem dL_272 : decode code 272 = .ok (.iaload, 1) := by decide +kernel
theorem dL_273 : decode code 273 = .ok (.invokevirtual 47, 3) := by decide +kernel
theorem dL_276 : decode code 276 = .ok (.aload_n 2, 1) := by decide +kernel
theorem dL_277 : decode code 277 = .ok (.aload_n 0, 1) := by decide +kernel
theorem dL_278 : decode code 278 = .ok (.iload_n 3, 1) := by decide +kernel
theorem dL_279 : decode code 279 = .ok (.iconst 1, 1) := by decide +kernel
theorem dL_280 : decode code 280 = .ok (.iadd, 1) := by decide +kernel
theorem dL_281 : decode code 281 = .ok (.iaload, 1) := by decide +kernel
theorem dL_282 : decode code 282 = .ok (.invokevirtual 51, 3) := by decide +kernel
theorem dL_285 : decode code 285 = .ok (.if_icmp .eq 157, 3) := by decide +kernel
theorem dL_288 : decode code 288 = .ok (.iconst 0, 1) := by decide +kernel
theorem dL_289 : decode code 289 = .ok (.ireturn, 1) := by decide +kernel
theorem dL_290 : decode code 290 = .ok (.aload_n 1, 1) := by decide +kernel
theorem dL_291 : decode code 291 = .ok (.aload_n 0, 1) := by decide +kernel
theorem dL_292 : decode code 292 = .ok (.iload_n 3, 1) := by decide +kernel
theorem dL_293 : decode code 293 = .ok (.iconst 1, 1) := by decide +kernel
theorem dL_294 : decode code 294 = .ok (.iadd, 1) := by decide +kernel
theorem dL_295 : decode code 295 = .ok (.iaload, 1) := by decide +kernel
theorem dL_296 : decode code 296 = .ok (.aload_n 0, 1) := by decide +kernel
theorem dL_297 : decode code 297 = .ok (.iload_n 3, 1) := by decide +kernel
theorem dL_298 : decode code 298 = .ok (.iconst 2, 1) := by decide +kernel
theorem dL_299 : decode code 299 = .ok (.iadd, 1) := by decide +kernel
theorem dL_300 : decode code 300 = .ok (.iaload, 1) := by decide +kernel
theorem dL_301 : decode code 301 = .ok (.invokevirtual 52, 3) := by decide +kernel
theorem dL_304 : decode code 304 = .ok (.aload_n 2, 1) := by decide +kernel
theorem dL_305 : decode code 305 = .ok (.aload_n 0, 1) := by decide +kernel
theorem dL_306 : decode code 306 = .ok (.iload_n 3, 1) := by decide +kernel
theorem dL_307 : decode code 307 = .ok (.iconst 1, 1) := by decide +kernel
theorem dL_308 : decode code 308 = .ok (.iadd, 1) := by decide +kernel
theorem dL_309 : decode code 309 = .ok (.iaload, 1) := by decide +kernel
theorem dL_310 : decode code 310 = .ok (.aload_n 0, 1) := by decide +kernel
theorem dL_311 : decode code 311 = .ok (.iload_n 3, 1) := by decide +kernel
theorem dL_312 : decode code 312 = .ok (.iconst 2, 1) := by decide +kernel
theorem dL_313 : decode code 313 = .ok (.iadd, 1) := by decide +kernel
theorem dL_314 : decode code 314 = .ok (.iaload, 1) := by decide +kernel
theorem dL_315 : decode code 315 = .ok (.invokevirtual 55, 3) := by decide +kernel
theorem dL_318 : decode code 318 = .ok (.if_icmp .eq 124, 3) := by decide +kernel
theorem dL_321 : decode code 321 = .ok (.iconst 0, 1) := by decide +kernel
theorem dL_322 : decode code 322 = .ok (.ireturn, 1) := by decide +kernel
theorem dL_323 : decode code 323 = .ok (.aload_n 1, 1) := by decide +kernel
theorem dL_324 : decode code 324 = .ok (.aload_n 0, 1) := by decide +kernel
theorem dL_325 : decode code 325 = .ok (.iload_n 3, 1) := by decide +kernel
theorem dL_326 : decode code 326 = .ok (.iconst 1, 1) := by decide +kernel
theorem dL_327 : decode code 327 = .ok (.iadd, 1) := by decide +kernel
theorem dL_328 : decode code 328 = .ok (.iaload, 1) := by decide +kernel
theorem dL_329 : decode code 329 = .ok (.aload_n 0, 1) := by decide +kernel
theorem dL_330 : decode code 330 = .ok (.iload_n 3, 1) := by decide +kernel
theorem dL_331 : decode code 331 = .ok (.iconst 2, 1) := by decide +kernel
theorem dL_332 : decode code 332 = .ok (.iadd, 1) := by decide +kernel
theorem dL_333 : decode code 333 = .ok (.iaload, 1) := by decide +kernel
theorem dL_334 : decode code 334 = .ok (.aload_n 0, 1) := by decide +kernel
theorem dL_335 : decode code 335 = .ok (.iload_n 3, 1) := by decide +kernel
theorem dL_336 : decode code 336 = .ok (.iconst 3, 1) := by decide +kernel
theorem dL_337 : decode code 337 = .ok (.iadd, 1) := by decide +kernel
theorem dL_338 : decode code 338 = .ok (.iaload, 1) := by decide +kernel
theorem dL_339 : decode code 339 = .ok (.invokevirtual 56, 3) := by decide +kernel
theorem dL_342 : decode code 342 = .ok (.aload_n 2, 1) := by decide +kernel
theorem dL_343 : decode code 343 = .ok (.aload_n 0, 1) := by decide +kernel
theorem dL_344 : decode code 344 = .ok (.iload_n 3, 1) := by decide +kernel
theorem dL_345 : decode code 345 = .ok (.iconst 1, 1) := by decide +kernel
theorem dL_346 : decode code 346 = .ok (.iadd, 1) := by decide +kernel
theorem dL_347 : decode code 347 = .ok (.iaload, 1) := by decide +kernel
theorem dL_348 : decode code 348 = .ok (.aload_n 0, 1) := by decide +kernel
theorem dL_349 : decode code 349 = .ok (.iload_n 3, 1) := by decide +kernel
theorem dL_350 : decode code 350 = .ok (.iconst 2, 1) := by decide +kernel
theorem dL_351 : decode code 351 = .ok (.iadd, 1) := by decide +kernel
theorem dL_352 : decode code 352 = .ok (.iaload, 1) := by decide +kernel
theorem dL_353 : decode code 353 = .ok (.aload_n 0, 1) := by decide +kernel
theorem dL_354 : decode code 354 = .ok (.iload_n 3, 1) := by decide +kernel
theorem dL_355 : decode code 355 = .ok (.iconst 3, 1) := by decide +kernel
theorem dL_356 : decode code 356 = .ok (.iadd, 1) := by decide +kernel
theorem dL_357 : decode code 357 = .ok (.iaload, 1) := by decide +kernel
theorem dL_358 : decode code 358 = .ok (.invokevirtual 60, 3) := by decide +kernel
theorem dL_361 : decode code 361 = .ok (.if_icmp .eq 81, 3) := by decide +kernel
theorem dL_364 : decode code 364 = .ok (.iconst 0, 1) := by decide +kernel
theorem dL_365 : decode code 365 = .ok (.ireturn, 1) := by decide +kernel
theorem dL_366 : decode code 366 = .ok (.aload_n 1, 1) := by decide +kernel
theorem dL_367 : decode code 367 = .ok (.aload_n 0, 1) := by decide +kernel
theorem dL_368 : decode code 368 = .ok (.iload_n 3, 1) := by decide +kernel
theorem dL_369 : decode code 369 = .ok (.iconst 1, 1) := by decide +kernel
theorem dL_370 : decode code 370 = .ok (.iadd, 1) := by decide +kernel
theorem dL_371 : decode code 371 = .ok (.iaload, 1) := by decide +kernel
theorem dL_372 : decode code 372 = .ok (.aload_n 0, 1) := by decide +kernel
theorem dL_373 : decode code 373 = .ok (.iload_n 3, 1) := by decide +kernel
theorem dL_374 : decode code 374 = .ok (.iconst 2, 1) := by decide +kernel
theorem dL_375 : decode code 375 = .ok (.iadd, 1) := by decide +kernel
theorem dL_376 : decode code 376 = .ok (.iaload, 1) := by decide +kernel
theorem dL_377 : decode code 377 = .ok (.aload_n 0, 1) := by decide +kernel
theorem dL_378 : decode code 378 = .ok (.iload_n 3, 1) := by decide +kernel
theorem dL_379 : decode code 379 = .ok (.iconst 3, 1) := by decide +kernel
theorem dL_380 : decode code 380 = .ok (.iadd, 1) := by decide +kernel
theorem dL_381 : decode code 381 = .ok (.iaload, 1) := by decide +kernel
theorem dL_382 : decode code 382 = .ok (.invokevirtual 61, 3) := by decide +kernel
theorem dL_385 : decode code 385 = .ok (.aload_n 2, 1) := by decide +kernel
theorem dL_386 : decode code 386 = .ok (.aload_n 0, 1) := by decide +kernel
theorem dL_387 : decode code 387 = .ok (.iload_n 3, 1) := by decide +kernel
theorem dL_388 : decode code 388 = .ok (.iconst 1, 1) := by decide +kernel
theorem dL_389 : decode code 389 = .ok (.iadd, 1) := by decide +kernel
theorem dL_390 : decode code 390 = .ok (.iaload, 1) := by decide +kernel
theorem dL_391 : decode code 391 = .ok (.aload_n 0, 1) := by decide +kernel
theorem dL_392 : decode code 392 = .ok (.iload_n 3, 1) := by decide +kernel
theorem dL_393 : decode code 393 = .ok (.iconst 2, 1) := by decide +kernel
theorem dL_394 : decode code 394 = .ok (.iadd, 1) := by decide +kernel
theorem dL_395 : decode code 395 = .ok (.iaload, 1) := by decide +kernel
theorem dL_396 : decode code 396 = .ok (.aload_n 0, 1) := by decide +kernel
theorem dL_397 : decode code 397 = .ok (.iload_n 3, 1) := by decide +kernel
theorem dL_398 : decode code 398 = .ok (.iconst 3, 1) := by decide +kernel
theorem dL_399 : decode code 399 = .ok (.iadd, 1) := by decide +kernel
theorem dL_400 : decode code 400 = .ok (.iaload, 1) := by decide +kernel
theorem dL_401 : decode code 401 = .ok (.invokevirtual 64, 3) := by decide +kernel
theorem dL_404 : decode code 404 = .ok (.if_icmp .eq 38, 3) := by decide +kernel
theorem dL_407 : decode code 407 = .ok (.iconst 0, 1) := by decide +kernel
theorem dL_408 : decode code 408 = .ok (.ireturn, 1) := by decide +kernel
theorem dL_409 : decode code 409 = .ok (.aload_n 1, 1) := by decide +kernel
theorem dL_410 : decode code 410 = .ok (.aload_n 0, 1) := by decide +kernel
theorem dL_411 : decode code 411 = .ok (.iload_n 3, 1) := by decide +kernel
theorem dL_412 : decode code 412 = .ok (.iconst 1, 1) := by decide +kernel
theorem dL_413 : decode code 413 = .ok (.iadd, 1) := by decide +kernel
theorem dL_414 : decode code 414 = .ok (.iaload, 1) := by decide +kernel
theorem dL_415 : decode code 415 = .ok (.aload_n 0, 1) := by decide +kernel
theorem dL_416 : decode code 416 = .ok (.iload_n 3, 1) := by decide +kernel
theorem dL_417 : decode code 417 = .ok (.iconst 2, 1) := by decide +kernel
theorem dL_418 : decode code 418 = .ok (.iadd, 1) := by decide +kernel
theorem dL_419 : decode code 419 = .ok (.iaload, 1) := by decide +kernel
theorem dL_420 : decode code 420 = .ok (.invokevirtual 65, 3) := by decide +kernel
theorem dL_423 : decode code 423 = .ok (.aload_n 2, 1) := by decide +kernel
theorem dL_424 : decode code 424 = .ok (.aload_n 0, 1) := by decide +kernel
theorem dL_425 : decode code 425 = .ok (.iload_n 3, 1) := by decide +kernel
theorem dL_426 : decode code 426 = .ok (.iconst 1, 1) := by decide +kernel
theorem dL_427 : decode code 427 = .ok (.iadd, 1) := by decide +kernel
theorem dL_428 : decode code 428 = .ok (.iaload, 1) := by decide +kernel
theorem dL_429 : decode code 429 = .ok (.aload_n 0, 1) := by decide +kernel
theorem dL_430 : decode code 430 = .ok (.iload_n 3, 1) := by decide +kernel
theorem dL_431 : decode code 431 = .ok (.iconst 2, 1) := by decide +kernel
theorem dL_432 : decode code 432 = .ok (.iadd, 1) := by decide +kernel
theorem dL_433 : decode code 433 = .ok (.iaload, 1) := by decide +kernel
theorem dL_434 : decode code 434 = .ok (.invokevirtual 69, 3) := by decide +kernel
theorem dL_437 : decode code 437 = .ok (.if_icmp .eq 5, 3) := by decide +kernel
theorem dL_440 : decode code 440 = .ok (.iconst 0, 1) := by decide +kernel
theorem dL_441 : decode code 441 = .ok (.ireturn, 1) := by decide +kernel
theorem dL_442 : decode code 442 = .ok (.iinc 3 4, 3) := by decide +kernel
theorem dL_445 : decode code 445 = .ok (.goto (-427), 3) := by decide +kernel
theorem dL_448 : decode code 448 = .ok (.iconst 1, 1) := by decide +kernel
theorem dL_449 : decode code 449 = .ok (.ireturn, 1) := by decide +kernel
