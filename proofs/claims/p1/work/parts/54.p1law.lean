theorem d_law_0 : decode code 0 = .ok (.new 7, 3) := by decide +kernel
theorem d_law_3 : decode code 3 = .ok (.dup, 1) := by decide +kernel
theorem d_law_4 : decode code 4 = .ok (.aload_n 0, 1) := by decide +kernel
theorem d_law_5 : decode code 5 = .ok (.iconst 0, 1) := by decide +kernel
theorem d_law_6 : decode code 6 = .ok (.invokestatic 9, 3) := by decide +kernel
theorem d_law_9 : decode code 9 = .ok (.aload_n 0, 1) := by decide +kernel
theorem d_law_10 : decode code 10 = .ok (.iconst 1, 1) := by decide +kernel
theorem d_law_11 : decode code 11 = .ok (.invokestatic 9, 3) := by decide +kernel
theorem d_law_14 : decode code 14 = .ok (.aload_n 0, 1) := by decide +kernel
theorem d_law_15 : decode code 15 = .ok (.iconst 2, 1) := by decide +kernel
theorem d_law_16 : decode code 16 = .ok (.invokestatic 9, 3) := by decide +kernel
theorem d_law_19 : decode code 19 = .ok (.aload_n 0, 1) := by decide +kernel
theorem d_law_20 : decode code 20 = .ok (.iconst 3, 1) := by decide +kernel
theorem d_law_21 : decode code 21 = .ok (.invokestatic 9, 3) := by decide +kernel
theorem d_law_24 : decode code 24 = .ok (.invokespecial 15, 3) := by decide +kernel
theorem d_law_27 : decode code 27 = .ok (.astore_n 1, 1) := by decide +kernel
theorem d_law_28 : decode code 28 = .ok (.new 18, 3) := by decide +kernel
theorem d_law_31 : decode code 31 = .ok (.dup, 1) := by decide +kernel
theorem d_law_32 : decode code 32 = .ok (.aload_n 0, 1) := by decide +kernel
theorem d_law_33 : decode code 33 = .ok (.iconst 0, 1) := by decide +kernel
theorem d_law_34 : decode code 34 = .ok (.invokestatic 9, 3) := by decide +kernel
theorem d_law_37 : decode code 37 = .ok (.aload_n 0, 1) := by decide +kernel
theorem d_law_38 : decode code 38 = .ok (.iconst 1, 1) := by decide +kernel
theorem d_law_39 : decode code 39 = .ok (.invokestatic 9, 3) := by decide +kernel
theorem d_law_42 : decode code 42 = .ok (.aload_n 0, 1) := by decide +kernel
theorem d_law_43 : decode code 43 = .ok (.iconst 2, 1) := by decide +kernel
theorem d_law_44 : decode code 44 = .ok (.invokestatic 9, 3) := by decide +kernel
theorem d_law_47 : decode code 47 = .ok (.aload_n 0, 1) := by decide +kernel
theorem d_law_48 : decode code 48 = .ok (.iconst 3, 1) := by decide +kernel
theorem d_law_49 : decode code 49 = .ok (.invokestatic 9, 3) := by decide +kernel
theorem d_law_52 : decode code 52 = .ok (.invokespecial 20, 3) := by decide +kernel
theorem d_law_55 : decode code 55 = .ok (.astore_n 2, 1) := by decide +kernel
theorem d_law_56 : decode code 56 = .ok (.iconst 4, 1) := by decide +kernel
theorem d_law_57 : decode code 57 = .ok (.istore_n 3, 1) := by decide +kernel
theorem d_law_58 : decode code 58 = .ok (.iload_n 3, 1) := by decide +kernel
theorem d_law_59 : decode code 59 = .ok (.aload_n 0, 1) := by decide +kernel
theorem d_law_60 : decode code 60 = .ok (.arraylength, 1) := by decide +kernel
theorem d_law_61 : decode code 61 = .ok (.bipush 6, 2) := by decide +kernel
theorem d_law_63 : decode code 63 = .ok (.isub, 1) := by decide +kernel
theorem d_law_64 : decode code 64 = .ok (.if_icmp .gt 691, 3) := by decide +kernel
theorem d_law_67 : decode code 67 = .ok (.aload_n 0, 1) := by decide +kernel
theorem d_law_68 : decode code 68 = .ok (.iload_n 3, 1) := by decide +kernel
theorem d_law_69 : decode code 69 = .ok (.iaload, 1) := by decide +kernel
theorem d_law_70 : decode code 70 = .ok (.bipush 31, 2) := by decide +kernel
theorem d_law_72 : decode code 72 = .ok (.iand, 1) := by decide +kernel
theorem d_law_73 : decode code 73 = .ok (.tableswitch 676 0 16 #[83, 126, 159, 222, 275, 318, 351, 384, 417, 442, 477, 516, 565, 578, 591, 614, 627], 83) := by decide +kernel
theorem d_law_156 : decode code 156 = .ok (.aload_n 1, 1) := by decide +kernel
theorem d_law_157 : decode code 157 = .ok (.aload_n 0, 1) := by decide +kernel
theorem d_law_158 : decode code 158 = .ok (.iload_n 3, 1) := by decide +kernel
theorem d_law_159 : decode code 159 = .ok (.iconst 1, 1) := by decide +kernel
theorem d_law_160 : decode code 160 = .ok (.iadd, 1) := by decide +kernel
theorem d_law_161 : decode code 161 = .ok (.iaload, 1) := by decide +kernel
theorem d_law_162 : decode code 162 = .ok (.aload_n 0, 1) := by decide +kernel
theorem d_law_163 : decode code 163 = .ok (.iload_n 3, 1) := by decide +kernel
theorem d_law_164 : decode code 164 = .ok (.iconst 2, 1) := by decide +kernel
theorem d_law_165 : decode code 165 = .ok (.iadd, 1) := by decide +kernel
theorem d_law_166 : decode code 166 = .ok (.iaload, 1) := by decide +kernel
theorem d_law_167 : decode code 167 = .ok (.aload_n 0, 1) := by decide +kernel
theorem d_law_168 : decode code 168 = .ok (.iload_n 3, 1) := by decide +kernel
theorem d_law_169 : decode code 169 = .ok (.iconst 3, 1) := by decide +kernel
theorem d_law_170 : decode code 170 = .ok (.iadd, 1) := by decide +kernel
theorem d_law_171 : decode code 171 = .ok (.iaload, 1) := by decide +kernel
theorem d_law_172 : decode code 172 = .ok (.invokevirtual 21, 3) := by decide +kernel
theorem d_law_175 : decode code 175 = .ok (.aload_n 2, 1) := by decide +kernel
theorem d_law_176 : decode code 176 = .ok (.aload_n 0, 1) := by decide +kernel
theorem d_law_177 : decode code 177 = .ok (.iload_n 3, 1) := by decide +kernel
theorem d_law_178 : decode code 178 = .ok (.iconst 1, 1) := by decide +kernel
theorem d_law_179 : decode code 179 = .ok (.iadd, 1) := by decide +kernel
theorem d_law_180 : decode code 180 = .ok (.iaload, 1) := by decide +kernel
theorem d_law_181 : decode code 181 = .ok (.aload_n 0, 1) := by decide +kernel
theorem d_law_182 : decode code 182 = .ok (.iload_n 3, 1) := by decide +kernel
theorem d_law_183 : decode code 183 = .ok (.iconst 2, 1) := by decide +kernel
theorem d_law_184 : decode code 184 = .ok (.iadd, 1) := by decide +kernel
theorem d_law_185 : decode code 185 = .ok (.iaload, 1) := by decide +kernel
theorem d_law_186 : decode code 186 = .ok (.aload_n 0, 1) := by decide +kernel
theorem d_law_187 : decode code 187 = .ok (.iload_n 3, 1) := by decide +kernel
theorem d_law_188 : decode code 188 = .ok (.iconst 3, 1) := by decide +kernel
theorem d_law_189 : decode code 189 = .ok (.iadd, 1) := by decide +kernel
theorem d_law_190 : decode code 190 = .ok (.iaload, 1) := by decide +kernel
theorem d_law_191 : decode code 191 = .ok (.invokevirtual 25, 3) := by decide +kernel
theorem d_law_194 : decode code 194 = .ok (.if_icmp .eq 555, 3) := by decide +kernel
theorem d_law_197 : decode code 197 = .ok (.iconst 0, 1) := by decide +kernel
theorem d_law_198 : decode code 198 = .ok (.ireturn, 1) := by decide +kernel
theorem d_law_199 : decode code 199 = .ok (.aload_n 1, 1) := by decide +kernel
theorem d_law_200 : decode code 200 = .ok (.aload_n 0, 1) := by decide +kernel
theorem d_law_201 : decode code 201 = .ok (.iload_n 3, 1) := by decide +kernel
theorem d_law_202 : decode code 202 = .ok (.iconst 1, 1) := by decide +kernel
theorem d_law_203 : decode code 203 = .ok (.iadd, 1) := by decide +kernel
theorem d_law_204 : decode code 204 = .ok (.iaload, 1) := by decide +kernel
theorem d_law_205 : decode code 205 = .ok (.aload_n 0, 1) := by decide +kernel
theorem d_law_206 : decode code 206 = .ok (.iload_n 3, 1) := by decide +kernel
theorem d_law_207 : decode code 207 = .ok (.iconst 2, 1) := by decide +kernel
theorem d_law_208 : decode code 208 = .ok (.iadd, 1) := by decide +kernel
theorem d_law_209 : decode code 209 = .ok (.iaload, 1) := by decide +kernel
theorem d_law_210 : decode code 210 = .ok (.invokevirtual 26, 3) := by decide +kernel
theorem d_law_213 : decode code 213 = .ok (.aload_n 2, 1) := by decide +kernel
theorem d_law_214 : decode code 214 = .ok (.aload_n 0, 1) := by decide +kernel
theorem d_law_215 : decode code 215 = .ok (.iload_n 3, 1) := by decide +kernel
theorem d_law_216 : decode code 216 = .ok (.iconst 1, 1) := by decide +kernel
theorem d_law_217 : decode code 217 = .ok (.iadd, 1) := by decide +kernel
theorem d_law_218 : decode code 218 = .ok (.iaload, 1) := by decide +kernel
theorem d_law_219 : decode code 219 = .ok (.aload_n 0, 1) := by decide +kernel
theorem d_law_220 : decode code 220 = .ok (.iload_n 3, 1) := by decide +kernel
theorem d_law_221 : decode code 221 = .ok (.iconst 2, 1) := by decide +kernel
theorem d_law_222 : decode code 222 = .ok (.iadd, 1) := by decide +kernel
theorem d_law_223 : decode code 223 = .ok (.iaload, 1) := by decide +kernel
theorem d_law_224 : decode code 224 = .ok (.invokevirtual 30, 3) := by decide +kernel
theorem d_law_227 : decode code 227 = .ok (.if_icmp .eq 522, 3) := by decide +kernel
theorem d_law_230 : decode code 230 = .ok (.iconst 0, 1) := by decide +kernel
theorem d_law_231 : decode code 231 = .ok (.ireturn, 1) := by decide +kernel
theorem d_law_232 : decode code 232 = .ok (.aload_n 1, 1) := by decide +kernel
theorem d_law_233 : decode code 233 = .ok (.aload_n 0, 1) := by decide +kernel
theorem d_law_234 : decode code 234 = .ok (.iload_n 3, 1) := by decide +kernel
theorem d_law_235 : decode code 235 = .ok (.iconst 1, 1) := by decide +kernel
theorem d_law_236 : decode code 236 = .ok (.iadd, 1) := by decide +kernel
theorem d_law_237 : decode code 237 = .ok (.iaload, 1) := by decide +kernel
theorem d_law_238 : decode code 238 = .ok (.aload_n 0, 1) := by decide +kernel
theorem d_law_239 : decode code 239 = .ok (.iload_n 3, 1) := by decide +kernel
theorem d_law_240 : decode code 240 = .ok (.iconst 2, 1) := by decide +kernel
theorem d_law_241 : decode code 241 = .ok (.iadd, 1) := by decide +kernel
theorem d_law_242 : decode code 242 = .ok (.iaload, 1) := by decide +kernel
theorem d_law_243 : decode code 243 = .ok (.aload_n 0, 1) := by decide +kernel
theorem d_law_244 : decode code 244 = .ok (.iload_n 3, 1) := by decide +kernel
theorem d_law_245 : decode code 245 = .ok (.iconst 3, 1) := by decide +kernel
theorem d_law_246 : decode code 246 = .ok (.iadd, 1) := by decide +kernel
theorem d_law_247 : decode code 247 = .ok (.iaload, 1) := by decide +kernel
theorem d_law_248 : decode code 248 = .ok (.aload_n 0, 1) := by decide +kernel
theorem d_law_249 : decode code 249 = .ok (.iload_n 3, 1) := by decide +kernel
theorem d_law_250 : decode code 250 = .ok (.iconst 4, 1) := by decide +kernel
theorem d_law_251 : decode code 251 = .ok (.iadd, 1) := by decide +kernel
theorem d_law_252 : decode code 252 = .ok (.iaload, 1) := by decide +kernel
theorem d_law_253 : decode code 253 = .ok (.aload_n 0, 1) := by decide +kernel
theorem d_law_254 : decode code 254 = .ok (.iload_n 3, 1) := by decide +kernel
theorem d_law_255 : decode code 255 = .ok (.iconst 5, 1) := by decide +kernel
theorem d_law_256 : decode code 256 = .ok (.iadd, 1) := by decide +kernel
theorem d_law_257 : decode code 257 = .ok (.iaload, 1) := by decide +kernel
theorem d_law_258 : decode code 258 = .ok (.invokevirtual 31, 3) := by decide +kernel
theorem d_law_261 : decode code 261 = .ok (.aload_n 2, 1) := by decide +kernel
theorem d_law_262 : decode code 262 = .ok (.aload_n 0, 1) := by decide +kernel
theorem d_law_263 : decode code 263 = .ok (.iload_n 3, 1) := by decide +kernel
theorem d_law_264 : decode code 264 = .ok (.iconst 1, 1) := by decide +kernel
theorem d_law_265 : decode code 265 = .ok (.iadd, 1) := by decide +kernel
theorem d_law_266 : decode code 266 = .ok (.iaload, 1) := by decide +kernel
theorem d_law_267 : decode code 267 = .ok (.aload_n 0, 1) := by decide +kernel
theorem d_law_268 : decode code 268 = .ok (.iload_n 3, 1) := by decide +kernel
theorem d_law_269 : decode code 269 = .ok (.iconst 2, 1) := by decide +kernel
theorem d_law_270 : decode code 270 = .ok (.iadd, 1) := by decide +kernel
theorem d_law_271 : decode code 271 = .ok (.iaload, 1) := by decide +kernel
theorem d_law_272 : decode code 272 = .ok (.aload_n 0, 1) := by decide +kernel
theorem d_law_273 : decode code 273 = .ok (.iload_n 3, 1) := by decide +kernel
theorem d_law_274 : decode code 274 = .ok (.iconst 3, 1) := by decide +kernel
theorem d_law_275 : decode code 275 = .ok (.iadd, 1) := by decide +kernel
theorem d_law_276 : decode code 276 = .ok (.iaload, 1) := by decide +kernel
theorem d_law_277 : decode code 277 = .ok (.aload_n 0, 1) := by decide +kernel
theorem d_law_278 : decode code 278 = .ok (.iload_n 3, 1) := by decide +kernel
theorem d_law_279 : decode code 279 = .ok (.iconst 4, 1) := by decide +kernel
theorem d_law_280 : decode code 280 = .ok (.iadd, 1) := by decide +kernel
theorem d_law_281 : decode code 281 = .ok (.iaload, 1) := by decide +kernel
theorem d_law_282 : decode code 282 = .ok (.aload_n 0, 1) := by decide +kernel
theorem d_law_283 : decode code 283 = .ok (.iload_n 3, 1) := by decide +kernel
theorem d_law_284 : decode code 284 = .ok (.iconst 5, 1) := by decide +kernel
theorem d_law_285 : decode code 285 = .ok (.iadd, 1) := by decide +kernel
theorem d_law_286 : decode code 286 = .ok (.iaload, 1) := by decide +kernel
theorem d_law_287 : decode code 287 = .ok (.invokevirtual 35, 3) := by decide +kernel
theorem d_law_290 : decode code 290 = .ok (.if_icmp .eq 459, 3) := by decide +kernel
theorem d_law_293 : decode code 293 = .ok (.iconst 0, 1) := by decide +kernel
theorem d_law_294 : decode code 294 = .ok (.ireturn, 1) := by decide +kernel
theorem d_law_295 : decode code 295 = .ok (.aload_n 1, 1) := by decide +kernel
theorem d_law_296 : decode code 296 = .ok (.aload_n 0, 1) := by decide +kernel
theorem d_law_297 : decode code 297 = .ok (.iload_n 3, 1) := by decide +kernel
theorem d_law_298 : decode code 298 = .ok (.iconst 1, 1) := by decide +kernel
theorem d_law_299 : decode code 299 = .ok (.iadd, 1) := by decide +kernel
theorem d_law_300 : decode code 300 = .ok (.iaload, 1) := by decide +kernel
theorem d_law_301 : decode code 301 = .ok (.aload_n 0, 1) := by decide +kernel
theorem d_law_302 : decode code 302 = .ok (.iload_n 3, 1) := by decide +kernel
theorem d_law_303 : decode code 303 = .ok (.iconst 2, 1) := by decide +kernel
theorem d_law_304 : decode code 304 = .ok (.iadd, 1) := by decide +kernel
theorem d_law_305 : decode code 305 = .ok (.iaload, 1) := by decide +kernel
theorem d_law_306 : decode code 306 = .ok (.aload_n 0, 1) := by decide +kernel
theorem d_law_307 : decode code 307 = .ok (.iload_n 3, 1) := by decide +kernel
theorem d_law_308 : decode code 308 = .ok (.iconst 3, 1) := by decide +kernel
theorem d_law_309 : decode code 309 = .ok (.iadd, 1) := by decide +kernel
theorem d_law_310 : decode code 310 = .ok (.iaload, 1) := by decide +kernel
theorem d_law_311 : decode code 311 = .ok (.aload_n 0, 1) := by decide +kernel
theorem d_law_312 : decode code 312 = .ok (.iload_n 3, 1) := by decide +kernel
theorem d_law_313 : decode code 313 = .ok (.iconst 4, 1) := by decide +kernel
theorem d_law_314 : decode code 314 = .ok (.iadd, 1) := by decide +kernel
theorem d_law_315 : decode code 315 = .ok (.iaload, 1) := by decide +kernel
theorem d_law_316 : decode code 316 = .ok (.invokevirtual 36, 3) := by decide +kernel
theorem d_law_319 : decode code 319 = .ok (.aload_n 2, 1) := by decide +kernel
theorem d_law_320 : decode code 320 = .ok (.aload_n 0, 1) := by decide +kernel
theorem d_law_321 : decode code 321 = .ok (.iload_n 3, 1) := by decide +kernel
theorem d_law_322 : decode code 322 = .ok (.iconst 1, 1) := by decide +kernel
theorem d_law_323 : decode code 323 = .ok (.iadd, 1) := by decide +kernel
theorem d_law_324 : decode code 324 = .ok (.iaload, 1) := by decide +kernel
theorem d_law_325 : decode code 325 = .ok (.aload_n 0, 1) := by decide +kernel
theorem d_law_326 : decode code 326 = .ok (.iload_n 3, 1) := by decide +kernel
theorem d_law_327 : decode code 327 = .ok (.iconst 2, 1) := by decide +kernel
theorem d_law_328 : decode code 328 = .ok (.iadd, 1) := by decide +kernel
theorem d_law_329 : decode code 329 = .ok (.iaload, 1) := by decide +kernel
theorem d_law_330 : decode code 330 = .ok (.aload_n 0, 1) := by decide +kernel
theorem d_law_331 : decode code 331 = .ok (.iload_n 3, 1) := by decide +kernel
theorem d_law_332 : decode code 332 = .ok (.iconst 3, 1) := by decide +kernel
theorem d_law_333 : decode code 333 = .ok (.iadd, 1) := by decide +kernel
theorem d_law_334 : decode code 334 = .ok (.iaload, 1) := by decide +kernel
theorem d_law_335 : decode code 335 = .ok (.aload_n 0, 1) := by decide +kernel
theorem d_law_336 : decode code 336 = .ok (.iload_n 3, 1) := by decide +kernel
theorem d_law_337 : decode code 337 = .ok (.iconst 4, 1) := by decide +kernel
theorem d_law_338 : decode code 338 = .ok (.iadd, 1) := by decide +kernel
theorem d_law_339 : decode code 339 = .ok (.iaload, 1) := by decide +kernel
theorem d_law_340 : decode code 340 = .ok (.invokevirtual 40, 3) := by decide +kernel
theorem d_law_343 : decode code 343 = .ok (.if_icmp .eq 406, 3) := by decide +kernel
theorem d_law_346 : decode code 346 = .ok (.iconst 0, 1) := by decide +kernel
theorem d_law_347 : decode code 347 = .ok (.ireturn, 1) := by decide +kernel
theorem d_law_348 : decode code 348 = .ok (.aload_n 1, 1) := by decide +kernel
theorem d_law_349 : decode code 349 = .ok (.aload_n 0, 1) := by decide +kernel
theorem d_law_350 : decode code 350 = .ok (.iload_n 3, 1) := by decide +kernel
theorem d_law_351 : decode code 351 = .ok (.iconst 1, 1) := by decide +kernel
theorem d_law_352 : decode code 352 = .ok (.iadd, 1) := by decide +kernel
theorem d_law_353 : decode code 353 = .ok (.iaload, 1) := by decide +kernel
theorem d_law_354 : decode code 354 = .ok (.aload_n 0, 1) := by decide +kernel
theorem d_law_355 : decode code 355 = .ok (.iload_n 3, 1) := by decide +kernel
theorem d_law_356 : decode code 356 = .ok (.iconst 2, 1) := by decide +kernel
theorem d_law_357 : decode code 357 = .ok (.iadd, 1) := by decide +kernel
theorem d_law_358 : decode code 358 = .ok (.iaload, 1) := by decide +kernel
theorem d_law_359 : decode code 359 = .ok (.aload_n 0, 1) := by decide +kernel
theorem d_law_360 : decode code 360 = .ok (.iload_n 3, 1) := by decide +kernel
theorem d_law_361 : decode code 361 = .ok (.iconst 3, 1) := by decide +kernel
theorem d_law_362 : decode code 362 = .ok (.iadd, 1) := by decide +kernel
theorem d_law_363 : decode code 363 = .ok (.iaload, 1) := by decide +kernel
theorem d_law_364 : decode code 364 = .ok (.invokevirtual 41, 3) := by decide +kernel
theorem d_law_367 : decode code 367 = .ok (.aload_n 2, 1) := by decide +kernel
theorem d_law_368 : decode code 368 = .ok (.aload_n 0, 1) := by decide +kernel
theorem d_law_369 : decode code 369 = .ok (.iload_n 3, 1) := by decide +kernel
theorem d_law_370 : decode code 370 = .ok (.iconst 1, 1) := by decide +kernel
theorem d_law_371 : decode code 371 = .ok (.iadd, 1) := by decide +kernel
theorem d_law_372 : decode code 372 = .ok (.iaload, 1) := by decide +kernel
theorem d_law_373 : decode code 373 = .ok (.aload_n 0, 1) := by decide +kernel
theorem d_law_374 : decode code 374 = .ok (.iload_n 3, 1) := by decide +kernel
theorem d_law_375 : decode code 375 = .ok (.iconst 2, 1) := by decide +kernel
theorem d_law_376 : decode code 376 = .ok (.iadd, 1) := by decide +kernel
theorem d_law_377 : decode code 377 = .ok (.iaload, 1) := by decide +kernel
theorem d_law_378 : decode code 378 = .ok (.aload_n 0, 1) := by decide +kernel
theorem d_law_379 : decode code 379 = .ok (.iload_n 3, 1) := by decide +kernel
theorem d_law_380 : decode code 380 = .ok (.iconst 3, 1) := by decide +kernel
theorem d_law_381 : decode code 381 = .ok (.iadd, 1) := by decide +kernel
theorem d_law_382 : decode code 382 = .ok (.iaload, 1) := by decide +kernel
theorem d_law_383 : decode code 383 = .ok (.invokevirtual 44, 3) := by decide +kernel
theorem d_law_386 : decode code 386 = .ok (.if_icmp .eq 363, 3) := by decide +kernel
theorem d_law_389 : decode code 389 = .ok (.iconst 0, 1) := by decide +kernel
theorem d_law_390 : decode code 390 = .ok (.ireturn, 1) := by decide +kernel
theorem d_law_391 : decode code 391 = .ok (.aload_n 1, 1) := by decide +kernel
theorem d_law_392 : decode code 392 = .ok (.aload_n 0, 1) := by decide +kernel
theorem d_law_393 : decode code 393 = .ok (.iload_n 3, 1) := by decide +kernel
theorem d_law_394 : decode code 394 = .ok (.iconst 1, 1) := by decide +kernel
theorem d_law_395 : decode code 395 = .ok (.iadd, 1) := by decide +kernel
theorem d_law_396 : decode code 396 = .ok (.iaload, 1) := by decide +kernel
theorem d_law_397 : decode code 397 = .ok (.aload_n 0, 1) := by decide +kernel
theorem d_law_398 : decode code 398 = .ok (.iload_n 3, 1) := by decide +kernel
theorem d_law_399 : decode code 399 = .ok (.iconst 2, 1) := by decide +kernel
theorem d_law_400 : decode code 400 = .ok (.iadd, 1) := by decide +kernel
theorem d_law_401 : decode code 401 = .ok (.iaload, 1) := by decide +kernel
theorem d_law_402 : decode code 402 = .ok (.invokevirtual 45, 3) := by decide +kernel
theorem d_law_405 : decode code 405 = .ok (.aload_n 2, 1) := by decide +kernel
theorem d_law_406 : decode code 406 = .ok (.aload_n 0, 1) := by decide +kernel
theorem d_law_407 : decode code 407 = .ok (.iload_n 3, 1) := by decide +kernel
theorem d_law_408 : decode code 408 = .ok (.iconst 1, 1) := by decide +kernel
theorem d_law_409 : decode code 409 = .ok (.iadd, 1) := by decide +kernel
theorem d_law_410 : decode code 410 = .ok (.iaload, 1) := by decide +kernel
theorem d_law_411 : decode code 411 = .ok (.aload_n 0, 1) := by decide +kernel
theorem d_law_412 : decode code 412 = .ok (.iload_n 3, 1) := by decide +kernel
theorem d_law_413 : decode code 413 = .ok (.iconst 2, 1) := by decide +kernel
theorem d_law_414 : decode code 414 = .ok (.iadd, 1) := by decide +kernel
theorem d_law_415 : decode code 415 = .ok (.iaload, 1) := by decide +kernel
theorem d_law_416 : decode code 416 = .ok (.invokevirtual 49, 3) := by decide +kernel
theorem d_law_419 : decode code 419 = .ok (.if_icmp .eq 330, 3) := by decide +kernel
theorem d_law_422 : decode code 422 = .ok (.iconst 0, 1) := by decide +kernel
theorem d_law_423 : decode code 423 = .ok (.ireturn, 1) := by decide +kernel
theorem d_law_424 : decode code 424 = .ok (.aload_n 1, 1) := by decide +kernel
theorem d_law_425 : decode code 425 = .ok (.aload_n 0, 1) := by decide +kernel
theorem d_law_426 : decode code 426 = .ok (.iload_n 3, 1) := by decide +kernel
theorem d_law_427 : decode code 427 = .ok (.iconst 1, 1) := by decide +kernel
theorem d_law_428 : decode code 428 = .ok (.iadd, 1) := by decide +kernel
theorem d_law_429 : decode code 429 = .ok (.iaload, 1) := by decide +kernel
theorem d_law_430 : decode code 430 = .ok (.aload_n 0, 1) := by decide +kernel
theorem d_law_431 : decode code 431 = .ok (.iload_n 3, 1) := by decide +kernel
theorem d_law_432 : decode code 432 = .ok (.iconst 2, 1) := by decide +kernel
theorem d_law_433 : decode code 433 = .ok (.iadd, 1) := by decide +kernel
theorem d_law_434 : decode code 434 = .ok (.iaload, 1) := by decide +kernel
theorem d_law_435 : decode code 435 = .ok (.invokevirtual 50, 3) := by decide +kernel
theorem d_law_438 : decode code 438 = .ok (.aload_n 2, 1) := by decide +kernel
theorem d_law_439 : decode code 439 = .ok (.aload_n 0, 1) := by decide +kernel
theorem d_law_440 : decode code 440 = .ok (.iload_n 3, 1) := by decide +kernel
theorem d_law_441 : decode code 441 = .ok (.iconst 1, 1) := by decide +kernel
theorem d_law_442 : decode code 442 = .ok (.iadd, 1) := by decide +kernel
theorem d_law_443 : decode code 443 = .ok (.iaload, 1) := by decide +kernel
theorem d_law_444 : decode code 444 = .ok (.aload_n 0, 1) := by decide +kernel
theorem d_law_445 : decode code 445 = .ok (.iload_n 3, 1) := by decide +kernel
theorem d_law_446 : decode code 446 = .ok (.iconst 2, 1) := by decide +kernel
theorem d_law_447 : decode code 447 = .ok (.iadd, 1) := by decide +kernel
theorem d_law_448 : decode code 448 = .ok (.iaload, 1) := by decide +kernel
theorem d_law_449 : decode code 449 = .ok (.invokevirtual 53, 3) := by decide +kernel
theorem d_law_452 : decode code 452 = .ok (.if_icmp .eq 297, 3) := by decide +kernel
theorem d_law_455 : decode code 455 = .ok (.iconst 0, 1) := by decide +kernel
theorem d_law_456 : decode code 456 = .ok (.ireturn, 1) := by decide +kernel
theorem d_law_457 : decode code 457 = .ok (.aload_n 1, 1) := by decide +kernel
theorem d_law_458 : decode code 458 = .ok (.aload_n 0, 1) := by decide +kernel
theorem d_law_459 : decode code 459 = .ok (.iload_n 3, 1) := by decide +kernel
theorem d_law_460 : decode code 460 = .ok (.iconst 1, 1) := by decide +kernel
theorem d_law_461 : decode code 461 = .ok (.iadd, 1) := by decide +kernel
theorem d_law_462 : decode code 462 = .ok (.iaload, 1) := by decide +kernel
theorem d_law_463 : decode code 463 = .ok (.aload_n 0, 1) := by decide +kernel
theorem d_law_464 : decode code 464 = .ok (.iload_n 3, 1) := by decide +kernel
theorem d_law_465 : decode code 465 = .ok (.iconst 2, 1) := by decide +kernel
theorem d_law_466 : decode code 466 = .ok (.iadd, 1) := by decide +kernel
theorem d_law_467 : decode code 467 = .ok (.iaload, 1) := by decide +kernel
theorem d_law_468 : decode code 468 = .ok (.invokevirtual 54, 3) := by decide +kernel
theorem d_law_471 : decode code 471 = .ok (.aload_n 2, 1) := by decide +kernel
theorem d_law_472 : decode code 472 = .ok (.aload_n 0, 1) := by decide +kernel
theorem d_law_473 : decode code 473 = .ok (.iload_n 3, 1) := by decide +kernel
theorem d_law_474 : decode code 474 = .ok (.iconst 1, 1) := by decide +kernel
theorem d_law_475 : decode code 475 = .ok (.iadd, 1) := by decide +kernel
theorem d_law_476 : decode code 476 = .ok (.iaload, 1) := by decide +kernel
theorem d_law_477 : decode code 477 = .ok (.aload_n 0, 1) := by decide +kernel
theorem d_law_478 : decode code 478 = .ok (.iload_n 3, 1) := by decide +kernel
theorem d_law_479 : decode code 479 = .ok (.iconst 2, 1) := by decide +kernel
theorem d_law_480 : decode code 480 = .ok (.iadd, 1) := by decide +kernel
theorem d_law_481 : decode code 481 = .ok (.iaload, 1) := by decide +kernel
theorem d_law_482 : decode code 482 = .ok (.invokevirtual 57, 3) := by decide +kernel
theorem d_law_485 : decode code 485 = .ok (.if_icmp .eq 264, 3) := by decide +kernel
theorem d_law_488 : decode code 488 = .ok (.iconst 0, 1) := by decide +kernel
theorem d_law_489 : decode code 489 = .ok (.ireturn, 1) := by decide +kernel
theorem d_law_490 : decode code 490 = .ok (.aload_n 1, 1) := by decide +kernel
theorem d_law_491 : decode code 491 = .ok (.aload_n 0, 1) := by decide +kernel
theorem d_law_492 : decode code 492 = .ok (.iload_n 3, 1) := by decide +kernel
theorem d_law_493 : decode code 493 = .ok (.iconst 1, 1) := by decide +kernel
theorem d_law_494 : decode code 494 = .ok (.iadd, 1) := by decide +kernel
theorem d_law_495 : decode code 495 = .ok (.iaload, 1) := by decide +kernel
theorem d_law_496 : decode code 496 = .ok (.i2c, 1) := by decide +kernel
theorem d_law_497 : decode code 497 = .ok (.invokevirtual 58, 3) := by decide +kernel
theorem d_law_500 : decode code 500 = .ok (.aload_n 2, 1) := by decide +kernel
theorem d_law_501 : decode code 501 = .ok (.aload_n 0, 1) := by decide +kernel
theorem d_law_502 : decode code 502 = .ok (.iload_n 3, 1) := by decide +kernel
theorem d_law_503 : decode code 503 = .ok (.iconst 1, 1) := by decide +kernel
theorem d_law_504 : decode code 504 = .ok (.iadd, 1) := by decide +kernel
theorem d_law_505 : decode code 505 = .ok (.iaload, 1) := by decide +kernel
theorem d_law_506 : decode code 506 = .ok (.i2c, 1) := by decide +kernel
theorem d_law_507 : decode code 507 = .ok (.invokevirtual 62, 3) := by decide +kernel
theorem d_law_510 : decode code 510 = .ok (.if_icmp .eq 239, 3) := by decide +kernel
theorem d_law_513 : decode code 513 = .ok (.iconst 0, 1) := by decide +kernel
theorem d_law_514 : decode code 514 = .ok (.ireturn, 1) := by decide +kernel
theorem d_law_515 : decode code 515 = .ok (.aload_n 1, 1) := by decide +kernel
theorem d_law_516 : decode code 516 = .ok (.aload_n 0, 1) := by decide +kernel
theorem d_law_517 : decode code 517 = .ok (.iload_n 3, 1) := by decide +kernel
theorem d_law_518 : decode code 518 = .ok (.iconst 1, 1) := by decide +kernel
theorem d_law_519 : decode code 519 = .ok (.iadd, 1) := by decide +kernel
theorem d_law_520 : decode code 520 = .ok (.iaload, 1) := by decide +kernel
theorem d_law_521 : decode code 521 = .ok (.aload_n 0, 1) := by decide +kernel
theorem d_law_522 : decode code 522 = .ok (.iload_n 3, 1) := by decide +kernel
theorem d_law_523 : decode code 523 = .ok (.iconst 2, 1) := by decide +kernel
theorem d_law_524 : decode code 524 = .ok (.iadd, 1) := by decide +kernel
theorem d_law_525 : decode code 525 = .ok (.iaload, 1) := by decide +kernel
theorem d_law_526 : decode code 526 = .ok (.i2c, 1) := by decide +kernel
theorem d_law_527 : decode code 527 = .ok (.invokevirtual 63, 3) := by decide +kernel
theorem d_law_530 : decode code 530 = .ok (.aload_n 2, 1) := by decide +kernel
theorem d_law_531 : decode code 531 = .ok (.aload_n 0, 1) := by decide +kernel
theorem d_law_532 : decode code 532 = .ok (.iload_n 3, 1) := by decide +kernel
theorem d_law_533 : decode code 533 = .ok (.iconst 1, 1) := by decide +kernel
theorem d_law_534 : decode code 534 = .ok (.iadd, 1) := by decide +kernel
theorem d_law_535 : decode code 535 = .ok (.iaload, 1) := by decide +kernel
theorem d_law_536 : decode code 536 = .ok (.aload_n 0, 1) := by decide +kernel
theorem d_law_537 : decode code 537 = .ok (.iload_n 3, 1) := by decide +kernel
theorem d_law_538 : decode code 538 = .ok (.iconst 2, 1) := by decide +kernel
theorem d_law_539 : decode code 539 = .ok (.iadd, 1) := by decide +kernel
theorem d_law_540 : decode code 540 = .ok (.iaload, 1) := by decide +kernel
theorem d_law_541 : decode code 541 = .ok (.i2c, 1) := by decide +kernel
theorem d_law_542 : decode code 542 = .ok (.invokevirtual 67, 3) := by decide +kernel
theorem d_law_545 : decode code 545 = .ok (.if_icmp .eq 204, 3) := by decide +kernel
theorem d_law_548 : decode code 548 = .ok (.iconst 0, 1) := by decide +kernel
theorem d_law_549 : decode code 549 = .ok (.ireturn, 1) := by decide +kernel
theorem d_law_550 : decode code 550 = .ok (.aload_n 1, 1) := by decide +kernel
theorem d_law_551 : decode code 551 = .ok (.aload_n 0, 1) := by decide +kernel
theorem d_law_552 : decode code 552 = .ok (.iload_n 3, 1) := by decide +kernel
theorem d_law_553 : decode code 553 = .ok (.iconst 1, 1) := by decide +kernel
theorem d_law_554 : decode code 554 = .ok (.iadd, 1) := by decide +kernel
theorem d_law_555 : decode code 555 = .ok (.iaload, 1) := by decide +kernel
theorem d_law_556 : decode code 556 = .ok (.ifCond .eq 7, 3) := by decide +kernel
theorem d_law_559 : decode code 559 = .ok (.iconst 1, 1) := by decide +kernel
theorem d_law_560 : decode code 560 = .ok (.goto 4, 3) := by decide +kernel
theorem d_law_563 : decode code 563 = .ok (.iconst 0, 1) := by decide +kernel
theorem d_law_564 : decode code 564 = .ok (.invokevirtual 68, 3) := by decide +kernel
theorem d_law_567 : decode code 567 = .ok (.aload_n 2, 1) := by decide +kernel
theorem d_law_568 : decode code 568 = .ok (.aload_n 0, 1) := by decide +kernel
theorem d_law_569 : decode code 569 = .ok (.iload_n 3, 1) := by decide +kernel
theorem d_law_570 : decode code 570 = .ok (.iconst 1, 1) := by decide +kernel
theorem d_law_571 : decode code 571 = .ok (.iadd, 1) := by decide +kernel
theorem d_law_572 : decode code 572 = .ok (.iaload, 1) := by decide +kernel
theorem d_law_573 : decode code 573 = .ok (.ifCond .eq 7, 3) := by decide +kernel
theorem d_law_576 : decode code 576 = .ok (.iconst 1, 1) := by decide +kernel
theorem d_law_577 : decode code 577 = .ok (.goto 4, 3) := by decide +kernel
theorem d_law_580 : decode code 580 = .ok (.iconst 0, 1) := by decide +kernel
theorem d_law_581 : decode code 581 = .ok (.invokevirtual 72, 3) := by decide +kernel
theorem d_law_584 : decode code 584 = .ok (.if_icmp .eq 165, 3) := by decide +kernel
theorem d_law_587 : decode code 587 = .ok (.iconst 0, 1) := by decide +kernel
theorem d_law_588 : decode code 588 = .ok (.ireturn, 1) := by decide +kernel
theorem d_law_589 : decode code 589 = .ok (.aload_n 1, 1) := by decide +kernel
theorem d_law_590 : decode code 590 = .ok (.aload_n 0, 1) := by decide +kernel
theorem d_law_591 : decode code 591 = .ok (.iload_n 3, 1) := by decide +kernel
theorem d_law_592 : decode code 592 = .ok (.iconst 1, 1) := by decide +kernel
theorem d_law_593 : decode code 593 = .ok (.iadd, 1) := by decide +kernel
theorem d_law_594 : decode code 594 = .ok (.iaload, 1) := by decide +kernel
theorem d_law_595 : decode code 595 = .ok (.ifCond .eq 7, 3) := by decide +kernel
theorem d_law_598 : decode code 598 = .ok (.iconst 1, 1) := by decide +kernel
theorem d_law_599 : decode code 599 = .ok (.goto 4, 3) := by decide +kernel
theorem d_law_602 : decode code 602 = .ok (.iconst 0, 1) := by decide +kernel
theorem d_law_603 : decode code 603 = .ok (.aload_n 0, 1) := by decide +kernel
theorem d_law_604 : decode code 604 = .ok (.iload_n 3, 1) := by decide +kernel
theorem d_law_605 : decode code 605 = .ok (.iconst 2, 1) := by decide +kernel
theorem d_law_606 : decode code 606 = .ok (.iadd, 1) := by decide +kernel
theorem d_law_607 : decode code 607 = .ok (.iaload, 1) := by decide +kernel
theorem d_law_608 : decode code 608 = .ok (.invokevirtual 73, 3) := by decide +kernel
theorem d_law_611 : decode code 611 = .ok (.aload_n 2, 1) := by decide +kernel
theorem d_law_612 : decode code 612 = .ok (.aload_n 0, 1) := by decide +kernel
theorem d_law_613 : decode code 613 = .ok (.iload_n 3, 1) := by decide +kernel
theorem d_law_614 : decode code 614 = .ok (.iconst 1, 1) := by decide +kernel
theorem d_law_615 : decode code 615 = .ok (.iadd, 1) := by decide +kernel
theorem d_law_616 : decode code 616 = .ok (.iaload, 1) := by decide +kernel
theorem d_law_617 : decode code 617 = .ok (.ifCond .eq 7, 3) := by decide +kernel
theorem d_law_620 : decode code 620 = .ok (.iconst 1, 1) := by decide +kernel
theorem d_law_621 : decode code 621 = .ok (.goto 4, 3) := by decide +kernel
theorem d_law_624 : decode code 624 = .ok (.iconst 0, 1) := by decide +kernel
theorem d_law_625 : decode code 625 = .ok (.aload_n 0, 1) := by decide +kernel
theorem d_law_626 : decode code 626 = .ok (.iload_n 3, 1) := by decide +kernel
theorem d_law_627 : decode code 627 = .ok (.iconst 2, 1) := by decide +kernel
theorem d_law_628 : decode code 628 = .ok (.iadd, 1) := by decide +kernel
theorem d_law_629 : decode code 629 = .ok (.iaload, 1) := by decide +kernel
theorem d_law_630 : decode code 630 = .ok (.invokevirtual 77, 3) := by decide +kernel
theorem d_law_633 : decode code 633 = .ok (.if_icmp .eq 116, 3) := by decide +kernel
theorem d_law_636 : decode code 636 = .ok (.iconst 0, 1) := by decide +kernel
theorem d_law_637 : decode code 637 = .ok (.ireturn, 1) := by decide +kernel
theorem d_law_638 : decode code 638 = .ok (.aload_n 1, 1) := by decide +kernel
theorem d_law_639 : decode code 639 = .ok (.invokevirtual 78, 3) := by decide +kernel
theorem d_law_642 : decode code 642 = .ok (.aload_n 2, 1) := by decide +kernel
theorem d_law_643 : decode code 643 = .ok (.invokevirtual 82, 3) := by decide +kernel
theorem d_law_646 : decode code 646 = .ok (.if_icmp .eq 103, 3) := by decide +kernel
theorem d_law_649 : decode code 649 = .ok (.iconst 0, 1) := by decide +kernel
theorem d_law_650 : decode code 650 = .ok (.ireturn, 1) := by decide +kernel
theorem d_law_651 : decode code 651 = .ok (.aload_n 1, 1) := by decide +kernel
theorem d_law_652 : decode code 652 = .ok (.invokevirtual 83, 3) := by decide +kernel
theorem d_law_655 : decode code 655 = .ok (.aload_n 2, 1) := by decide +kernel
theorem d_law_656 : decode code 656 = .ok (.invokevirtual 86, 3) := by decide +kernel
theorem d_law_659 : decode code 659 = .ok (.if_icmp .eq 90, 3) := by decide +kernel
theorem d_law_662 : decode code 662 = .ok (.iconst 0, 1) := by decide +kernel
theorem d_law_663 : decode code 663 = .ok (.ireturn, 1) := by decide +kernel
theorem d_law_664 : decode code 664 = .ok (.aload_n 1, 1) := by decide +kernel
theorem d_law_665 : decode code 665 = .ok (.aload_n 0, 1) := by decide +kernel
theorem d_law_666 : decode code 666 = .ok (.iload_n 3, 1) := by decide +kernel
theorem d_law_667 : decode code 667 = .ok (.iconst 1, 1) := by decide +kernel
theorem d_law_668 : decode code 668 = .ok (.iadd, 1) := by decide +kernel
theorem d_law_669 : decode code 669 = .ok (.iaload, 1) := by decide +kernel
theorem d_law_670 : decode code 670 = .ok (.invokevirtual 87, 3) := by decide +kernel
theorem d_law_673 : decode code 673 = .ok (.aload_n 2, 1) := by decide +kernel
theorem d_law_674 : decode code 674 = .ok (.aload_n 0, 1) := by decide +kernel
theorem d_law_675 : decode code 675 = .ok (.iload_n 3, 1) := by decide +kernel
theorem d_law_676 : decode code 676 = .ok (.iconst 1, 1) := by decide +kernel
theorem d_law_677 : decode code 677 = .ok (.iadd, 1) := by decide +kernel
theorem d_law_678 : decode code 678 = .ok (.iaload, 1) := by decide +kernel
theorem d_law_679 : decode code 679 = .ok (.invokevirtual 91, 3) := by decide +kernel
theorem d_law_682 : decode code 682 = .ok (.if_icmp .eq 67, 3) := by decide +kernel
theorem d_law_685 : decode code 685 = .ok (.iconst 0, 1) := by decide +kernel
theorem d_law_686 : decode code 686 = .ok (.ireturn, 1) := by decide +kernel
theorem d_law_687 : decode code 687 = .ok (.aload_n 1, 1) := by decide +kernel
theorem d_law_688 : decode code 688 = .ok (.invokevirtual 92, 3) := by decide +kernel
theorem d_law_691 : decode code 691 = .ok (.aload_n 2, 1) := by decide +kernel
theorem d_law_692 : decode code 692 = .ok (.invokevirtual 95, 3) := by decide +kernel
theorem d_law_695 : decode code 695 = .ok (.if_icmp .eq 54, 3) := by decide +kernel
theorem d_law_698 : decode code 698 = .ok (.iconst 0, 1) := by decide +kernel
theorem d_law_699 : decode code 699 = .ok (.ireturn, 1) := by decide +kernel
theorem d_law_700 : decode code 700 = .ok (.aload_n 1, 1) := by decide +kernel
theorem d_law_701 : decode code 701 = .ok (.aload_n 0, 1) := by decide +kernel
theorem d_law_702 : decode code 702 = .ok (.iload_n 3, 1) := by decide +kernel
theorem d_law_703 : decode code 703 = .ok (.iconst 1, 1) := by decide +kernel
theorem d_law_704 : decode code 704 = .ok (.iadd, 1) := by decide +kernel
theorem d_law_705 : decode code 705 = .ok (.iaload, 1) := by decide +kernel
theorem d_law_706 : decode code 706 = .ok (.aload_n 0, 1) := by decide +kernel
theorem d_law_707 : decode code 707 = .ok (.iload_n 3, 1) := by decide +kernel
theorem d_law_708 : decode code 708 = .ok (.iconst 2, 1) := by decide +kernel
theorem d_law_709 : decode code 709 = .ok (.iadd, 1) := by decide +kernel
theorem d_law_710 : decode code 710 = .ok (.iaload, 1) := by decide +kernel
theorem d_law_711 : decode code 711 = .ok (.ifCond .eq 7, 3) := by decide +kernel
theorem d_law_714 : decode code 714 = .ok (.iconst 1, 1) := by decide +kernel
theorem d_law_715 : decode code 715 = .ok (.goto 4, 3) := by decide +kernel
theorem d_law_718 : decode code 718 = .ok (.iconst 0, 1) := by decide +kernel
theorem d_law_719 : decode code 719 = .ok (.invokevirtual 96, 3) := by decide +kernel
theorem d_law_722 : decode code 722 = .ok (.aload_n 2, 1) := by decide +kernel
theorem d_law_723 : decode code 723 = .ok (.aload_n 0, 1) := by decide +kernel
theorem d_law_724 : decode code 724 = .ok (.iload_n 3, 1) := by decide +kernel
theorem d_law_725 : decode code 725 = .ok (.iconst 1, 1) := by decide +kernel
theorem d_law_726 : decode code 726 = .ok (.iadd, 1) := by decide +kernel
theorem d_law_727 : decode code 727 = .ok (.iaload, 1) := by decide +kernel
theorem d_law_728 : decode code 728 = .ok (.aload_n 0, 1) := by decide +kernel
theorem d_law_729 : decode code 729 = .ok (.iload_n 3, 1) := by decide +kernel
theorem d_law_730 : decode code 730 = .ok (.iconst 2, 1) := by decide +kernel
theorem d_law_731 : decode code 731 = .ok (.iadd, 1) := by decide +kernel
theorem d_law_732 : decode code 732 = .ok (.iaload, 1) := by decide +kernel
theorem d_law_733 : decode code 733 = .ok (.ifCond .eq 7, 3) := by decide +kernel
theorem d_law_736 : decode code 736 = .ok (.iconst 1, 1) := by decide +kernel
theorem d_law_737 : decode code 737 = .ok (.goto 4, 3) := by decide +kernel
theorem d_law_740 : decode code 740 = .ok (.iconst 0, 1) := by decide +kernel
theorem d_law_741 : decode code 741 = .ok (.invokevirtual 100, 3) := by decide +kernel
theorem d_law_744 : decode code 744 = .ok (.if_icmp .eq 5, 3) := by decide +kernel
theorem d_law_747 : decode code 747 = .ok (.iconst 0, 1) := by decide +kernel
theorem d_law_748 : decode code 748 = .ok (.ireturn, 1) := by decide +kernel
theorem d_law_749 : decode code 749 = .ok (.iinc 3 6, 3) := by decide +kernel
theorem d_law_752 : decode code 752 = .ok (.goto (-694), 3) := by decide +kernel
theorem d_law_755 : decode code 755 = .ok (.iconst 1, 1) := by decide +kernel
theorem d_law_756 : decode code 756 = .ok (.ireturn, 1) := by decide +kernel
set_option maxRecDepth 20000 in
theorem me_GrantServerLaw_cell : hm_meS y_GrantServerLaw_cell b_GrantServerLaw_cell 2 (some .int) 2 := ⟨⟨(TBm 682 rfl rfl), (TBm 39 (by decide +kernel) rfl), by decide +kernel⟩, (TBm 681 (by decide +kernel) rfl)⟩
set_option maxRecDepth 20000 in
theorem me_GrantServerModel_active : hm_meV y_GrantServerModel_active b_GrantServerModel_active 4 (some .boolean) 2 := ⟨⟨(TBm 890 rfl rfl), (TBm 47 (by decide +kernel) rfl), by decide +kernel⟩, (TBm 888 (by decide +kernel) rfl), (TBm 889 (by decide +kernel) rfl)⟩
set_option maxRecDepth 20000 in
theorem me_GrantServerModel_alter : hm_meV y_GrantServerModel_alter b_GrantServerModel_alter 3 (some .boolean) 2 := ⟨⟨(TBm 917 rfl rfl), (TBm 47 (by decide +kernel) rfl), by decide +kernel⟩, (TBm 915 (by decide +kernel) rfl), (TBm 916 (by decide +kernel) rfl)⟩
set_option maxRecDepth 20000 in
theorem me_GrantServerModel_authorize : hm_meV y_GrantServerModel_authorize b_GrantServerModel_authorize 7 (some .int) 5 := ⟨⟨(TBm 801 rfl rfl), (TBm 47 (by decide +kernel) rfl), by decide +kernel⟩, (TBm 799 (by decide +kernel) rfl), (TBm 800 (by decide +kernel) rfl)⟩
set_option maxRecDepth 20000 in
theorem me_GrantServerModel_challenge : hm_meV y_GrantServerModel_challenge b_GrantServerModel_challenge 4 (some .int) 0 := ⟨⟨(TBm 833 rfl rfl), (TBm 47 (by decide +kernel) rfl), by decide +kernel⟩, (TBm 831 (by decide +kernel) rfl), (TBm 832 (by decide +kernel) rfl)⟩
set_option maxRecDepth 20000 in
theorem me_GrantServerModel_check : hm_meV y_GrantServerModel_check b_GrantServerModel_check 4 (some .int) 2 := ⟨⟨(TBm 930 rfl rfl), (TBm 47 (by decide +kernel) rfl), by decide +kernel⟩, (TBm 928 (by decide +kernel) rfl), (TBm 929 (by decide +kernel) rfl)⟩
set_option maxRecDepth 20000 in
theorem me_GrantServerModel_client : hm_meV y_GrantServerModel_client b_GrantServerModel_client 4 (some .int) 3 := ⟨⟨(TBm 789 rfl rfl), (TBm 47 (by decide +kernel) rfl), by decide +kernel⟩, (TBm 787 (by decide +kernel) rfl), (TBm 788 (by decide +kernel) rfl)⟩
set_option maxRecDepth 20000 in
theorem me_GrantServerModel_count : hm_meV y_GrantServerModel_count b_GrantServerModel_count 5 (some .int) 2 := ⟨⟨(TBm 898 rfl rfl), (TBm 47 (by decide +kernel) rfl), by decide +kernel⟩, (TBm 896 (by decide +kernel) rfl), (TBm 897 (by decide +kernel) rfl)⟩
set_option maxRecDepth 20000 in
theorem me_GrantServerModel_exchange : hm_meV y_GrantServerModel_exchange b_GrantServerModel_exchange 7 (some .int) 4 := ⟨⟨(TBm 829 rfl rfl), (TBm 47 (by decide +kernel) rfl), by decide +kernel⟩, (TBm 827 (by decide +kernel) rfl), (TBm 828 (by decide +kernel) rfl)⟩
set_option maxRecDepth 20000 in
theorem me_GrantServerModel_init : hm_meI y_GrantServerModel_init b_GrantServerModel_init 5 4 := ⟨⟨(TBm 687 rfl rfl), (TBm 47 (by decide +kernel) rfl), by decide +kernel⟩, (TBm 686 (by decide +kernel) rfl), rfl⟩
set_option maxRecDepth 20000 in
theorem me_GrantServerModel_key : hm_meV y_GrantServerModel_key b_GrantServerModel_key 2 (some .boolean) 1 := ⟨⟨(TBm 910 rfl rfl), (TBm 47 (by decide +kernel) rfl), by decide +kernel⟩, (TBm 908 (by decide +kernel) rfl), (TBm 909 (by decide +kernel) rfl)⟩
set_option maxRecDepth 20000 in
theorem me_GrantServerModel_letter : hm_meV y_GrantServerModel_letter b_GrantServerModel_letter 3 (some .int) 2 := ⟨⟨(TBm 925 rfl rfl), (TBm 47 (by decide +kernel) rfl), by decide +kernel⟩, (TBm 923 (by decide +kernel) rfl), (TBm 924 (by decide +kernel) rfl)⟩
set_option maxRecDepth 20000 in
theorem me_GrantServerModel_login : hm_meV y_GrantServerModel_login b_GrantServerModel_login 3 (some .boolean) 2 := ⟨⟨(TBm 793 rfl rfl), (TBm 47 (by decide +kernel) rfl), by decide +kernel⟩, (TBm 791 (by decide +kernel) rfl), (TBm 792 (by decide +kernel) rfl)⟩
set_option maxRecDepth 20000 in
theorem me_GrantServerModel_refresh : hm_meV y_GrantServerModel_refresh b_GrantServerModel_refresh 6 (some .int) 3 := ⟨⟨(TBm 874 rfl rfl), (TBm 47 (by decide +kernel) rfl), by decide +kernel⟩, (TBm 872 (by decide +kernel) rfl), (TBm 873 (by decide +kernel) rfl)⟩
set_option maxRecDepth 20000 in
theorem me_GrantServerModel_revoke : hm_meV y_GrantServerModel_revoke b_GrantServerModel_revoke 5 (some .int) 2 := ⟨⟨(TBm 882 rfl rfl), (TBm 47 (by decide +kernel) rfl), by decide +kernel⟩, (TBm 880 (by decide +kernel) rfl), (TBm 881 (by decide +kernel) rfl)⟩
set_option maxRecDepth 20000 in
theorem me_GrantServerModel_sweep : hm_meV y_GrantServerModel_sweep b_GrantServerModel_sweep 3 (some .int) 0 := ⟨⟨(TBm 894 rfl rfl), (TBm 47 (by decide +kernel) rfl), by decide +kernel⟩, (TBm 892 (by decide +kernel) rfl), (TBm 893 (by decide +kernel) rfl)⟩
set_option maxRecDepth 20000 in
theorem me_GrantServerModel_take : hm_meV y_GrantServerModel_take b_GrantServerModel_take 3 (some .int) 1 := ⟨⟨(TBm 921 rfl rfl), (TBm 47 (by decide +kernel) rfl), by decide +kernel⟩, (TBm 919 (by decide +kernel) rfl), (TBm 920 (by decide +kernel) rfl)⟩
set_option maxRecDepth 20000 in
theorem me_GrantServerModel_tick : hm_meV y_GrantServerModel_tick b_GrantServerModel_tick 2 (some .boolean) 1 := ⟨⟨(TBm 902 rfl rfl), (TBm 47 (by decide +kernel) rfl), by decide +kernel⟩, (TBm 900 (by decide +kernel) rfl), (TBm 901 (by decide +kernel) rfl)⟩
set_option maxRecDepth 20000 in
theorem me_GrantServerModel_wrap : hm_meV y_GrantServerModel_wrap b_GrantServerModel_wrap 2 (some .int) 0 := ⟨⟨(TBm 906 rfl rfl), (TBm 47 (by decide +kernel) rfl), by decide +kernel⟩, (TBm 904 (by decide +kernel) rfl), (TBm 905 (by decide +kernel) rfl)⟩
set_option maxRecDepth 20000 in
theorem me_GrantServer_active : hm_meV y_GrantServer_active b_GrantServer_active 4 (some .boolean) 2 := ⟨⟨(TBm 470 rfl rfl), (TBm 40 (by decide +kernel) rfl), by decide +kernel⟩, (TBm 468 (by decide +kernel) rfl), (TBm 469 (by decide +kernel) rfl)⟩
set_option maxRecDepth 20000 in
theorem me_GrantServer_alter : hm_meV y_GrantServer_alter b_GrantServer_alter 3 (some .boolean) 2 := ⟨⟨(TBm 622 rfl rfl), (TBm 40 (by decide +kernel) rfl), by decide +kernel⟩, (TBm 620 (by decide +kernel) rfl), (TBm 621 (by decide +kernel) rfl)⟩
set_option maxRecDepth 20000 in
theorem me_GrantServer_authorize : hm_meV y_GrantServer_authorize b_GrantServer_authorize 8 (some .int) 5 := ⟨⟨(TBm 260 rfl rfl), (TBm 40 (by decide +kernel) rfl), by decide +kernel⟩, (TBm 258 (by decide +kernel) rfl), (TBm 259 (by decide +kernel) rfl)⟩
set_option maxRecDepth 20000 in
theorem me_GrantServer_challenge : hm_meV y_GrantServer_challenge b_GrantServer_challenge 1 (some .int) 0 := ⟨⟨(TBm 647 rfl rfl), (TBm 40 (by decide +kernel) rfl), by decide +kernel⟩, (TBm 645 (by decide +kernel) rfl), (TBm 646 (by decide +kernel) rfl)⟩
set_option maxRecDepth 20000 in
theorem me_GrantServer_check : hm_meV y_GrantServer_check b_GrantServer_check 3 (some .int) 2 := ⟨⟨(TBm 482 rfl rfl), (TBm 40 (by decide +kernel) rfl), by decide +kernel⟩, (TBm 480 (by decide +kernel) rfl), (TBm 481 (by decide +kernel) rfl)⟩
set_option maxRecDepth 20000 in
theorem me_GrantServer_client : hm_meV y_GrantServer_client b_GrantServer_client 4 (some .int) 3 := ⟨⟨(TBm 227 rfl rfl), (TBm 40 (by decide +kernel) rfl), by decide +kernel⟩, (TBm 225 (by decide +kernel) rfl), (TBm 226 (by decide +kernel) rfl)⟩
set_option maxRecDepth 20000 in
theorem me_GrantServer_count : hm_meV y_GrantServer_count b_GrantServer_count 4 (some .int) 2 := ⟨⟨(TBm 675 rfl rfl), (TBm 40 (by decide +kernel) rfl), by decide +kernel⟩, (TBm 673 (by decide +kernel) rfl), (TBm 674 (by decide +kernel) rfl)⟩
set_option maxRecDepth 20000 in
theorem me_GrantServer_exchange : hm_meV y_GrantServer_exchange b_GrantServer_exchange 8 (some .int) 4 := ⟨⟨(TBm 290 rfl rfl), (TBm 40 (by decide +kernel) rfl), by decide +kernel⟩, (TBm 288 (by decide +kernel) rfl), (TBm 289 (by decide +kernel) rfl)⟩
set_option maxRecDepth 20000 in
theorem me_GrantServer_init : hm_meI y_GrantServer_init b_GrantServer_init 5 4 := ⟨⟨(TBm 60 rfl rfl), (TBm 40 (by decide +kernel) rfl), by decide +kernel⟩, (TBm 59 (by decide +kernel) rfl), rfl⟩
set_option maxRecDepth 20000 in
theorem me_GrantServer_key : hm_meV y_GrantServer_key b_GrantServer_key 2 (some .boolean) 1 := ⟨⟨(TBm 614 rfl rfl), (TBm 40 (by decide +kernel) rfl), by decide +kernel⟩, (TBm 612 (by decide +kernel) rfl), (TBm 613 (by decide +kernel) rfl)⟩
set_option maxRecDepth 20000 in
theorem me_GrantServer_letter : hm_meV y_GrantServer_letter b_GrantServer_letter 3 (some .int) 2 := ⟨⟨(TBm 642 rfl rfl), (TBm 40 (by decide +kernel) rfl), by decide +kernel⟩, (TBm 640 (by decide +kernel) rfl), (TBm 641 (by decide +kernel) rfl)⟩
set_option maxRecDepth 20000 in
theorem me_GrantServer_login : hm_meV y_GrantServer_login b_GrantServer_login 5 (some .boolean) 2 := ⟨⟨(TBm 252 rfl rfl), (TBm 40 (by decide +kernel) rfl), by decide +kernel⟩, (TBm 250 (by decide +kernel) rfl), (TBm 251 (by decide +kernel) rfl)⟩
set_option maxRecDepth 20000 in
theorem me_GrantServer_refresh : hm_meV y_GrantServer_refresh b_GrantServer_refresh 7 (some .int) 3 := ⟨⟨(TBm 447 rfl rfl), (TBm 40 (by decide +kernel) rfl), by decide +kernel⟩, (TBm 445 (by decide +kernel) rfl), (TBm 446 (by decide +kernel) rfl)⟩
set_option maxRecDepth 20000 in
theorem me_GrantServer_revoke : hm_meV y_GrantServer_revoke b_GrantServer_revoke 4 (some .int) 2 := ⟨⟨(TBm 451 rfl rfl), (TBm 40 (by decide +kernel) rfl), by decide +kernel⟩, (TBm 449 (by decide +kernel) rfl), (TBm 450 (by decide +kernel) rfl)⟩
set_option maxRecDepth 20000 in
theorem me_GrantServer_sweep : hm_meV y_GrantServer_sweep b_GrantServer_sweep 1 (some .int) 0 := ⟨⟨(TBm 663 rfl rfl), (TBm 40 (by decide +kernel) rfl), by decide +kernel⟩, (TBm 661 (by decide +kernel) rfl), (TBm 662 (by decide +kernel) rfl)⟩
set_option maxRecDepth 20000 in
theorem me_GrantServer_take : hm_meV y_GrantServer_take b_GrantServer_take 2 (some .int) 1 := ⟨⟨(TBm 630 rfl rfl), (TBm 40 (by decide +kernel) rfl), by decide +kernel⟩, (TBm 628 (by decide +kernel) rfl), (TBm 629 (by decide +kernel) rfl)⟩
set_option maxRecDepth 20000 in
theorem me_GrantServer_tick : hm_meV y_GrantServer_tick b_GrantServer_tick 2 (some .boolean) 1 := ⟨⟨(TBm 659 rfl rfl), (TBm 40 (by decide +kernel) rfl), by decide +kernel⟩, (TBm 657 (by decide +kernel) rfl), (TBm 658 (by decide +kernel) rfl)⟩
set_option maxRecDepth 20000 in
theorem me_GrantServer_wrap : hm_meV y_GrantServer_wrap b_GrantServer_wrap 1 (some .int) 0 := ⟨⟨(TBm 651 rfl rfl), (TBm 40 (by decide +kernel) rfl), by decide +kernel⟩, (TBm 649 (by decide +kernel) rfl), (TBm 650 (by decide +kernel) rfl)⟩
set_option maxRecDepth 20000 in
theorem nw_GrantServerLaw_18 : hm_nw vwCl TB R_GrantServerLaw 18 8 31 [.long 0, .int 0, .int 0, .int 0, .int 0, .null, .null, .null, .int 0, .int 0, .null, .null, .null, .null, .null, .null, .null, .null, .int 0, .null, .null, .null, .int 0, .null, .int 0, .null, .int 0, .null, .int 0, .int 0, .null] := ⟨_, _, _, cl_GrantServerModel, (TBm 683 (by decide +kernel) rfl), (TBm 684 (by decide +kernel) rfl), (TBm 47 (by decide +kernel) rfl), by decide +kernel⟩
set_option maxRecDepth 20000 in
theorem nw_GrantServerLaw_7 : hm_nw vwCl TB R_GrantServerLaw 7 0 16 [.int 0, .int 0, .int 0, .null, .null, .null, .null, .null, .null, .null, .null, .null, .int 0, .int 0, .int 0, .int 0] := ⟨_, _, _, cl_GrantServer, (TBm 56 (by decide +kernel) rfl), (TBm 57 (by decide +kernel) rfl), (TBm 40 (by decide +kernel) rfl), by decide +kernel⟩
set_option maxRecDepth 20000 in
theorem wl_GrantServerLaw_100 : Cond.methodLink R_GrantServerLaw 100 y_GrantServerModel_count ∈ TB := TBm 895 (by decide +kernel) rfl
set_option maxRecDepth 20000 in
theorem wl_GrantServerLaw_15 : Cond.methodLink R_GrantServerLaw 15 y_GrantServer_init ∈ TB := TBm 58 (by decide +kernel) rfl
set_option maxRecDepth 20000 in
theorem wl_GrantServerLaw_20 : Cond.methodLink R_GrantServerLaw 20 y_GrantServerModel_init ∈ TB := TBm 685 (by decide +kernel) rfl
set_option maxRecDepth 20000 in
theorem wl_GrantServerLaw_21 : Cond.methodLink R_GrantServerLaw 21 y_GrantServer_client ∈ TB := TBm 224 (by decide +kernel) rfl
set_option maxRecDepth 20000 in
theorem wl_GrantServerLaw_25 : Cond.methodLink R_GrantServerLaw 25 y_GrantServerModel_client ∈ TB := TBm 786 (by decide +kernel) rfl
set_option maxRecDepth 20000 in
theorem wl_GrantServerLaw_26 : Cond.methodLink R_GrantServerLaw 26 y_GrantServer_login ∈ TB := TBm 249 (by decide +kernel) rfl
set_option maxRecDepth 20000 in
theorem wl_GrantServerLaw_30 : Cond.methodLink R_GrantServerLaw 30 y_GrantServerModel_login ∈ TB := TBm 790 (by decide +kernel) rfl
set_option maxRecDepth 20000 in
theorem wl_GrantServerLaw_31 : Cond.methodLink R_GrantServerLaw 31 y_GrantServer_authorize ∈ TB := TBm 257 (by decide +kernel) rfl
set_option maxRecDepth 20000 in
theorem wl_GrantServerLaw_35 : Cond.methodLink R_GrantServerLaw 35 y_GrantServerModel_authorize ∈ TB := TBm 798 (by decide +kernel) rfl
set_option maxRecDepth 20000 in
theorem wl_GrantServerLaw_36 : Cond.methodLink R_GrantServerLaw 36 y_GrantServer_exchange ∈ TB := TBm 287 (by decide +kernel) rfl
set_option maxRecDepth 20000 in
theorem wl_GrantServerLaw_40 : Cond.methodLink R_GrantServerLaw 40 y_GrantServerModel_exchange ∈ TB := TBm 826 (by decide +kernel) rfl
set_option maxRecDepth 20000 in
theorem wl_GrantServerLaw_41 : Cond.methodLink R_GrantServerLaw 41 y_GrantServer_refresh ∈ TB := TBm 444 (by decide +kernel) rfl
set_option maxRecDepth 20000 in
theorem wl_GrantServerLaw_44 : Cond.methodLink R_GrantServerLaw 44 y_GrantServerModel_refresh ∈ TB := TBm 871 (by decide +kernel) rfl
set_option maxRecDepth 20000 in
theorem wl_GrantServerLaw_45 : Cond.methodLink R_GrantServerLaw 45 y_GrantServer_revoke ∈ TB := TBm 448 (by decide +kernel) rfl
set_option maxRecDepth 20000 in
theorem wl_GrantServerLaw_49 : Cond.methodLink R_GrantServerLaw 49 y_GrantServerModel_revoke ∈ TB := TBm 879 (by decide +kernel) rfl
set_option maxRecDepth 20000 in
theorem wl_GrantServerLaw_50 : Cond.methodLink R_GrantServerLaw 50 y_GrantServer_active ∈ TB := TBm 467 (by decide +kernel) rfl
set_option maxRecDepth 20000 in
theorem wl_GrantServerLaw_53 : Cond.methodLink R_GrantServerLaw 53 y_GrantServerModel_active ∈ TB := TBm 887 (by decide +kernel) rfl
set_option maxRecDepth 20000 in
theorem wl_GrantServerLaw_54 : Cond.methodLink R_GrantServerLaw 54 y_GrantServer_check ∈ TB := TBm 479 (by decide +kernel) rfl
set_option maxRecDepth 20000 in
theorem wl_GrantServerLaw_57 : Cond.methodLink R_GrantServerLaw 57 y_GrantServerModel_check ∈ TB := TBm 927 (by decide +kernel) rfl
set_option maxRecDepth 20000 in
theorem wl_GrantServerLaw_58 : Cond.methodLink R_GrantServerLaw 58 y_GrantServer_key ∈ TB := TBm 611 (by decide +kernel) rfl
set_option maxRecDepth 20000 in
theorem wl_GrantServerLaw_62 : Cond.methodLink R_GrantServerLaw 62 y_GrantServerModel_key ∈ TB := TBm 907 (by decide +kernel) rfl
set_option maxRecDepth 20000 in
theorem wl_GrantServerLaw_63 : Cond.methodLink R_GrantServerLaw 63 y_GrantServer_alter ∈ TB := TBm 619 (by decide +kernel) rfl
set_option maxRecDepth 20000 in
theorem wl_GrantServerLaw_67 : Cond.methodLink R_GrantServerLaw 67 y_GrantServerModel_alter ∈ TB := TBm 914 (by decide +kernel) rfl
set_option maxRecDepth 20000 in
theorem wl_GrantServerLaw_68 : Cond.methodLink R_GrantServerLaw 68 y_GrantServer_take ∈ TB := TBm 627 (by decide +kernel) rfl
set_option maxRecDepth 20000 in
theorem wl_GrantServerLaw_72 : Cond.methodLink R_GrantServerLaw 72 y_GrantServerModel_take ∈ TB := TBm 918 (by decide +kernel) rfl
set_option maxRecDepth 20000 in
theorem wl_GrantServerLaw_73 : Cond.methodLink R_GrantServerLaw 73 y_GrantServer_letter ∈ TB := TBm 639 (by decide +kernel) rfl
set_option maxRecDepth 20000 in
theorem wl_GrantServerLaw_77 : Cond.methodLink R_GrantServerLaw 77 y_GrantServerModel_letter ∈ TB := TBm 922 (by decide +kernel) rfl
set_option maxRecDepth 20000 in
theorem wl_GrantServerLaw_78 : Cond.methodLink R_GrantServerLaw 78 y_GrantServer_challenge ∈ TB := TBm 644 (by decide +kernel) rfl
set_option maxRecDepth 20000 in
theorem wl_GrantServerLaw_82 : Cond.methodLink R_GrantServerLaw 82 y_GrantServerModel_challenge ∈ TB := TBm 926 (by decide +kernel) rfl
set_option maxRecDepth 20000 in
theorem wl_GrantServerLaw_83 : Cond.methodLink R_GrantServerLaw 83 y_GrantServer_wrap ∈ TB := TBm 648 (by decide +kernel) rfl
set_option maxRecDepth 20000 in
theorem wl_GrantServerLaw_86 : Cond.methodLink R_GrantServerLaw 86 y_GrantServerModel_wrap ∈ TB := TBm 903 (by decide +kernel) rfl
set_option maxRecDepth 20000 in
theorem wl_GrantServerLaw_87 : Cond.methodLink R_GrantServerLaw 87 y_GrantServer_tick ∈ TB := TBm 656 (by decide +kernel) rfl
set_option maxRecDepth 20000 in
theorem wl_GrantServerLaw_9 : Cond.methodLink R_GrantServerLaw 9 y_GrantServerLaw_cell ∈ TB := TBm 680 (by decide +kernel) rfl
set_option maxRecDepth 20000 in
theorem wl_GrantServerLaw_91 : Cond.methodLink R_GrantServerLaw 91 y_GrantServerModel_tick ∈ TB := TBm 899 (by decide +kernel) rfl
set_option maxRecDepth 20000 in
theorem wl_GrantServerLaw_92 : Cond.methodLink R_GrantServerLaw 92 y_GrantServer_sweep ∈ TB := TBm 660 (by decide +kernel) rfl
set_option maxRecDepth 20000 in
theorem wl_GrantServerLaw_95 : Cond.methodLink R_GrantServerLaw 95 y_GrantServerModel_sweep ∈ TB := TBm 891 (by decide +kernel) rfl
set_option maxRecDepth 20000 in
theorem wl_GrantServerLaw_96 : Cond.methodLink R_GrantServerLaw 96 y_GrantServer_count ∈ TB := TBm 672 (by decide +kernel) rfl
set_option maxHeartbeats 40000000 in
set_option maxRecDepth 100000 in
theorem whole_start {p : Program} {e : Env} {s : State} {m : MethodId} {below : List Frame} {meth : Method} {c : Code} (l : Launch) {b L : Nat} {xs : Nat → Int32} (hL : L ≤ 10) (C0 : lw_At p s m meth c b L xs) : W p l e room_1 s m #[Value.ref b] below meth c s.heap [] 0 0 (lw_Z below #[Value.ref b] s) (entryFrame m ([Value.ref b] : List Value).toArray 4) := by
  obtain ⟨hx, hb, hr, hml, hown, hts0, hX, hbl, hlk, hgv⟩ := C0
  have hts : ∀ w ∈ TB, w.before #[Value.ref b] s = true := fun w h => hts0 w (List.mem_filter.mp h).1
  obtain ⟨D, k, hK⟩ := law_K hts0
  obtain ⟨A, hA, hbA, hAe⟩ : ∃ A : Nat → Prop, (∀ q, s.heap.size ≤ q → A q) ∧ ¬ A b ∧ (∀ q, A q → s.heap.size ≤ q) := ⟨fun q => s.heap.size ≤ q, fun _ h => h, Nat.not_le.mpr hbl, fun _ h => h⟩
  obtain ⟨sA, sV, hZ⟩ := law_Z (A := A) hts0 hgv (fun a h1 h2 => absurd (hAe a h2) (Nat.not_le.mpr h1))
  obtain ⟨f0, hM⟩ : ∃ f0 : hm, hm_W D vwCl A f0 s.heap := ⟨fun _ => none, hm_W.nil⟩
  have X : CallFix p m c code 4 s #[Value.ref b] TB R_GrantServerLaw := ⟨hx, hb, hml, hown, hts⟩
  have hS : va_S A s.heap s.heap [] := va_S.rf
  rw [lg_entry_eq]
  have hl := lv_entry ([Value.ref b]) (n := 4) (Nat.le_of_ble_eq_true rfl)
  generalize (lg_sl ([Value.ref b]) ++ List.replicate (4 - (lg_sl ([Value.ref b])).length) Slot.unset).toArray = ls at hl ⊢
  have hl : lv_has ls 4 [(0, .ref b)] := hl
  refine hm_new X hK hM hS hA nw_GrantServerLaw_7 (by decide) (by decide) d_law_0 (fun q1 f2 H e3 z4 hM hS => ?_)
  have g5 : f2 q1 = some (.inr (0, [.int 0, .int 0, .int 0, .null, .null, .null, .null, .null, .null, .null, .null, .null, .int 0, .int 0, .int 0, .int 0])) := hm_new1 e3
  refine lv_dup hx hb d_law_3 rfl ?_
  refine lv_aload_n hx hb d_law_4 rfl (lv_at hl 0 rfl) ?_
  refine lv_iconst (v := 0) hx hb d_law_5 (by decide) ?_
  refine hm_calli hS hM hA (va_runS (As := [.ref b, .int 0]) (rest := [.ref q1, .ref q1]) X (c_cell l D k f2 b L xs 0 (by omega) (by decide) H.size) (hm_cwS hts me_GrantServerLaw_cell wl_GrantServerLaw_9 rfl rfl ⟨Nat.le_of_ble_eq_true rfl, Nat.le_of_ble_eq_true rfl⟩) (hm_preSX hX hbl hbA hS hA hM hK) rfl rfl hl.1 rfl (lv_room (Nat.le_of_ble_eq_true rfl)) d_law_6 ⟨Nat.le_of_ble_eq_true rfl, Nat.le_of_ble_eq_true rfl⟩) (fun r7 f8 H locs p6 hM hS => ?_)
  obtain ⟨rfl, rfl⟩ := p6
  refine lv_topi (fun y0 ey0 => ?_)
  refine lv_aload_n hx hb d_law_9 rfl (lv_at hl 0 rfl) ?_
  refine lv_iconst (v := 1) hx hb d_law_10 (by decide) ?_
  refine hm_calli hS hM hA (va_runS (As := [.ref b, .int 1]) (rest := [.int y0, .ref q1, .ref q1]) X (c_cell l D k f2 b L xs 1 (by omega) (by decide) H.size) (hm_cwS hts me_GrantServerLaw_cell wl_GrantServerLaw_9 rfl rfl ⟨Nat.le_of_ble_eq_true rfl, Nat.le_of_ble_eq_true rfl⟩) (hm_preSX hX hbl hbA hS hA hM hK) rfl rfl hl.1 rfl (lv_room (Nat.le_of_ble_eq_true rfl)) d_law_11 ⟨Nat.le_of_ble_eq_true rfl, Nat.le_of_ble_eq_true rfl⟩) (fun r10 f11 H locs p9 hM hS => ?_)
  obtain ⟨rfl, rfl⟩ := p9
  refine lv_topi (fun y1 ey1 => ?_)
  refine lv_aload_n hx hb d_law_14 rfl (lv_at hl 0 rfl) ?_
  refine lv_iconst (v := 2) hx hb d_law_15 (by decide) ?_
  refine hm_calli hS hM hA (va_runS (As := [.ref b, .int 2]) (rest := [.int y1, .int y0, .ref q1, .ref q1]) X (c_cell l D k f2 b L xs 2 (by omega) (by decide) H.size) (hm_cwS hts me_GrantServerLaw_cell wl_GrantServerLaw_9 rfl rfl ⟨Nat.le_of_ble_eq_true rfl, Nat.le_of_ble_eq_true rfl⟩) (hm_preSX hX hbl hbA hS hA hM hK) rfl rfl hl.1 rfl (lv_room (Nat.le_of_ble_eq_true rfl)) d_law_16 ⟨Nat.le_of_ble_eq_true rfl, Nat.le_of_ble_eq_true rfl⟩) (fun r13 f14 H locs p12 hM hS => ?_)
  obtain ⟨rfl, rfl⟩ := p12
  refine lv_topi (fun y2 ey2 => ?_)
  refine lv_aload_n hx hb d_law_19 rfl (lv_at hl 0 rfl) ?_
  refine lv_iconst (v := 3) hx hb d_law_20 (by decide) ?_
  refine hm_calli hS hM hA (va_runS (As := [.ref b, .int 3]) (rest := [.int y2, .int y1, .int y0, .ref q1, .ref q1]) X (c_cell l D k f2 b L xs 3 (by omega) (by decide) H.size) (hm_cwS hts me_GrantServerLaw_cell wl_GrantServerLaw_9 rfl rfl ⟨Nat.le_of_ble_eq_true rfl, Nat.le_of_ble_eq_true rfl⟩) (hm_preSX hX hbl hbA hS hA hM hK) rfl rfl hl.1 rfl (lv_room (Nat.le_of_ble_eq_true rfl)) d_law_21 ⟨Nat.le_of_ble_eq_true rfl, Nat.le_of_ble_eq_true rfl⟩) (fun r16 f17 H locs p15 hM hS => ?_)
  obtain ⟨rfl, rfl⟩ := p15
  refine lv_topi (fun y3 ey3 => ?_)
  refine hm_callv hS hM hA (va_runI (As := [.int y0, .int y1, .int y2, .int y3]) (rest := [.ref q1]) X (c_GS_init l D k f2 q1 y0 y1 y2 y3 g5 H.size) (hm_cwI hts me_GrantServer_init wl_GrantServerLaw_15 rfl rfl ⟨Nat.le_of_ble_eq_true rfl, Nat.le_of_ble_eq_true rfl⟩) (hm_preS hM hK) rfl rfl hl.1 rfl (lv_room (Nat.le_of_ble_eq_true rfl)) d_law_24 ⟨Nat.le_of_ble_eq_true rfl, Nat.le_of_ble_eq_true rfl⟩) (fun f18 H locs p19 hM hS => ?_)
  obtain ⟨adC, g9, hgs, hap, hnoC, hrC, hfrC⟩ := p19
  refine lv_astore_n (lv' := [(1, .ref q1), (0, .ref b)]) hx hb d_law_27 rfl hl (by decide) rfl (fun ls hl => ?_)
  refine hm_new X hK hM hS hA nw_GrantServerLaw_18 (by decide) (by decide) d_law_28 (fun q20 f21 H e22 z23 hM hS => ?_)
  have g24 : f21 q20 = some (.inr (8, [.long 0, .int 0, .int 0, .int 0, .int 0, .null, .null, .null, .int 0, .int 0, .null, .null, .null, .null, .null, .null, .null, .null, .int 0, .null, .null, .null, .int 0, .null, .int 0, .null, .int 0, .null, .int 0, .int 0, .null])) := hm_new1 e22
  refine lv_dup hx hb d_law_31 rfl ?_
  refine lv_aload_n hx hb d_law_32 rfl (lv_at hl 1 rfl) ?_
  refine lv_iconst (v := 0) hx hb d_law_33 (by decide) ?_
  refine hm_calli hS hM hA (va_runS (As := [.ref b, .int 0]) (rest := [.ref q20, .ref q20]) X (c_cell l D k f21 b L xs 0 (by omega) (by decide) H.size) (hm_cwS hts me_GrantServerLaw_cell wl_GrantServerLaw_9 rfl rfl ⟨Nat.le_of_ble_eq_true rfl, Nat.le_of_ble_eq_true rfl⟩) (hm_preSX hX hbl hbA hS hA hM hK) rfl rfl hl.1 rfl (lv_room (Nat.le_of_ble_eq_true rfl)) d_law_34 ⟨Nat.le_of_ble_eq_true rfl, Nat.le_of_ble_eq_true rfl⟩) (fun r26 f27 H locs p25 hM hS => ?_)
  obtain ⟨rfl, rfl⟩ := p25
  refine hm_top (z := y0) ey0.symm ?_
  refine lv_aload_n hx hb d_law_37 rfl (lv_at hl 1 rfl) ?_
  refine lv_iconst (v := 1) hx hb d_law_38 (by decide) ?_
  refine hm_calli hS hM hA (va_runS (As := [.ref b, .int 1]) (rest := [.int y0, .ref q20, .ref q20]) X (c_cell l D k f21 b L xs 1 (by omega) (by decide) H.size) (hm_cwS hts me_GrantServerLaw_cell wl_GrantServerLaw_9 rfl rfl ⟨Nat.le_of_ble_eq_true rfl, Nat.le_of_ble_eq_true rfl⟩) (hm_preSX hX hbl hbA hS hA hM hK) rfl rfl hl.1 rfl (lv_room (Nat.le_of_ble_eq_true rfl)) d_law_39 ⟨Nat.le_of_ble_eq_true rfl, Nat.le_of_ble_eq_true rfl⟩) (fun r29 f30 H locs p28 hM hS => ?_)
  obtain ⟨rfl, rfl⟩ := p28
  refine hm_top (z := y1) ey1.symm ?_
  refine lv_aload_n hx hb d_law_42 rfl (lv_at hl 1 rfl) ?_
  refine lv_iconst (v := 2) hx hb d_law_43 (by decide) ?_
  refine hm_calli hS hM hA (va_runS (As := [.ref b, .int 2]) (rest := [.int y1, .int y0, .ref q20, .ref q20]) X (c_cell l D k f21 b L xs 2 (by omega) (by decide) H.size) (hm_cwS hts me_GrantServerLaw_cell wl_GrantServerLaw_9 rfl rfl ⟨Nat.le_of_ble_eq_true rfl, Nat.le_of_ble_eq_true rfl⟩) (hm_preSX hX hbl hbA hS hA hM hK) rfl rfl hl.1 rfl (lv_room (Nat.le_of_ble_eq_true rfl)) d_law_44 ⟨Nat.le_of_ble_eq_true rfl, Nat.le_of_ble_eq_true rfl⟩) (fun r32 f33 H locs p31 hM hS => ?_)
  obtain ⟨rfl, rfl⟩ := p31
  refine hm_top (z := y2) ey2.symm ?_
  refine lv_aload_n hx hb d_law_47 rfl (lv_at hl 1 rfl) ?_
  refine lv_iconst (v := 3) hx hb d_law_48 (by decide) ?_
  refine hm_calli hS hM hA (va_runS (As := [.ref b, .int 3]) (rest := [.int y2, .int y1, .int y0, .ref q20, .ref q20]) X (c_cell l D k f21 b L xs 3 (by omega) (by decide) H.size) (hm_cwS hts me_GrantServerLaw_cell wl_GrantServerLaw_9 rfl rfl ⟨Nat.le_of_ble_eq_true rfl, Nat.le_of_ble_eq_true rfl⟩) (hm_preSX hX hbl hbA hS hA hM hK) rfl rfl hl.1 rfl (lv_room (Nat.le_of_ble_eq_true rfl)) d_law_49 ⟨Nat.le_of_ble_eq_true rfl, Nat.le_of_ble_eq_true rfl⟩) (fun r35 f36 H locs p34 hM hS => ?_)
  obtain ⟨rfl, rfl⟩ := p34
  refine hm_top (z := y3) ey3.symm ?_
  refine hm_callv hS hM hA (va_runI (As := [.int y0, .int y1, .int y2, .int y3]) (rest := [.ref q20]) X (m_c_init l D k f21 q20 y0 y1 y2 y3 g24 H.size) (hm_cwI hts me_GrantServerModel_init wl_GrantServerLaw_20 rfl rfl ⟨Nat.le_of_ble_eq_true rfl, Nat.le_of_ble_eq_true rfl⟩) (hm_preS hM hK) rfl rfl hl.1 rfl (lv_room (Nat.le_of_ble_eq_true rfl)) d_law_52 ⟨Nat.le_of_ble_eq_true rfl, Nat.le_of_ble_eq_true rfl⟩) (fun f37 H locs p38 hM hS => ?_)
  obtain ⟨adM, hmo, hnoM, hfrM⟩ := p38
  have hk9 : ∀ (zq : Nat) (zx : va_E), f18 zq = some zx → f37 zq = some zx := fun zq zx hq => hfrM _ _ (hm_ne0 hq z23) (hm_keep e22 (hm_ne0 hq z23) hq)
  have hdj : ∀ (zq : Nat) (zx : va_E), f18 zq = some zx → ¬ mo_own q20 adM zq := fun zq zx hq ho => ho.elim (fun h1 => (hm_ne0 hq z23) h1) (fun h1 => h1.elim (fun i h2 => (hm_ne0 hq (hm_none e22 (hnoM i h2.1 h2.2.1))) h2.2.2))
  have rows9 : ∀ s, s < 3 → ∀ i, i < gs_N s → ∃ q, g9 s i = some q ∧ f37 q = some (.inr (3, gV (fun _ => 0) none)) := fun s hs i hi => by obtain ⟨q, h1, _, h3⟩ := hrC.1 s hs i hi; exact ⟨q, h1, hk9 _ _ h3⟩
  have hgs0 := hgs
  have hgs := hgs.keep hk9
  refine lv_astore_n (lv' := [(2, .ref q20), (1, .ref q1), (0, .ref b)]) hx hb d_law_55 rfl hl (by decide) rfl (fun ls hl => ?_)
  refine lv_iconst (v := 4) hx hb d_law_56 (by decide) ?_
  refine hm_top (z := nI 4) rfl ?_
  refine lv_istore_n (lv' := [(3, .int (nI 4)), (2, .ref q20), (1, .ref q1), (0, .ref b)]) hx hb d_law_57 rfl hl (by decide) rfl (fun ls hl => ?_)
  refine lv_iload_n hx hb d_law_58 rfl (lv_at hl 0 rfl) ?_
  refine lv_aload_n hx hb d_law_59 rfl (lv_at hl 3 rfl) ?_
  refine va_slen hx hb hX hbl hbA hS d_law_60 ?_
  refine hm_top (z := nI L) rfl ?_
  refine lv_bipush (v := 6) hx hb d_law_61 (by decide) ?_
  refine lv_isub hx hb d_law_63 ?_
  refine lv_icmp_gt (tgt := 755) hx hb d_law_64 (by decide) (fun h39 => ?_) (fun h39 => ?_)
  · refine lv_iconst (v := 1) hx hb d_law_755 (by decide) ?_
    refine va_forget (fun q hq => hAe _ (hS.2.2 q hq)) ?_
    refine W.widen (k := 600000) (n := 7302250) (Nat.le_of_ble_eq_true rfl) (Nat.le_of_ble_eq_true rfl) ?_
    exact lw_ret hx hb hr hlk d_law_756
  · have hlt : 4 + 6 ≤ L := by have z := mt (lw_cmp (i := 4) (by omega) (by decide)).mpr h39; omega
    refine lv_aload_n hx hb d_law_67 rfl (lv_at hl 3 rfl) ?_
    refine lv_iload_n hx hb d_law_68 rfl (lv_at hl 0 rfl) ?_
    refine va_sld hx hb hX hbl hbA hS (vp_in_nI (n := 4) (N := L) (by omega) (by omega)) d_law_69 ?_
    refine hm_top (z := xs 4) (by rw [nI_clamp (by omega)]) ?_
    refine lv_bipush (v := 31) hx hb d_law_70 (by decide) ?_
    refine lv_iand hx hb d_law_72 ?_
    refine lv_topi (fun sw esw => ?_)
    by_cases h40 : sw = 0
    · refine lv_tableIn (tgt := 156) hx hb d_law_73 (by rw [h40]; decide) (by rw [h40]; decide) (by rw [h40]; rfl) (by decide) ?_
      refine lv_aload_n hx hb d_law_156 rfl (lv_at hl 2 rfl) ?_
      refine lv_aload_n hx hb d_law_157 rfl (lv_at hl 3 rfl) ?_
      refine lv_iload_n hx hb d_law_158 rfl (lv_at hl 0 rfl) ?_
      refine lv_iconst (v := 1) hx hb d_law_159 (by decide) ?_
      refine lv_iadd hx hb d_law_160 ?_
      refine hm_top (z := nI 5) (by decide) ?_
      refine va_sld hx hb hX hbl hbA hS (vp_in_nI (n := 5) (N := L) (by omega) (by omega)) d_law_161 ?_
      refine hm_top (z := xs 5) (by rw [nI_clamp (by omega)]) ?_
      refine lv_aload_n hx hb d_law_162 rfl (lv_at hl 3 rfl) ?_
      refine lv_iload_n hx hb d_law_163 rfl (lv_at hl 0 rfl) ?_
      refine lv_iconst (v := 2) hx hb d_law_164 (by decide) ?_
      refine lv_iadd hx hb d_law_165 ?_
      refine hm_top (z := nI 6) (by decide) ?_
      refine va_sld hx hb hX hbl hbA hS (vp_in_nI (n := 6) (N := L) (by omega) (by omega)) d_law_166 ?_
      refine hm_top (z := xs 6) (by rw [nI_clamp (by omega)]) ?_
      refine lv_aload_n hx hb d_law_167 rfl (lv_at hl 3 rfl) ?_
      refine lv_iload_n hx hb d_law_168 rfl (lv_at hl 0 rfl) ?_
      refine lv_iconst (v := 3) hx hb d_law_169 (by decide) ?_
      refine lv_iadd hx hb d_law_170 ?_
      refine hm_top (z := nI 7) (by decide) ?_
      refine va_sld hx hb hX hbl hbA hS (vp_in_nI (n := 7) (N := L) (by omega) (by omega)) d_law_171 ?_
      refine hm_top (z := xs 7) (by rw [nI_clamp (by omega)]) ?_
      by_cases h41 : z_some (xs 7) = 0
      · refine hm_calli hS hM hA (va_runV (As := [.int (xs 5), .int (xs 6), .int (xs 7)]) (rest := []) X (c_client_no l D k f37 q1 (gs_u0 y1 y2 y3) adC (xs 5) (xs 6) (xs 7) 0 hgs.1 rfl (by decide) (Or.inr h41) H.size) (hm_cwV hts me_GrantServer_client wl_GrantServerLaw_21 rfl rfl ⟨Nat.le_of_ble_eq_true rfl, Nat.le_of_ble_eq_true rfl⟩) (hm_preV hM hK hgs.1 rfl) rfl rfl hl.1 rfl (lv_room (Nat.le_of_ble_eq_true rfl)) d_law_172 ⟨Nat.le_of_ble_eq_true rfl, Nat.le_of_ble_eq_true rfl⟩) (fun r44 f42 H locs p43 hM hS => ?_)
        obtain ⟨rfl, rfl⟩ := p43
        refine lv_aload_n hx hb d_law_175 rfl (lv_at hl 1 rfl) ?_
        refine lv_aload_n hx hb d_law_176 rfl (lv_at hl 3 rfl) ?_
        refine lv_iload_n hx hb d_law_177 rfl (lv_at hl 0 rfl) ?_
        refine lv_iconst (v := 1) hx hb d_law_178 (by decide) ?_
        refine lv_iadd hx hb d_law_179 ?_
        refine hm_top (z := nI 5) (by decide) ?_
        refine va_sld hx hb hX hbl hbA hS (vp_in_nI (n := 5) (N := L) (by omega) (by omega)) d_law_180 ?_
        refine hm_top (z := xs 5) (by rw [nI_clamp (by omega)]) ?_
        refine lv_aload_n hx hb d_law_181 rfl (lv_at hl 3 rfl) ?_
        refine lv_iload_n hx hb d_law_182 rfl (lv_at hl 0 rfl) ?_
        refine lv_iconst (v := 2) hx hb d_law_183 (by decide) ?_
        refine lv_iadd hx hb d_law_184 ?_
        refine hm_top (z := nI 6) (by decide) ?_
        refine va_sld hx hb hX hbl hbA hS (vp_in_nI (n := 6) (N := L) (by omega) (by omega)) d_law_185 ?_
        refine hm_top (z := xs 6) (by rw [nI_clamp (by omega)]) ?_
        refine lv_aload_n hx hb d_law_186 rfl (lv_at hl 3 rfl) ?_
        refine lv_iload_n hx hb d_law_187 rfl (lv_at hl 0 rfl) ?_
        refine lv_iconst (v := 3) hx hb d_law_188 (by decide) ?_
        refine lv_iadd hx hb d_law_189 ?_
        refine hm_top (z := nI 7) (by decide) ?_
        refine va_sld hx hb hX hbl hbA hS (vp_in_nI (n := 7) (N := L) (by omega) (by omega)) d_law_190 ?_
        refine hm_top (z := xs 7) (by rw [nI_clamp (by omega)]) ?_
        refine hm_calli hS hM hA (va_runV (As := [.int (xs 5), .int (xs 6), .int (xs 7)]) (rest := [.int (-1)]) X (m_c_client_no l D k f37 q20 adM (y0.toInt64) (mo_v0 y1 y2 y3) (fun _ _ => 0) (xs 5) (xs 6) (xs 7) 0 hmo rfl (by decide) (Or.inr h41) H.size) (hm_cwV hts me_GrantServerModel_client wl_GrantServerLaw_25 rfl rfl ⟨Nat.le_of_ble_eq_true rfl, Nat.le_of_ble_eq_true rfl⟩) (hm_preV hM hK hmo.1 rfl) rfl rfl hl.1 rfl (lv_room (Nat.le_of_ble_eq_true rfl)) d_law_191 ⟨Nat.le_of_ble_eq_true rfl, Nat.le_of_ble_eq_true rfl⟩) (fun r47 f45 H locs p46 hM hS => ?_)
        obtain ⟨rfl, rfl⟩ := p46
        refine lv_icmp_eq (tgt := 749) hx hb d_law_194 (by decide) (fun h48 => ?_) (fun h48 => ?_)
        · refine lv_iinc (lv' := [(3, .int (nI 10)), (2, .ref q20), (1, .ref q1), (0, .ref b)]) hx hb d_law_749 hl (k := 0) rfl (by decide) (by decide) rfl (fun ls hl => ?_)
          refine lv_goto (tgt := 58) hx hb d_law_752 (by decide) ?_
          refine lv_iload_n hx hb d_law_58 rfl (lv_at hl 0 rfl) ?_
          refine lv_aload_n hx hb d_law_59 rfl (lv_at hl 3 rfl) ?_
          refine va_slen hx hb hX hbl hbA hS d_law_60 ?_
          refine hm_top (z := nI L) rfl ?_
          refine lv_bipush (v := 6) hx hb d_law_61 (by decide) ?_
          refine lv_isub hx hb d_law_63 ?_
          refine lv_icmp_gt (tgt := 755) hx hb d_law_64 (by decide) (fun h49 => ?_) (fun h49 => ?_)
          · refine lv_iconst (v := 1) hx hb d_law_755 (by decide) ?_
            refine va_forget (fun q hq => hAe _ (hS.2.2 q hq)) ?_
            refine W.widen (k := 600000) (n := 7302250) (Nat.le_of_ble_eq_true rfl) (Nat.le_of_ble_eq_true rfl) ?_
            exact lw_ret hx hb hr hlk d_law_756
          · exact absurd ((lw_cmp (i := 10) (by omega) (by decide)).mpr (by omega)) h49
        · exact absurd rfl h48
      · refine hm_calli hS hM hA (va_runV (As := [.int (xs 5), .int (xs 6), .int (xs 7)]) (rest := []) X (c_client l D k f37 q1 (gs_u0 y1 y2 y3) adC (fun _ => none) 0 (xs 5) (xs 6) (xs 7) hgs.1 hgs.2.1 rfl (by decide) h41 H.size) (hm_cwV hts me_GrantServer_client wl_GrantServerLaw_21 rfl rfl ⟨Nat.le_of_ble_eq_true rfl, Nat.le_of_ble_eq_true rfl⟩) (hm_preV hM hK hgs.1 rfl) rfl rfl hl.1 rfl (lv_room (Nat.le_of_ble_eq_true rfl)) d_law_172 ⟨Nat.le_of_ble_eq_true rfl, Nat.le_of_ble_eq_true rfl⟩) (fun r44 f42 H locs p43 hM hS => ?_)
        obtain ⟨q45, z46, rfl, g47, g48, g49, hfr50⟩ := p43
        have hmo := hmo.keep (fun zq zx ho hq => hfr50 _ _ (fun z => hdj _ _ hgs0.1 (z ▸ ho)) (fun z => hdj _ _ hgs0.2.1 (z ▸ ho)) hq)
        refine lv_aload_n hx hb d_law_175 rfl (lv_at hl 1 rfl) ?_
        refine lv_aload_n hx hb d_law_176 rfl (lv_at hl 3 rfl) ?_
        refine lv_iload_n hx hb d_law_177 rfl (lv_at hl 0 rfl) ?_
        refine lv_iconst (v := 1) hx hb d_law_178 (by decide) ?_
        refine lv_iadd hx hb d_law_179 ?_
        refine hm_top (z := nI 5) (by decide) ?_
        refine va_sld hx hb hX hbl hbA hS (vp_in_nI (n := 5) (N := L) (by omega) (by omega)) d_law_180 ?_
        refine hm_top (z := xs 5) (by rw [nI_clamp (by omega)]) ?_
        refine lv_aload_n hx hb d_law_181 rfl (lv_at hl 3 rfl) ?_
        refine lv_iload_n hx hb d_law_182 rfl (lv_at hl 0 rfl) ?_
        refine lv_iconst (v := 2) hx hb d_law_183 (by decide) ?_
        refine lv_iadd hx hb d_law_184 ?_
        refine hm_top (z := nI 6) (by decide) ?_
        refine va_sld hx hb hX hbl hbA hS (vp_in_nI (n := 6) (N := L) (by omega) (by omega)) d_law_185 ?_
        refine hm_top (z := xs 6) (by rw [nI_clamp (by omega)]) ?_
        refine lv_aload_n hx hb d_law_186 rfl (lv_at hl 3 rfl) ?_
        refine lv_iload_n hx hb d_law_187 rfl (lv_at hl 0 rfl) ?_
        refine lv_iconst (v := 3) hx hb d_law_188 (by decide) ?_
        refine lv_iadd hx hb d_law_189 ?_
        refine hm_top (z := nI 7) (by decide) ?_
        refine va_sld hx hb hX hbl hbA hS (vp_in_nI (n := 7) (N := L) (by omega) (by omega)) d_law_190 ?_
        refine hm_top (z := xs 7) (by rw [nI_clamp (by omega)]) ?_
        refine hm_calli hS hM hA (va_runV (As := [.int (xs 5), .int (xs 6), .int (xs 7)]) (rest := [.int (nI 0)]) X (m_c_client l D k f42 q20 adM (y0.toInt64) (mo_v0 y1 y2 y3) (fun _ _ => 0) (xs 5) (xs 6) (xs 7) 0 hmo rfl (by decide) h41 H.size) (hm_cwV hts me_GrantServerModel_client wl_GrantServerLaw_25 rfl rfl ⟨Nat.le_of_ble_eq_true rfl, Nat.le_of_ble_eq_true rfl⟩) (hm_preV hM hK hmo.1 rfl) rfl rfl hl.1 rfl (lv_room (Nat.le_of_ble_eq_true rfl)) d_law_191 ⟨Nat.le_of_ble_eq_true rfl, Nat.le_of_ble_eq_true rfl⟩) (fun r53 f51 H locs p52 hM hS => ?_)
        obtain ⟨rfl, hmo, hfr54⟩ := p52
        refine lv_icmp_eq (tgt := 749) hx hb d_law_194 (by decide) (fun h55 => ?_) (fun h55 => ?_)
        · refine lv_iinc (lv' := [(3, .int (nI 10)), (2, .ref q20), (1, .ref q1), (0, .ref b)]) hx hb d_law_749 hl (k := 0) rfl (by decide) (by decide) rfl (fun ls hl => ?_)
          refine lv_goto (tgt := 58) hx hb d_law_752 (by decide) ?_
          refine lv_iload_n hx hb d_law_58 rfl (lv_at hl 0 rfl) ?_
          refine lv_aload_n hx hb d_law_59 rfl (lv_at hl 3 rfl) ?_
          refine va_slen hx hb hX hbl hbA hS d_law_60 ?_
          refine hm_top (z := nI L) rfl ?_
          refine lv_bipush (v := 6) hx hb d_law_61 (by decide) ?_
          refine lv_isub hx hb d_law_63 ?_
          refine lv_icmp_gt (tgt := 755) hx hb d_law_64 (by decide) (fun h56 => ?_) (fun h56 => ?_)
          · refine lv_iconst (v := 1) hx hb d_law_755 (by decide) ?_
            refine va_forget (fun q hq => hAe _ (hS.2.2 q hq)) ?_
            refine W.widen (k := 600000) (n := 7302250) (Nat.le_of_ble_eq_true rfl) (Nat.le_of_ble_eq_true rfl) ?_
            exact lw_ret hx hb hr hlk d_law_756
          · exact absurd ((lw_cmp (i := 10) (by omega) (by decide)).mpr (by omega)) h56
        · exact absurd rfl h55
    by_cases h41 : sw = 1
    · refine lv_tableIn (tgt := 199) hx hb d_law_73 (by rw [h41]; decide) (by rw [h41]; decide) (by rw [h41]; rfl) (by decide) ?_
      refine lv_aload_n hx hb d_law_199 rfl (lv_at hl 2 rfl) ?_
      refine lv_aload_n hx hb d_law_200 rfl (lv_at hl 3 rfl) ?_
      refine lv_iload_n hx hb d_law_201 rfl (lv_at hl 0 rfl) ?_
      refine lv_iconst (v := 1) hx hb d_law_202 (by decide) ?_
      refine lv_iadd hx hb d_law_203 ?_
      refine hm_top (z := nI 5) (by decide) ?_
      refine va_sld hx hb hX hbl hbA hS (vp_in_nI (n := 5) (N := L) (by omega) (by omega)) d_law_204 ?_
      refine hm_top (z := xs 5) (by rw [nI_clamp (by omega)]) ?_
      refine lv_aload_n hx hb d_law_205 rfl (lv_at hl 3 rfl) ?_
      refine lv_iload_n hx hb d_law_206 rfl (lv_at hl 0 rfl) ?_
      refine lv_iconst (v := 2) hx hb d_law_207 (by decide) ?_
      refine lv_iadd hx hb d_law_208 ?_
      refine hm_top (z := nI 6) (by decide) ?_
      refine va_sld hx hb hX hbl hbA hS (vp_in_nI (n := 6) (N := L) (by omega) (by omega)) d_law_209 ?_
      refine hm_top (z := xs 6) (by rw [nI_clamp (by omega)]) ?_
      refine hm_calli hS hM hA (va_runV (As := [.int (xs 5), .int (xs 6)]) (rest := []) X (c_login_no l D k f37 q1 (gs_u0 y1 y2 y3) adC 0 (xs 5) (xs 6) hgs.1 rfl (lw_nn _) H.size) (hm_cwV hts me_GrantServer_login wl_GrantServerLaw_26 rfl rfl ⟨Nat.le_of_ble_eq_true rfl, Nat.le_of_ble_eq_true rfl⟩) (hm_preV hM hK hgs.1 rfl) rfl rfl hl.1 rfl (lv_room (Nat.le_of_ble_eq_true rfl)) d_law_210 ⟨Nat.le_of_ble_eq_true rfl, Nat.le_of_ble_eq_true rfl⟩) (fun r44 f42 H locs p43 hM hS => ?_)
      obtain ⟨rfl, g45, hfr46⟩ := p43
      have hmo := hmo.keep (fun zq zx ho hq => hfr46 _ _ (fun z => hdj _ _ hgs0.1 (z ▸ ho)) hq)
      refine lv_aload_n hx hb d_law_213 rfl (lv_at hl 1 rfl) ?_
      refine lv_aload_n hx hb d_law_214 rfl (lv_at hl 3 rfl) ?_
      refine lv_iload_n hx hb d_law_215 rfl (lv_at hl 0 rfl) ?_
      refine lv_iconst (v := 1) hx hb d_law_216 (by decide) ?_
      refine lv_iadd hx hb d_law_217 ?_
      refine hm_top (z := nI 5) (by decide) ?_
      refine va_sld hx hb hX hbl hbA hS (vp_in_nI (n := 5) (N := L) (by omega) (by omega)) d_law_218 ?_
      refine hm_top (z := xs 5) (by rw [nI_clamp (by omega)]) ?_
      refine lv_aload_n hx hb d_law_219 rfl (lv_at hl 3 rfl) ?_
      refine lv_iload_n hx hb d_law_220 rfl (lv_at hl 0 rfl) ?_
      refine lv_iconst (v := 2) hx hb d_law_221 (by decide) ?_
      refine lv_iadd hx hb d_law_222 ?_
      refine hm_top (z := nI 6) (by decide) ?_
      refine va_sld hx hb hX hbl hbA hS (vp_in_nI (n := 6) (N := L) (by omega) (by omega)) d_law_223 ?_
      refine hm_top (z := xs 6) (by rw [nI_clamp (by omega)]) ?_
      refine hm_calli hS hM hA (va_runV (As := [.int (xs 5), .int (xs 6)]) (rest := [.int 0]) X (m_c_login_no l D k f42 q20 adM (y0.toInt64) (mo_v0 y1 y2 y3) (fun _ _ => 0) (xs 5) (xs 6) hmo (m_isC0 _) H.size) (hm_cwV hts me_GrantServerModel_login wl_GrantServerLaw_30 rfl rfl ⟨Nat.le_of_ble_eq_true rfl, Nat.le_of_ble_eq_true rfl⟩) (hm_preV hM hK hmo.1 rfl) rfl rfl hl.1 rfl (lv_room (Nat.le_of_ble_eq_true rfl)) d_law_224 ⟨Nat.le_of_ble_eq_true rfl, Nat.le_of_ble_eq_true rfl⟩) (fun r49 f47 H locs p48 hM hS => ?_)
      obtain ⟨rfl, hmo, hfr50⟩ := p48
      refine lv_icmp_eq (tgt := 749) hx hb d_law_227 (by decide) (fun h51 => ?_) (fun h51 => ?_)
      · refine lv_iinc (lv' := [(3, .int (nI 10)), (2, .ref q20), (1, .ref q1), (0, .ref b)]) hx hb d_law_749 hl (k := 0) rfl (by decide) (by decide) rfl (fun ls hl => ?_)
        refine lv_goto (tgt := 58) hx hb d_law_752 (by decide) ?_
        refine lv_iload_n hx hb d_law_58 rfl (lv_at hl 0 rfl) ?_
        refine lv_aload_n hx hb d_law_59 rfl (lv_at hl 3 rfl) ?_
        refine va_slen hx hb hX hbl hbA hS d_law_60 ?_
        refine hm_top (z := nI L) rfl ?_
        refine lv_bipush (v := 6) hx hb d_law_61 (by decide) ?_
        refine lv_isub hx hb d_law_63 ?_
        refine lv_icmp_gt (tgt := 755) hx hb d_law_64 (by decide) (fun h52 => ?_) (fun h52 => ?_)
        · refine lv_iconst (v := 1) hx hb d_law_755 (by decide) ?_
          refine va_forget (fun q hq => hAe _ (hS.2.2 q hq)) ?_
          refine W.widen (k := 600000) (n := 7302250) (Nat.le_of_ble_eq_true rfl) (Nat.le_of_ble_eq_true rfl) ?_
          exact lw_ret hx hb hr hlk d_law_756
        · exact absurd ((lw_cmp (i := 10) (by omega) (by decide)).mpr (by omega)) h52
      · exact absurd rfl h51
    by_cases h42 : sw = 2
    · refine lv_tableIn (tgt := 232) hx hb d_law_73 (by rw [h42]; decide) (by rw [h42]; decide) (by rw [h42]; rfl) (by decide) ?_
      refine lv_aload_n hx hb d_law_232 rfl (lv_at hl 2 rfl) ?_
      refine lv_aload_n hx hb d_law_233 rfl (lv_at hl 3 rfl) ?_
      refine lv_iload_n hx hb d_law_234 rfl (lv_at hl 0 rfl) ?_
      refine lv_iconst (v := 1) hx hb d_law_235 (by decide) ?_
      refine lv_iadd hx hb d_law_236 ?_
      refine hm_top (z := nI 5) (by decide) ?_
      refine va_sld hx hb hX hbl hbA hS (vp_in_nI (n := 5) (N := L) (by omega) (by omega)) d_law_237 ?_
      refine hm_top (z := xs 5) (by rw [nI_clamp (by omega)]) ?_
      refine lv_aload_n hx hb d_law_238 rfl (lv_at hl 3 rfl) ?_
      refine lv_iload_n hx hb d_law_239 rfl (lv_at hl 0 rfl) ?_
      refine lv_iconst (v := 2) hx hb d_law_240 (by decide) ?_
      refine lv_iadd hx hb d_law_241 ?_
      refine hm_top (z := nI 6) (by decide) ?_
      refine va_sld hx hb hX hbl hbA hS (vp_in_nI (n := 6) (N := L) (by omega) (by omega)) d_law_242 ?_
      refine hm_top (z := xs 6) (by rw [nI_clamp (by omega)]) ?_
      refine lv_aload_n hx hb d_law_243 rfl (lv_at hl 3 rfl) ?_
      refine lv_iload_n hx hb d_law_244 rfl (lv_at hl 0 rfl) ?_
      refine lv_iconst (v := 3) hx hb d_law_245 (by decide) ?_
      refine lv_iadd hx hb d_law_246 ?_
      refine hm_top (z := nI 7) (by decide) ?_
      refine va_sld hx hb hX hbl hbA hS (vp_in_nI (n := 7) (N := L) (by omega) (by omega)) d_law_247 ?_
      refine hm_top (z := xs 7) (by rw [nI_clamp (by omega)]) ?_
      refine lv_aload_n hx hb d_law_248 rfl (lv_at hl 3 rfl) ?_
      refine lv_iload_n hx hb d_law_249 rfl (lv_at hl 0 rfl) ?_
      refine lv_iconst (v := 4) hx hb d_law_250 (by decide) ?_
      refine lv_iadd hx hb d_law_251 ?_
      refine hm_top (z := nI 8) (by decide) ?_
      refine va_sld hx hb hX hbl hbA hS (vp_in_nI (n := 8) (N := L) (by omega) (by omega)) d_law_252 ?_
      refine hm_top (z := xs 8) (by rw [nI_clamp (by omega)]) ?_
      refine lv_aload_n hx hb d_law_253 rfl (lv_at hl 3 rfl) ?_
      refine lv_iload_n hx hb d_law_254 rfl (lv_at hl 0 rfl) ?_
      refine lv_iconst (v := 5) hx hb d_law_255 (by decide) ?_
      refine lv_iadd hx hb d_law_256 ?_
      refine hm_top (z := nI 9) (by decide) ?_
      refine va_sld hx hb hX hbl hbA hS (vp_in_nI (n := 9) (N := L) (by omega) (by omega)) d_law_257 ?_
      refine hm_top (z := xs 9) (by rw [nI_clamp (by omega)]) ?_
      refine hm_calli hS hM hA (va_runV (As := [.int (xs 5), .int (xs 6), .int (xs 7), .int (xs 8), .int (xs 9)]) (rest := []) X (c_authorize_no l D k f37 q1 (gs_u0 y1 y2 y3) adC 0 (xs 5) (xs 6) (xs 7) (xs 8) (xs 9) hgs.1 rfl (lw_nn _) H.size) (hm_cwV hts me_GrantServer_authorize wl_GrantServerLaw_31 rfl rfl ⟨Nat.le_of_ble_eq_true rfl, Nat.le_of_ble_eq_true rfl⟩) (hm_preV hM hK hgs.1 rfl) rfl rfl hl.1 rfl (lv_room (Nat.le_of_ble_eq_true rfl)) d_law_258 ⟨Nat.le_of_ble_eq_true rfl, Nat.le_of_ble_eq_true rfl⟩) (fun r45 f43 H locs p44 hM hS => ?_)
      obtain ⟨rfl, rfl⟩ := p44
      refine lv_aload_n hx hb d_law_261 rfl (lv_at hl 1 rfl) ?_
      refine lv_aload_n hx hb d_law_262 rfl (lv_at hl 3 rfl) ?_
      refine lv_iload_n hx hb d_law_263 rfl (lv_at hl 0 rfl) ?_
      refine lv_iconst (v := 1) hx hb d_law_264 (by decide) ?_
      refine lv_iadd hx hb d_law_265 ?_
      refine hm_top (z := nI 5) (by decide) ?_
      refine va_sld hx hb hX hbl hbA hS (vp_in_nI (n := 5) (N := L) (by omega) (by omega)) d_law_266 ?_
      refine hm_top (z := xs 5) (by rw [nI_clamp (by omega)]) ?_
      refine lv_aload_n hx hb d_law_267 rfl (lv_at hl 3 rfl) ?_
      refine lv_iload_n hx hb d_law_268 rfl (lv_at hl 0 rfl) ?_
      refine lv_iconst (v := 2) hx hb d_law_269 (by decide) ?_
      refine lv_iadd hx hb d_law_270 ?_
      refine hm_top (z := nI 6) (by decide) ?_
      refine va_sld hx hb hX hbl hbA hS (vp_in_nI (n := 6) (N := L) (by omega) (by omega)) d_law_271 ?_
      refine hm_top (z := xs 6) (by rw [nI_clamp (by omega)]) ?_
      refine lv_aload_n hx hb d_law_272 rfl (lv_at hl 3 rfl) ?_
      refine lv_iload_n hx hb d_law_273 rfl (lv_at hl 0 rfl) ?_
      refine lv_iconst (v := 3) hx hb d_law_274 (by decide) ?_
      refine lv_iadd hx hb d_law_275 ?_
      refine hm_top (z := nI 7) (by decide) ?_
      refine va_sld hx hb hX hbl hbA hS (vp_in_nI (n := 7) (N := L) (by omega) (by omega)) d_law_276 ?_
      refine hm_top (z := xs 7) (by rw [nI_clamp (by omega)]) ?_
      refine lv_aload_n hx hb d_law_277 rfl (lv_at hl 3 rfl) ?_
      refine lv_iload_n hx hb d_law_278 rfl (lv_at hl 0 rfl) ?_
      refine lv_iconst (v := 4) hx hb d_law_279 (by decide) ?_
      refine lv_iadd hx hb d_law_280 ?_
      refine hm_top (z := nI 8) (by decide) ?_
      refine va_sld hx hb hX hbl hbA hS (vp_in_nI (n := 8) (N := L) (by omega) (by omega)) d_law_281 ?_
      refine hm_top (z := xs 8) (by rw [nI_clamp (by omega)]) ?_
      refine lv_aload_n hx hb d_law_282 rfl (lv_at hl 3 rfl) ?_
      refine lv_iload_n hx hb d_law_283 rfl (lv_at hl 0 rfl) ?_
      refine lv_iconst (v := 5) hx hb d_law_284 (by decide) ?_
      refine lv_iadd hx hb d_law_285 ?_
      refine hm_top (z := nI 9) (by decide) ?_
      refine va_sld hx hb hX hbl hbA hS (vp_in_nI (n := 9) (N := L) (by omega) (by omega)) d_law_286 ?_
      refine hm_top (z := xs 9) (by rw [nI_clamp (by omega)]) ?_
      refine hm_calli hS hM hA (va_runV (As := [.int (xs 5), .int (xs 6), .int (xs 7), .int (xs 8), .int (xs 9)]) (rest := [.int (-1)]) X (m_c_authorize_no l D k f37 q20 adM (y0.toInt64) (mo_v0 y1 y2 y3) (fun _ _ => 0) (xs 5) (xs 6) (xs 7) (xs 8) (xs 9) hmo (m_isC0 _) H.size) (hm_cwV hts me_GrantServerModel_authorize wl_GrantServerLaw_35 rfl rfl ⟨Nat.le_of_ble_eq_true rfl, Nat.le_of_ble_eq_true rfl⟩) (hm_preV hM hK hmo.1 rfl) rfl rfl hl.1 rfl (lv_room (Nat.le_of_ble_eq_true rfl)) d_law_287 ⟨Nat.le_of_ble_eq_true rfl, Nat.le_of_ble_eq_true rfl⟩) (fun r48 f46 H locs p47 hM hS => ?_)
      obtain ⟨rfl, rfl⟩ := p47
      refine lv_icmp_eq (tgt := 749) hx hb d_law_290 (by decide) (fun h49 => ?_) (fun h49 => ?_)
      · refine lv_iinc (lv' := [(3, .int (nI 10)), (2, .ref q20), (1, .ref q1), (0, .ref b)]) hx hb d_law_749 hl (k := 0) rfl (by decide) (by decide) rfl (fun ls hl => ?_)
        refine lv_goto (tgt := 58) hx hb d_law_752 (by decide) ?_
        refine lv_iload_n hx hb d_law_58 rfl (lv_at hl 0 rfl) ?_
        refine lv_aload_n hx hb d_law_59 rfl (lv_at hl 3 rfl) ?_
        refine va_slen hx hb hX hbl hbA hS d_law_60 ?_
        refine hm_top (z := nI L) rfl ?_
        refine lv_bipush (v := 6) hx hb d_law_61 (by decide) ?_
        refine lv_isub hx hb d_law_63 ?_
        refine lv_icmp_gt (tgt := 755) hx hb d_law_64 (by decide) (fun h50 => ?_) (fun h50 => ?_)
        · refine lv_iconst (v := 1) hx hb d_law_755 (by decide) ?_
          refine va_forget (fun q hq => hAe _ (hS.2.2 q hq)) ?_
          refine W.widen (k := 600000) (n := 7302250) (Nat.le_of_ble_eq_true rfl) (Nat.le_of_ble_eq_true rfl) ?_
          exact lw_ret hx hb hr hlk d_law_756
        · exact absurd ((lw_cmp (i := 10) (by omega) (by decide)).mpr (by omega)) h50
      · exact absurd rfl h49
    by_cases h43 : sw = 3
    · refine lv_tableIn (tgt := 295) hx hb d_law_73 (by rw [h43]; decide) (by rw [h43]; decide) (by rw [h43]; rfl) (by decide) ?_
      refine lv_aload_n hx hb d_law_295 rfl (lv_at hl 2 rfl) ?_
      refine lv_aload_n hx hb d_law_296 rfl (lv_at hl 3 rfl) ?_
      refine lv_iload_n hx hb d_law_297 rfl (lv_at hl 0 rfl) ?_
      refine lv_iconst (v := 1) hx hb d_law_298 (by decide) ?_
      refine lv_iadd hx hb d_law_299 ?_
      refine hm_top (z := nI 5) (by decide) ?_
      refine va_sld hx hb hX hbl hbA hS (vp_in_nI (n := 5) (N := L) (by omega) (by omega)) d_law_300 ?_
      refine hm_top (z := xs 5) (by rw [nI_clamp (by omega)]) ?_
      refine lv_aload_n hx hb d_law_301 rfl (lv_at hl 3 rfl) ?_
      refine lv_iload_n hx hb d_law_302 rfl (lv_at hl 0 rfl) ?_
      refine lv_iconst (v := 2) hx hb d_law_303 (by decide) ?_
      refine lv_iadd hx hb d_law_304 ?_
      refine hm_top (z := nI 6) (by decide) ?_
      refine va_sld hx hb hX hbl hbA hS (vp_in_nI (n := 6) (N := L) (by omega) (by omega)) d_law_305 ?_
      refine hm_top (z := xs 6) (by rw [nI_clamp (by omega)]) ?_
      refine lv_aload_n hx hb d_law_306 rfl (lv_at hl 3 rfl) ?_
      refine lv_iload_n hx hb d_law_307 rfl (lv_at hl 0 rfl) ?_
      refine lv_iconst (v := 3) hx hb d_law_308 (by decide) ?_
      refine lv_iadd hx hb d_law_309 ?_
      refine hm_top (z := nI 7) (by decide) ?_
      refine va_sld hx hb hX hbl hbA hS (vp_in_nI (n := 7) (N := L) (by omega) (by omega)) d_law_310 ?_
      refine hm_top (z := xs 7) (by rw [nI_clamp (by omega)]) ?_
      refine lv_aload_n hx hb d_law_311 rfl (lv_at hl 3 rfl) ?_
      refine lv_iload_n hx hb d_law_312 rfl (lv_at hl 0 rfl) ?_
      refine lv_iconst (v := 4) hx hb d_law_313 (by decide) ?_
      refine lv_iadd hx hb d_law_314 ?_
      refine hm_top (z := nI 8) (by decide) ?_
      refine va_sld hx hb hX hbl hbA hS (vp_in_nI (n := 8) (N := L) (by omega) (by omega)) d_law_315 ?_
      refine hm_top (z := xs 8) (by rw [nI_clamp (by omega)]) ?_
      refine hm_calli hS hM hA (va_runV (As := [.int (xs 5), .int (xs 6), .int (xs 7), .int (xs 8)]) (rest := []) X (c_exchange_no l D k f37 q1 (gs_u0 y1 y2 y3) adC (xs 5) (xs 6) (xs 7) (xs 8) hgs.1 rfl H.size) (hm_cwV hts me_GrantServer_exchange wl_GrantServerLaw_36 rfl rfl ⟨Nat.le_of_ble_eq_true rfl, Nat.le_of_ble_eq_true rfl⟩) (hm_preV hM hK hgs.1 rfl) rfl rfl hl.1 rfl (lv_room (Nat.le_of_ble_eq_true rfl)) d_law_316 ⟨Nat.le_of_ble_eq_true rfl, Nat.le_of_ble_eq_true rfl⟩) (fun r46 f44 H locs p45 hM hS => ?_)
      obtain ⟨rfl, rfl⟩ := p45
      refine lv_aload_n hx hb d_law_319 rfl (lv_at hl 1 rfl) ?_
      refine lv_aload_n hx hb d_law_320 rfl (lv_at hl 3 rfl) ?_
      refine lv_iload_n hx hb d_law_321 rfl (lv_at hl 0 rfl) ?_
      refine lv_iconst (v := 1) hx hb d_law_322 (by decide) ?_
      refine lv_iadd hx hb d_law_323 ?_
      refine hm_top (z := nI 5) (by decide) ?_
      refine va_sld hx hb hX hbl hbA hS (vp_in_nI (n := 5) (N := L) (by omega) (by omega)) d_law_324 ?_
      refine hm_top (z := xs 5) (by rw [nI_clamp (by omega)]) ?_
      refine lv_aload_n hx hb d_law_325 rfl (lv_at hl 3 rfl) ?_
      refine lv_iload_n hx hb d_law_326 rfl (lv_at hl 0 rfl) ?_
      refine lv_iconst (v := 2) hx hb d_law_327 (by decide) ?_
      refine lv_iadd hx hb d_law_328 ?_
      refine hm_top (z := nI 6) (by decide) ?_
      refine va_sld hx hb hX hbl hbA hS (vp_in_nI (n := 6) (N := L) (by omega) (by omega)) d_law_329 ?_
      refine hm_top (z := xs 6) (by rw [nI_clamp (by omega)]) ?_
      refine lv_aload_n hx hb d_law_330 rfl (lv_at hl 3 rfl) ?_
      refine lv_iload_n hx hb d_law_331 rfl (lv_at hl 0 rfl) ?_
      refine lv_iconst (v := 3) hx hb d_law_332 (by decide) ?_
      refine lv_iadd hx hb d_law_333 ?_
      refine hm_top (z := nI 7) (by decide) ?_
      refine va_sld hx hb hX hbl hbA hS (vp_in_nI (n := 7) (N := L) (by omega) (by omega)) d_law_334 ?_
      refine hm_top (z := xs 7) (by rw [nI_clamp (by omega)]) ?_
      refine lv_aload_n hx hb d_law_335 rfl (lv_at hl 3 rfl) ?_
      refine lv_iload_n hx hb d_law_336 rfl (lv_at hl 0 rfl) ?_
      refine lv_iconst (v := 4) hx hb d_law_337 (by decide) ?_
      refine lv_iadd hx hb d_law_338 ?_
      refine hm_top (z := nI 8) (by decide) ?_
      refine va_sld hx hb hX hbl hbA hS (vp_in_nI (n := 8) (N := L) (by omega) (by omega)) d_law_339 ?_
      refine hm_top (z := xs 8) (by rw [nI_clamp (by omega)]) ?_
      refine hm_calli hS hM hA (va_runV (As := [.int (xs 5), .int (xs 6), .int (xs 7), .int (xs 8)]) (rest := [.int (-2)]) X (m_c_exchange_no l D k f37 q20 adM (y0.toInt64) (mo_v0 y1 y2 y3) (fun _ _ => 0) (xs 5) (xs 6) (xs 7) (xs 8) hmo (show (-1 : Int32) < 0 by decide) H.size) (hm_cwV hts me_GrantServerModel_exchange wl_GrantServerLaw_40 rfl rfl ⟨Nat.le_of_ble_eq_true rfl, Nat.le_of_ble_eq_true rfl⟩) (hm_preV hM hK hmo.1 rfl) rfl rfl hl.1 rfl (lv_room (Nat.le_of_ble_eq_true rfl)) d_law_340 ⟨Nat.le_of_ble_eq_true rfl, Nat.le_of_ble_eq_true rfl⟩) (fun r49 f47 H locs p48 hM hS => ?_)
      obtain ⟨rfl, rfl⟩ := p48
      refine lv_icmp_eq (tgt := 749) hx hb d_law_343 (by decide) (fun h50 => ?_) (fun h50 => ?_)
      · refine lv_iinc (lv' := [(3, .int (nI 10)), (2, .ref q20), (1, .ref q1), (0, .ref b)]) hx hb d_law_749 hl (k := 0) rfl (by decide) (by decide) rfl (fun ls hl => ?_)
        refine lv_goto (tgt := 58) hx hb d_law_752 (by decide) ?_
        refine lv_iload_n hx hb d_law_58 rfl (lv_at hl 0 rfl) ?_
        refine lv_aload_n hx hb d_law_59 rfl (lv_at hl 3 rfl) ?_
        refine va_slen hx hb hX hbl hbA hS d_law_60 ?_
        refine hm_top (z := nI L) rfl ?_
        refine lv_bipush (v := 6) hx hb d_law_61 (by decide) ?_
        refine lv_isub hx hb d_law_63 ?_
        refine lv_icmp_gt (tgt := 755) hx hb d_law_64 (by decide) (fun h51 => ?_) (fun h51 => ?_)
        · refine lv_iconst (v := 1) hx hb d_law_755 (by decide) ?_
          refine va_forget (fun q hq => hAe _ (hS.2.2 q hq)) ?_
          refine W.widen (k := 600000) (n := 7302250) (Nat.le_of_ble_eq_true rfl) (Nat.le_of_ble_eq_true rfl) ?_
          exact lw_ret hx hb hr hlk d_law_756
        · exact absurd ((lw_cmp (i := 10) (by omega) (by decide)).mpr (by omega)) h51
      · exact absurd rfl h50
    by_cases h44 : sw = 4
    · refine lv_tableIn (tgt := 348) hx hb d_law_73 (by rw [h44]; decide) (by rw [h44]; decide) (by rw [h44]; rfl) (by decide) ?_
      refine lv_aload_n hx hb d_law_348 rfl (lv_at hl 2 rfl) ?_
      refine lv_aload_n hx hb d_law_349 rfl (lv_at hl 3 rfl) ?_
      refine lv_iload_n hx hb d_law_350 rfl (lv_at hl 0 rfl) ?_
      refine lv_iconst (v := 1) hx hb d_law_351 (by decide) ?_
      refine lv_iadd hx hb d_law_352 ?_
      refine hm_top (z := nI 5) (by decide) ?_
      refine va_sld hx hb hX hbl hbA hS (vp_in_nI (n := 5) (N := L) (by omega) (by omega)) d_law_353 ?_
      refine hm_top (z := xs 5) (by rw [nI_clamp (by omega)]) ?_
      refine lv_aload_n hx hb d_law_354 rfl (lv_at hl 3 rfl) ?_
      refine lv_iload_n hx hb d_law_355 rfl (lv_at hl 0 rfl) ?_
      refine lv_iconst (v := 2) hx hb d_law_356 (by decide) ?_
      refine lv_iadd hx hb d_law_357 ?_
      refine hm_top (z := nI 6) (by decide) ?_
      refine va_sld hx hb hX hbl hbA hS (vp_in_nI (n := 6) (N := L) (by omega) (by omega)) d_law_358 ?_
      refine hm_top (z := xs 6) (by rw [nI_clamp (by omega)]) ?_
      refine lv_aload_n hx hb d_law_359 rfl (lv_at hl 3 rfl) ?_
      refine lv_iload_n hx hb d_law_360 rfl (lv_at hl 0 rfl) ?_
      refine lv_iconst (v := 3) hx hb d_law_361 (by decide) ?_
      refine lv_iadd hx hb d_law_362 ?_
      refine hm_top (z := nI 7) (by decide) ?_
      refine va_sld hx hb hX hbl hbA hS (vp_in_nI (n := 7) (N := L) (by omega) (by omega)) d_law_363 ?_
      refine hm_top (z := xs 7) (by rw [nI_clamp (by omega)]) ?_
      refine hm_calli hS hM hA (va_runV (As := [.int (xs 5), .int (xs 6), .int (xs 7)]) (rest := []) X (c_refresh_no l D k f37 q1 (gs_u0 y1 y2 y3) adC (xs 5) (xs 6) (xs 7) hgs.1 rfl H.size) (hm_cwV hts me_GrantServer_refresh wl_GrantServerLaw_41 rfl rfl ⟨Nat.le_of_ble_eq_true rfl, Nat.le_of_ble_eq_true rfl⟩) (hm_preV hM hK hgs.1 rfl) rfl rfl hl.1 rfl (lv_room (Nat.le_of_ble_eq_true rfl)) d_law_364 ⟨Nat.le_of_ble_eq_true rfl, Nat.le_of_ble_eq_true rfl⟩) (fun r47 f45 H locs p46 hM hS => ?_)
      obtain ⟨rfl, rfl⟩ := p46
      refine lv_aload_n hx hb d_law_367 rfl (lv_at hl 1 rfl) ?_
      refine lv_aload_n hx hb d_law_368 rfl (lv_at hl 3 rfl) ?_
      refine lv_iload_n hx hb d_law_369 rfl (lv_at hl 0 rfl) ?_
      refine lv_iconst (v := 1) hx hb d_law_370 (by decide) ?_
      refine lv_iadd hx hb d_law_371 ?_
      refine hm_top (z := nI 5) (by decide) ?_
      refine va_sld hx hb hX hbl hbA hS (vp_in_nI (n := 5) (N := L) (by omega) (by omega)) d_law_372 ?_
      refine hm_top (z := xs 5) (by rw [nI_clamp (by omega)]) ?_
      refine lv_aload_n hx hb d_law_373 rfl (lv_at hl 3 rfl) ?_
      refine lv_iload_n hx hb d_law_374 rfl (lv_at hl 0 rfl) ?_
      refine lv_iconst (v := 2) hx hb d_law_375 (by decide) ?_
      refine lv_iadd hx hb d_law_376 ?_
      refine hm_top (z := nI 6) (by decide) ?_
      refine va_sld hx hb hX hbl hbA hS (vp_in_nI (n := 6) (N := L) (by omega) (by omega)) d_law_377 ?_
      refine hm_top (z := xs 6) (by rw [nI_clamp (by omega)]) ?_
      refine lv_aload_n hx hb d_law_378 rfl (lv_at hl 3 rfl) ?_
      refine lv_iload_n hx hb d_law_379 rfl (lv_at hl 0 rfl) ?_
      refine lv_iconst (v := 3) hx hb d_law_380 (by decide) ?_
      refine lv_iadd hx hb d_law_381 ?_
      refine hm_top (z := nI 7) (by decide) ?_
      refine va_sld hx hb hX hbl hbA hS (vp_in_nI (n := 7) (N := L) (by omega) (by omega)) d_law_382 ?_
      refine hm_top (z := xs 7) (by rw [nI_clamp (by omega)]) ?_
      refine hm_calli hS hM hA (va_runV (As := [.int (xs 5), .int (xs 6), .int (xs 7)]) (rest := [.int (-2)]) X (m_c_refresh_no l D k f37 q20 adM (y0.toInt64) (mo_v0 y1 y2 y3) (fun _ _ => 0) (xs 5) (xs 6) (xs 7) hmo (show (-1 : Int32) < 0 by decide) H.size) (hm_cwV hts me_GrantServerModel_refresh wl_GrantServerLaw_44 rfl rfl ⟨Nat.le_of_ble_eq_true rfl, Nat.le_of_ble_eq_true rfl⟩) (hm_preV hM hK hmo.1 rfl) rfl rfl hl.1 rfl (lv_room (Nat.le_of_ble_eq_true rfl)) d_law_383 ⟨Nat.le_of_ble_eq_true rfl, Nat.le_of_ble_eq_true rfl⟩) (fun r50 f48 H locs p49 hM hS => ?_)
      obtain ⟨rfl, rfl⟩ := p49
      refine lv_icmp_eq (tgt := 749) hx hb d_law_386 (by decide) (fun h51 => ?_) (fun h51 => ?_)
      · refine lv_iinc (lv' := [(3, .int (nI 10)), (2, .ref q20), (1, .ref q1), (0, .ref b)]) hx hb d_law_749 hl (k := 0) rfl (by decide) (by decide) rfl (fun ls hl => ?_)
        refine lv_goto (tgt := 58) hx hb d_law_752 (by decide) ?_
        refine lv_iload_n hx hb d_law_58 rfl (lv_at hl 0 rfl) ?_
        refine lv_aload_n hx hb d_law_59 rfl (lv_at hl 3 rfl) ?_
        refine va_slen hx hb hX hbl hbA hS d_law_60 ?_
        refine hm_top (z := nI L) rfl ?_
        refine lv_bipush (v := 6) hx hb d_law_61 (by decide) ?_
        refine lv_isub hx hb d_law_63 ?_
        refine lv_icmp_gt (tgt := 755) hx hb d_law_64 (by decide) (fun h52 => ?_) (fun h52 => ?_)
        · refine lv_iconst (v := 1) hx hb d_law_755 (by decide) ?_
          refine va_forget (fun q hq => hAe _ (hS.2.2 q hq)) ?_
          refine W.widen (k := 600000) (n := 7302250) (Nat.le_of_ble_eq_true rfl) (Nat.le_of_ble_eq_true rfl) ?_
          exact lw_ret hx hb hr hlk d_law_756
        · exact absurd ((lw_cmp (i := 10) (by omega) (by decide)).mpr (by omega)) h52
      · exact absurd rfl h51
    by_cases h45 : sw = 5
    · refine lv_tableIn (tgt := 391) hx hb d_law_73 (by rw [h45]; decide) (by rw [h45]; decide) (by rw [h45]; rfl) (by decide) ?_
      refine lv_aload_n hx hb d_law_391 rfl (lv_at hl 2 rfl) ?_
      refine lv_aload_n hx hb d_law_392 rfl (lv_at hl 3 rfl) ?_
      refine lv_iload_n hx hb d_law_393 rfl (lv_at hl 0 rfl) ?_
      refine lv_iconst (v := 1) hx hb d_law_394 (by decide) ?_
      refine lv_iadd hx hb d_law_395 ?_
      refine hm_top (z := nI 5) (by decide) ?_
      refine va_sld hx hb hX hbl hbA hS (vp_in_nI (n := 5) (N := L) (by omega) (by omega)) d_law_396 ?_
      refine hm_top (z := xs 5) (by rw [nI_clamp (by omega)]) ?_
      refine lv_aload_n hx hb d_law_397 rfl (lv_at hl 3 rfl) ?_
      refine lv_iload_n hx hb d_law_398 rfl (lv_at hl 0 rfl) ?_
      refine lv_iconst (v := 2) hx hb d_law_399 (by decide) ?_
      refine lv_iadd hx hb d_law_400 ?_
      refine hm_top (z := nI 6) (by decide) ?_
      refine va_sld hx hb hX hbl hbA hS (vp_in_nI (n := 6) (N := L) (by omega) (by omega)) d_law_401 ?_
      refine hm_top (z := xs 6) (by rw [nI_clamp (by omega)]) ?_
      refine hm_calli hS hM hA (va_runV (As := [.int (xs 5), .int (xs 6)]) (rest := []) X (c_revoke_no l D k f37 q1 (gs_u0 y1 y2 y3) adC (xs 5) (xs 6) hgs.1 rfl H.size) (hm_cwV hts me_GrantServer_revoke wl_GrantServerLaw_45 rfl rfl ⟨Nat.le_of_ble_eq_true rfl, Nat.le_of_ble_eq_true rfl⟩) (hm_preV hM hK hgs.1 rfl) rfl rfl hl.1 rfl (lv_room (Nat.le_of_ble_eq_true rfl)) d_law_402 ⟨Nat.le_of_ble_eq_true rfl, Nat.le_of_ble_eq_true rfl⟩) (fun r48 f46 H locs p47 hM hS => ?_)
      obtain ⟨rfl, rfl⟩ := p47
      refine lv_aload_n hx hb d_law_405 rfl (lv_at hl 1 rfl) ?_
      refine lv_aload_n hx hb d_law_406 rfl (lv_at hl 3 rfl) ?_
      refine lv_iload_n hx hb d_law_407 rfl (lv_at hl 0 rfl) ?_
      refine lv_iconst (v := 1) hx hb d_law_408 (by decide) ?_
      refine lv_iadd hx hb d_law_409 ?_
      refine hm_top (z := nI 5) (by decide) ?_
      refine va_sld hx hb hX hbl hbA hS (vp_in_nI (n := 5) (N := L) (by omega) (by omega)) d_law_410 ?_
      refine hm_top (z := xs 5) (by rw [nI_clamp (by omega)]) ?_
      refine lv_aload_n hx hb d_law_411 rfl (lv_at hl 3 rfl) ?_
      refine lv_iload_n hx hb d_law_412 rfl (lv_at hl 0 rfl) ?_
      refine lv_iconst (v := 2) hx hb d_law_413 (by decide) ?_
      refine lv_iadd hx hb d_law_414 ?_
      refine hm_top (z := nI 6) (by decide) ?_
      refine va_sld hx hb hX hbl hbA hS (vp_in_nI (n := 6) (N := L) (by omega) (by omega)) d_law_415 ?_
      refine hm_top (z := xs 6) (by rw [nI_clamp (by omega)]) ?_
      refine hm_calli hS hM hA (va_runV (As := [.int (xs 5), .int (xs 6)]) (rest := [.int (-2)]) X (m_c_revoke_no l D k f37 q20 adM (y0.toInt64) (mo_v0 y1 y2 y3) (fun _ _ => 0) (xs 5) (xs 6) hmo (show (-1 : Int32) < 0 by decide) H.size) (hm_cwV hts me_GrantServerModel_revoke wl_GrantServerLaw_49 rfl rfl ⟨Nat.le_of_ble_eq_true rfl, Nat.le_of_ble_eq_true rfl⟩) (hm_preV hM hK hmo.1 rfl) rfl rfl hl.1 rfl (lv_room (Nat.le_of_ble_eq_true rfl)) d_law_416 ⟨Nat.le_of_ble_eq_true rfl, Nat.le_of_ble_eq_true rfl⟩) (fun r51 f49 H locs p50 hM hS => ?_)
      obtain ⟨rfl, rfl⟩ := p50
      refine lv_icmp_eq (tgt := 749) hx hb d_law_419 (by decide) (fun h52 => ?_) (fun h52 => ?_)
      · refine lv_iinc (lv' := [(3, .int (nI 10)), (2, .ref q20), (1, .ref q1), (0, .ref b)]) hx hb d_law_749 hl (k := 0) rfl (by decide) (by decide) rfl (fun ls hl => ?_)
        refine lv_goto (tgt := 58) hx hb d_law_752 (by decide) ?_
        refine lv_iload_n hx hb d_law_58 rfl (lv_at hl 0 rfl) ?_
        refine lv_aload_n hx hb d_law_59 rfl (lv_at hl 3 rfl) ?_
        refine va_slen hx hb hX hbl hbA hS d_law_60 ?_
        refine hm_top (z := nI L) rfl ?_
        refine lv_bipush (v := 6) hx hb d_law_61 (by decide) ?_
        refine lv_isub hx hb d_law_63 ?_
        refine lv_icmp_gt (tgt := 755) hx hb d_law_64 (by decide) (fun h53 => ?_) (fun h53 => ?_)
        · refine lv_iconst (v := 1) hx hb d_law_755 (by decide) ?_
          refine va_forget (fun q hq => hAe _ (hS.2.2 q hq)) ?_
          refine W.widen (k := 600000) (n := 7302250) (Nat.le_of_ble_eq_true rfl) (Nat.le_of_ble_eq_true rfl) ?_
          exact lw_ret hx hb hr hlk d_law_756
        · exact absurd ((lw_cmp (i := 10) (by omega) (by decide)).mpr (by omega)) h53
      · exact absurd rfl h52
    by_cases h46 : sw = 6
    · refine lv_tableIn (tgt := 424) hx hb d_law_73 (by rw [h46]; decide) (by rw [h46]; decide) (by rw [h46]; rfl) (by decide) ?_
      refine lv_aload_n hx hb d_law_424 rfl (lv_at hl 2 rfl) ?_
      refine lv_aload_n hx hb d_law_425 rfl (lv_at hl 3 rfl) ?_
      refine lv_iload_n hx hb d_law_426 rfl (lv_at hl 0 rfl) ?_
      refine lv_iconst (v := 1) hx hb d_law_427 (by decide) ?_
      refine lv_iadd hx hb d_law_428 ?_
      refine hm_top (z := nI 5) (by decide) ?_
      refine va_sld hx hb hX hbl hbA hS (vp_in_nI (n := 5) (N := L) (by omega) (by omega)) d_law_429 ?_
      refine hm_top (z := xs 5) (by rw [nI_clamp (by omega)]) ?_
      refine lv_aload_n hx hb d_law_430 rfl (lv_at hl 3 rfl) ?_
      refine lv_iload_n hx hb d_law_431 rfl (lv_at hl 0 rfl) ?_
      refine lv_iconst (v := 2) hx hb d_law_432 (by decide) ?_
      refine lv_iadd hx hb d_law_433 ?_
      refine hm_top (z := nI 6) (by decide) ?_
      refine va_sld hx hb hX hbl hbA hS (vp_in_nI (n := 6) (N := L) (by omega) (by omega)) d_law_434 ?_
      refine hm_top (z := xs 6) (by rw [nI_clamp (by omega)]) ?_
      by_cases h47 : (xs 5) = 0
      · refine hm_calli hS hM hA (va_runV (As := [.int (xs 5), .int (xs 6)]) (rest := []) X (c_active_no0 l D k f37 q1 (gs_u0 y1 y2 y3) adC (fun _ => 0) g9 (fun _ _ _ => 0) (fun _ _ => none) (xs 5) (xs 6) hgs.1 (hgs.2.2.1 0 (by decide)) (hgs.2.2.2.1 0 (by decide)) h47 (Nat.zero_le _) (fun i h9 => absurd h9 (Nat.not_lt_zero _)) rfl H.size) (hm_cwV hts me_GrantServer_active wl_GrantServerLaw_50 rfl rfl ⟨Nat.le_of_ble_eq_true rfl, Nat.le_of_ble_eq_true rfl⟩) (hm_preV hM hK hgs.1 rfl) rfl rfl hl.1 rfl (lv_room (Nat.le_of_ble_eq_true rfl)) d_law_435 ⟨Nat.le_of_ble_eq_true rfl, Nat.le_of_ble_eq_true rfl⟩) (fun r50 f48 H locs p49 hM hS => ?_)
        obtain ⟨rfl, rfl⟩ := p49
        refine lv_aload_n hx hb d_law_438 rfl (lv_at hl 1 rfl) ?_
        refine lv_aload_n hx hb d_law_439 rfl (lv_at hl 3 rfl) ?_
        refine lv_iload_n hx hb d_law_440 rfl (lv_at hl 0 rfl) ?_
        refine lv_iconst (v := 1) hx hb d_law_441 (by decide) ?_
        refine lv_iadd hx hb d_law_442 ?_
        refine hm_top (z := nI 5) (by decide) ?_
        refine va_sld hx hb hX hbl hbA hS (vp_in_nI (n := 5) (N := L) (by omega) (by omega)) d_law_443 ?_
        refine hm_top (z := xs 5) (by rw [nI_clamp (by omega)]) ?_
        refine lv_aload_n hx hb d_law_444 rfl (lv_at hl 3 rfl) ?_
        refine lv_iload_n hx hb d_law_445 rfl (lv_at hl 0 rfl) ?_
        refine lv_iconst (v := 2) hx hb d_law_446 (by decide) ?_
        refine lv_iadd hx hb d_law_447 ?_
        refine hm_top (z := nI 6) (by decide) ?_
        refine va_sld hx hb hX hbl hbA hS (vp_in_nI (n := 6) (N := L) (by omega) (by omega)) d_law_448 ?_
        refine hm_top (z := xs 6) (by rw [nI_clamp (by omega)]) ?_
        refine hm_calli hS hM hA (va_runV (As := [.int (xs 5), .int (xs 6)]) (rest := [.int 0]) X (m_c_active_no l D k f37 q20 adM (y0.toInt64) (mo_v0 y1 y2 y3) (fun _ _ => 0) (xs 5) (xs 6) hmo (by rw [h47]; decide) (by rw [h47]; decide) (by show m_findF (fun _ => 0) _ _ _ < 0; rw [m_findF0]; decide) H.size) (hm_cwV hts me_GrantServerModel_active wl_GrantServerLaw_53 rfl rfl ⟨Nat.le_of_ble_eq_true rfl, Nat.le_of_ble_eq_true rfl⟩) (hm_preV hM hK hmo.1 rfl) rfl rfl hl.1 rfl (lv_room (Nat.le_of_ble_eq_true rfl)) d_law_449 ⟨Nat.le_of_ble_eq_true rfl, Nat.le_of_ble_eq_true rfl⟩) (fun r53 f51 H locs p52 hM hS => ?_)
        obtain ⟨rfl, rfl⟩ := p52
        refine lv_icmp_eq (tgt := 749) hx hb d_law_452 (by decide) (fun h54 => ?_) (fun h54 => ?_)
        · refine lv_iinc (lv' := [(3, .int (nI 10)), (2, .ref q20), (1, .ref q1), (0, .ref b)]) hx hb d_law_749 hl (k := 0) rfl (by decide) (by decide) rfl (fun ls hl => ?_)
          refine lv_goto (tgt := 58) hx hb d_law_752 (by decide) ?_
          refine lv_iload_n hx hb d_law_58 rfl (lv_at hl 0 rfl) ?_
          refine lv_aload_n hx hb d_law_59 rfl (lv_at hl 3 rfl) ?_
          refine va_slen hx hb hX hbl hbA hS d_law_60 ?_
          refine hm_top (z := nI L) rfl ?_
          refine lv_bipush (v := 6) hx hb d_law_61 (by decide) ?_
          refine lv_isub hx hb d_law_63 ?_
          refine lv_icmp_gt (tgt := 755) hx hb d_law_64 (by decide) (fun h55 => ?_) (fun h55 => ?_)
          · refine lv_iconst (v := 1) hx hb d_law_755 (by decide) ?_
            refine va_forget (fun q hq => hAe _ (hS.2.2 q hq)) ?_
            refine W.widen (k := 600000) (n := 7302250) (Nat.le_of_ble_eq_true rfl) (Nat.le_of_ble_eq_true rfl) ?_
            exact lw_ret hx hb hr hlk d_law_756
          · exact absurd ((lw_cmp (i := 10) (by omega) (by decide)).mpr (by omega)) h55
        · exact absurd rfl h54
      · by_cases h48 : (xs 5) = 1
        · refine hm_calli hS hM hA (va_runV (As := [.int (xs 5), .int (xs 6)]) (rest := []) X (c_active_no1 l D k f37 q1 (gs_u0 y1 y2 y3) adC (fun _ => 0) g9 (fun _ _ _ => 0) (fun _ _ => none) (xs 5) (xs 6) hgs.1 (hgs.2.2.1 1 (by decide)) (hgs.2.2.2.1 1 (by decide)) h48 (Nat.zero_le _) (fun i h9 => absurd h9 (Nat.not_lt_zero _)) rfl H.size) (hm_cwV hts me_GrantServer_active wl_GrantServerLaw_50 rfl rfl ⟨Nat.le_of_ble_eq_true rfl, Nat.le_of_ble_eq_true rfl⟩) (hm_preV hM hK hgs.1 rfl) rfl rfl hl.1 rfl (lv_room (Nat.le_of_ble_eq_true rfl)) d_law_435 ⟨Nat.le_of_ble_eq_true rfl, Nat.le_of_ble_eq_true rfl⟩) (fun r51 f49 H locs p50 hM hS => ?_)
          obtain ⟨rfl, rfl⟩ := p50
          refine lv_aload_n hx hb d_law_438 rfl (lv_at hl 1 rfl) ?_
          refine lv_aload_n hx hb d_law_439 rfl (lv_at hl 3 rfl) ?_
          refine lv_iload_n hx hb d_law_440 rfl (lv_at hl 0 rfl) ?_
          refine lv_iconst (v := 1) hx hb d_law_441 (by decide) ?_
          refine lv_iadd hx hb d_law_442 ?_
          refine hm_top (z := nI 5) (by decide) ?_
          refine va_sld hx hb hX hbl hbA hS (vp_in_nI (n := 5) (N := L) (by omega) (by omega)) d_law_443 ?_
          refine hm_top (z := xs 5) (by rw [nI_clamp (by omega)]) ?_
          refine lv_aload_n hx hb d_law_444 rfl (lv_at hl 3 rfl) ?_
          refine lv_iload_n hx hb d_law_445 rfl (lv_at hl 0 rfl) ?_
          refine lv_iconst (v := 2) hx hb d_law_446 (by decide) ?_
          refine lv_iadd hx hb d_law_447 ?_
          refine hm_top (z := nI 6) (by decide) ?_
          refine va_sld hx hb hX hbl hbA hS (vp_in_nI (n := 6) (N := L) (by omega) (by omega)) d_law_448 ?_
          refine hm_top (z := xs 6) (by rw [nI_clamp (by omega)]) ?_
          refine hm_calli hS hM hA (va_runV (As := [.int (xs 5), .int (xs 6)]) (rest := [.int 0]) X (m_c_active_no l D k f37 q20 adM (y0.toInt64) (mo_v0 y1 y2 y3) (fun _ _ => 0) (xs 5) (xs 6) hmo (by rw [h48]; decide) (by rw [h48]; decide) (by show m_findF (fun _ => 0) _ _ _ < 0; rw [m_findF0]; decide) H.size) (hm_cwV hts me_GrantServerModel_active wl_GrantServerLaw_53 rfl rfl ⟨Nat.le_of_ble_eq_true rfl, Nat.le_of_ble_eq_true rfl⟩) (hm_preV hM hK hmo.1 rfl) rfl rfl hl.1 rfl (lv_room (Nat.le_of_ble_eq_true rfl)) d_law_449 ⟨Nat.le_of_ble_eq_true rfl, Nat.le_of_ble_eq_true rfl⟩) (fun r54 f52 H locs p53 hM hS => ?_)
          obtain ⟨rfl, rfl⟩ := p53
          refine lv_icmp_eq (tgt := 749) hx hb d_law_452 (by decide) (fun h55 => ?_) (fun h55 => ?_)
          · refine lv_iinc (lv' := [(3, .int (nI 10)), (2, .ref q20), (1, .ref q1), (0, .ref b)]) hx hb d_law_749 hl (k := 0) rfl (by decide) (by decide) rfl (fun ls hl => ?_)
            refine lv_goto (tgt := 58) hx hb d_law_752 (by decide) ?_
            refine lv_iload_n hx hb d_law_58 rfl (lv_at hl 0 rfl) ?_
            refine lv_aload_n hx hb d_law_59 rfl (lv_at hl 3 rfl) ?_
            refine va_slen hx hb hX hbl hbA hS d_law_60 ?_
            refine hm_top (z := nI L) rfl ?_
            refine lv_bipush (v := 6) hx hb d_law_61 (by decide) ?_
            refine lv_isub hx hb d_law_63 ?_
            refine lv_icmp_gt (tgt := 755) hx hb d_law_64 (by decide) (fun h56 => ?_) (fun h56 => ?_)
            · refine lv_iconst (v := 1) hx hb d_law_755 (by decide) ?_
              refine va_forget (fun q hq => hAe _ (hS.2.2 q hq)) ?_
              refine W.widen (k := 600000) (n := 7302250) (Nat.le_of_ble_eq_true rfl) (Nat.le_of_ble_eq_true rfl) ?_
              exact lw_ret hx hb hr hlk d_law_756
            · exact absurd ((lw_cmp (i := 10) (by omega) (by decide)).mpr (by omega)) h56
          · exact absurd rfl h55
        · by_cases h49 : (xs 5) = 2
          · refine hm_calli hS hM hA (va_runV (As := [.int (xs 5), .int (xs 6)]) (rest := []) X (c_active_no2 l D k f37 q1 (gs_u0 y1 y2 y3) adC (fun _ => 0) g9 (fun _ _ _ => 0) (fun _ _ => none) (xs 5) (xs 6) hgs.1 (hgs.2.2.1 2 (by decide)) (hgs.2.2.2.1 2 (by decide)) h49 (Nat.zero_le _) (fun i h9 => absurd h9 (Nat.not_lt_zero _)) rfl H.size) (hm_cwV hts me_GrantServer_active wl_GrantServerLaw_50 rfl rfl ⟨Nat.le_of_ble_eq_true rfl, Nat.le_of_ble_eq_true rfl⟩) (hm_preV hM hK hgs.1 rfl) rfl rfl hl.1 rfl (lv_room (Nat.le_of_ble_eq_true rfl)) d_law_435 ⟨Nat.le_of_ble_eq_true rfl, Nat.le_of_ble_eq_true rfl⟩) (fun r52 f50 H locs p51 hM hS => ?_)
            obtain ⟨rfl, rfl⟩ := p51
            refine lv_aload_n hx hb d_law_438 rfl (lv_at hl 1 rfl) ?_
            refine lv_aload_n hx hb d_law_439 rfl (lv_at hl 3 rfl) ?_
            refine lv_iload_n hx hb d_law_440 rfl (lv_at hl 0 rfl) ?_
            refine lv_iconst (v := 1) hx hb d_law_441 (by decide) ?_
            refine lv_iadd hx hb d_law_442 ?_
            refine hm_top (z := nI 5) (by decide) ?_
            refine va_sld hx hb hX hbl hbA hS (vp_in_nI (n := 5) (N := L) (by omega) (by omega)) d_law_443 ?_
            refine hm_top (z := xs 5) (by rw [nI_clamp (by omega)]) ?_
            refine lv_aload_n hx hb d_law_444 rfl (lv_at hl 3 rfl) ?_
            refine lv_iload_n hx hb d_law_445 rfl (lv_at hl 0 rfl) ?_
            refine lv_iconst (v := 2) hx hb d_law_446 (by decide) ?_
            refine lv_iadd hx hb d_law_447 ?_
            refine hm_top (z := nI 6) (by decide) ?_
            refine va_sld hx hb hX hbl hbA hS (vp_in_nI (n := 6) (N := L) (by omega) (by omega)) d_law_448 ?_
            refine hm_top (z := xs 6) (by rw [nI_clamp (by omega)]) ?_
            refine hm_calli hS hM hA (va_runV (As := [.int (xs 5), .int (xs 6)]) (rest := [.int 0]) X (m_c_active_no l D k f37 q20 adM (y0.toInt64) (mo_v0 y1 y2 y3) (fun _ _ => 0) (xs 5) (xs 6) hmo (by rw [h49]; decide) (by rw [h49]; decide) (by show m_findF (fun _ => 0) _ _ _ < 0; rw [m_findF0]; decide) H.size) (hm_cwV hts me_GrantServerModel_active wl_GrantServerLaw_53 rfl rfl ⟨Nat.le_of_ble_eq_true rfl, Nat.le_of_ble_eq_true rfl⟩) (hm_preV hM hK hmo.1 rfl) rfl rfl hl.1 rfl (lv_room (Nat.le_of_ble_eq_true rfl)) d_law_449 ⟨Nat.le_of_ble_eq_true rfl, Nat.le_of_ble_eq_true rfl⟩) (fun r55 f53 H locs p54 hM hS => ?_)
            obtain ⟨rfl, rfl⟩ := p54
            refine lv_icmp_eq (tgt := 749) hx hb d_law_452 (by decide) (fun h56 => ?_) (fun h56 => ?_)
            · refine lv_iinc (lv' := [(3, .int (nI 10)), (2, .ref q20), (1, .ref q1), (0, .ref b)]) hx hb d_law_749 hl (k := 0) rfl (by decide) (by decide) rfl (fun ls hl => ?_)
              refine lv_goto (tgt := 58) hx hb d_law_752 (by decide) ?_
              refine lv_iload_n hx hb d_law_58 rfl (lv_at hl 0 rfl) ?_
              refine lv_aload_n hx hb d_law_59 rfl (lv_at hl 3 rfl) ?_
              refine va_slen hx hb hX hbl hbA hS d_law_60 ?_
              refine hm_top (z := nI L) rfl ?_
              refine lv_bipush (v := 6) hx hb d_law_61 (by decide) ?_
              refine lv_isub hx hb d_law_63 ?_
              refine lv_icmp_gt (tgt := 755) hx hb d_law_64 (by decide) (fun h57 => ?_) (fun h57 => ?_)
              · refine lv_iconst (v := 1) hx hb d_law_755 (by decide) ?_
                refine va_forget (fun q hq => hAe _ (hS.2.2 q hq)) ?_
                refine W.widen (k := 600000) (n := 7302250) (Nat.le_of_ble_eq_true rfl) (Nat.le_of_ble_eq_true rfl) ?_
                exact lw_ret hx hb hr hlk d_law_756
              · exact absurd ((lw_cmp (i := 10) (by omega) (by decide)).mpr (by omega)) h57
            · exact absurd rfl h56
          · refine hm_calli hS hM hA (va_runV (As := [.int (xs 5), .int (xs 6)]) (rest := []) X (c_active_out l D k f37 q1 (gs_u0 y1 y2 y3) adC (xs 5) (xs 6) hgs.1 ⟨h47, h48, h49⟩ H.size) (hm_cwV hts me_GrantServer_active wl_GrantServerLaw_50 rfl rfl ⟨Nat.le_of_ble_eq_true rfl, Nat.le_of_ble_eq_true rfl⟩) (hm_preV hM hK hgs.1 rfl) rfl rfl hl.1 rfl (lv_room (Nat.le_of_ble_eq_true rfl)) d_law_435 ⟨Nat.le_of_ble_eq_true rfl, Nat.le_of_ble_eq_true rfl⟩) (fun r52 f50 H locs p51 hM hS => ?_)
            obtain ⟨rfl, rfl⟩ := p51
            refine lv_aload_n hx hb d_law_438 rfl (lv_at hl 1 rfl) ?_
            refine lv_aload_n hx hb d_law_439 rfl (lv_at hl 3 rfl) ?_
            refine lv_iload_n hx hb d_law_440 rfl (lv_at hl 0 rfl) ?_
            refine lv_iconst (v := 1) hx hb d_law_441 (by decide) ?_
            refine lv_iadd hx hb d_law_442 ?_
            refine hm_top (z := nI 5) (by decide) ?_
            refine va_sld hx hb hX hbl hbA hS (vp_in_nI (n := 5) (N := L) (by omega) (by omega)) d_law_443 ?_
            refine hm_top (z := xs 5) (by rw [nI_clamp (by omega)]) ?_
            refine lv_aload_n hx hb d_law_444 rfl (lv_at hl 3 rfl) ?_
            refine lv_iload_n hx hb d_law_445 rfl (lv_at hl 0 rfl) ?_
            refine lv_iconst (v := 2) hx hb d_law_446 (by decide) ?_
            refine lv_iadd hx hb d_law_447 ?_
            refine hm_top (z := nI 6) (by decide) ?_
            refine va_sld hx hb hX hbl hbA hS (vp_in_nI (n := 6) (N := L) (by omega) (by omega)) d_law_448 ?_
            refine hm_top (z := xs 6) (by rw [nI_clamp (by omega)]) ?_
            refine hm_calli hS hM hA (va_runV (As := [.int (xs 5), .int (xs 6)]) (rest := [.int 0]) X (m_c_active_out l D k f37 q20 adM (y0.toInt64) (mo_v0 y1 y2 y3) (fun _ _ => 0) (xs 5) (xs 6) hmo (lw_out h47 h48 h49) H.size) (hm_cwV hts me_GrantServerModel_active wl_GrantServerLaw_53 rfl rfl ⟨Nat.le_of_ble_eq_true rfl, Nat.le_of_ble_eq_true rfl⟩) (hm_preV hM hK hmo.1 rfl) rfl rfl hl.1 rfl (lv_room (Nat.le_of_ble_eq_true rfl)) d_law_449 ⟨Nat.le_of_ble_eq_true rfl, Nat.le_of_ble_eq_true rfl⟩) (fun r55 f53 H locs p54 hM hS => ?_)
            obtain ⟨rfl, rfl⟩ := p54
            refine lv_icmp_eq (tgt := 749) hx hb d_law_452 (by decide) (fun h56 => ?_) (fun h56 => ?_)
            · refine lv_iinc (lv' := [(3, .int (nI 10)), (2, .ref q20), (1, .ref q1), (0, .ref b)]) hx hb d_law_749 hl (k := 0) rfl (by decide) (by decide) rfl (fun ls hl => ?_)
              refine lv_goto (tgt := 58) hx hb d_law_752 (by decide) ?_
              refine lv_iload_n hx hb d_law_58 rfl (lv_at hl 0 rfl) ?_
              refine lv_aload_n hx hb d_law_59 rfl (lv_at hl 3 rfl) ?_
              refine va_slen hx hb hX hbl hbA hS d_law_60 ?_
              refine hm_top (z := nI L) rfl ?_
              refine lv_bipush (v := 6) hx hb d_law_61 (by decide) ?_
              refine lv_isub hx hb d_law_63 ?_
              refine lv_icmp_gt (tgt := 755) hx hb d_law_64 (by decide) (fun h57 => ?_) (fun h57 => ?_)
              · refine lv_iconst (v := 1) hx hb d_law_755 (by decide) ?_
                refine va_forget (fun q hq => hAe _ (hS.2.2 q hq)) ?_
                refine W.widen (k := 600000) (n := 7302250) (Nat.le_of_ble_eq_true rfl) (Nat.le_of_ble_eq_true rfl) ?_
                exact lw_ret hx hb hr hlk d_law_756
              · exact absurd ((lw_cmp (i := 10) (by omega) (by decide)).mpr (by omega)) h57
            · exact absurd rfl h56
    by_cases h47 : sw = 7
    · refine lv_tableIn (tgt := 457) hx hb d_law_73 (by rw [h47]; decide) (by rw [h47]; decide) (by rw [h47]; rfl) (by decide) ?_
      refine lv_aload_n hx hb d_law_457 rfl (lv_at hl 2 rfl) ?_
      refine lv_aload_n hx hb d_law_458 rfl (lv_at hl 3 rfl) ?_
      refine lv_iload_n hx hb d_law_459 rfl (lv_at hl 0 rfl) ?_
      refine lv_iconst (v := 1) hx hb d_law_460 (by decide) ?_
      refine lv_iadd hx hb d_law_461 ?_
      refine hm_top (z := nI 5) (by decide) ?_
      refine va_sld hx hb hX hbl hbA hS (vp_in_nI (n := 5) (N := L) (by omega) (by omega)) d_law_462 ?_
      refine hm_top (z := xs 5) (by rw [nI_clamp (by omega)]) ?_
      refine lv_aload_n hx hb d_law_463 rfl (lv_at hl 3 rfl) ?_
      refine lv_iload_n hx hb d_law_464 rfl (lv_at hl 0 rfl) ?_
      refine lv_iconst (v := 2) hx hb d_law_465 (by decide) ?_
      refine lv_iadd hx hb d_law_466 ?_
      refine hm_top (z := nI 6) (by decide) ?_
      refine va_sld hx hb hX hbl hbA hS (vp_in_nI (n := 6) (N := L) (by omega) (by omega)) d_law_467 ?_
      refine hm_top (z := xs 6) (by rw [nI_clamp (by omega)]) ?_
      refine hm_calli hS hM hA (va_runV (As := [.int (xs 5), .int (xs 6)]) (rest := []) X (c_check_short l D k f37 q1 (gs_u0 y1 y2 y3) adC 0 (fun _ => 0) y0 (xs 5) (xs 6) hgs.1 (hgs.2.2.2.2.1 0 (by decide)) (hgs.2.2.2.2.2.1 0 (by decide)) hgs.2.2.2.2.2.2.2.2.2 (by decide) H.size) (hm_cwV hts me_GrantServer_check wl_GrantServerLaw_54 rfl rfl ⟨Nat.le_of_ble_eq_true rfl, Nat.le_of_ble_eq_true rfl⟩) (hm_preV hM hK hgs.1 rfl) rfl rfl hl.1 rfl (lv_room (Nat.le_of_ble_eq_true rfl)) d_law_468 ⟨Nat.le_of_ble_eq_true rfl, Nat.le_of_ble_eq_true rfl⟩) (fun r50 f48 H locs p49 hM hS => ?_)
      obtain ⟨rfl, rfl⟩ := p49
      refine lv_aload_n hx hb d_law_471 rfl (lv_at hl 1 rfl) ?_
      refine lv_aload_n hx hb d_law_472 rfl (lv_at hl 3 rfl) ?_
      refine lv_iload_n hx hb d_law_473 rfl (lv_at hl 0 rfl) ?_
      refine lv_iconst (v := 1) hx hb d_law_474 (by decide) ?_
      refine lv_iadd hx hb d_law_475 ?_
      refine hm_top (z := nI 5) (by decide) ?_
      refine va_sld hx hb hX hbl hbA hS (vp_in_nI (n := 5) (N := L) (by omega) (by omega)) d_law_476 ?_
      refine hm_top (z := xs 5) (by rw [nI_clamp (by omega)]) ?_
      refine lv_aload_n hx hb d_law_477 rfl (lv_at hl 3 rfl) ?_
      refine lv_iload_n hx hb d_law_478 rfl (lv_at hl 0 rfl) ?_
      refine lv_iconst (v := 2) hx hb d_law_479 (by decide) ?_
      refine lv_iadd hx hb d_law_480 ?_
      refine hm_top (z := nI 6) (by decide) ?_
      refine va_sld hx hb hX hbl hbA hS (vp_in_nI (n := 6) (N := L) (by omega) (by omega)) d_law_481 ?_
      refine hm_top (z := xs 6) (by rw [nI_clamp (by omega)]) ?_
      refine hm_calli hS hM hA (va_runV (As := [.int (xs 5), .int (xs 6)]) (rest := [.int (-7)]) X (m_c_check_short l D k f37 q20 adM (y0.toInt64) (mo_v0 y1 y2 y3) (fun _ _ => 0) (xs 5) (xs 6) 0 hmo rfl (by decide) H.size) (hm_cwV hts me_GrantServerModel_check wl_GrantServerLaw_57 rfl rfl ⟨Nat.le_of_ble_eq_true rfl, Nat.le_of_ble_eq_true rfl⟩) (hm_preV hM hK hmo.1 rfl) rfl rfl hl.1 rfl (lv_room (Nat.le_of_ble_eq_true rfl)) d_law_482 ⟨Nat.le_of_ble_eq_true rfl, Nat.le_of_ble_eq_true rfl⟩) (fun r53 f51 H locs p52 hM hS => ?_)
      obtain ⟨rfl, rfl⟩ := p52
      refine lv_icmp_eq (tgt := 749) hx hb d_law_485 (by decide) (fun h54 => ?_) (fun h54 => ?_)
      · refine lv_iinc (lv' := [(3, .int (nI 10)), (2, .ref q20), (1, .ref q1), (0, .ref b)]) hx hb d_law_749 hl (k := 0) rfl (by decide) (by decide) rfl (fun ls hl => ?_)
        refine lv_goto (tgt := 58) hx hb d_law_752 (by decide) ?_
        refine lv_iload_n hx hb d_law_58 rfl (lv_at hl 0 rfl) ?_
        refine lv_aload_n hx hb d_law_59 rfl (lv_at hl 3 rfl) ?_
        refine va_slen hx hb hX hbl hbA hS d_law_60 ?_
        refine hm_top (z := nI L) rfl ?_
        refine lv_bipush (v := 6) hx hb d_law_61 (by decide) ?_
        refine lv_isub hx hb d_law_63 ?_
        refine lv_icmp_gt (tgt := 755) hx hb d_law_64 (by decide) (fun h55 => ?_) (fun h55 => ?_)
        · refine lv_iconst (v := 1) hx hb d_law_755 (by decide) ?_
          refine va_forget (fun q hq => hAe _ (hS.2.2 q hq)) ?_
          refine W.widen (k := 600000) (n := 7302250) (Nat.le_of_ble_eq_true rfl) (Nat.le_of_ble_eq_true rfl) ?_
          exact lw_ret hx hb hr hlk d_law_756
        · exact absurd ((lw_cmp (i := 10) (by omega) (by decide)).mpr (by omega)) h55
      · exact absurd rfl h54
    by_cases h48 : sw = 8
    · refine lv_tableIn (tgt := 490) hx hb d_law_73 (by rw [h48]; decide) (by rw [h48]; decide) (by rw [h48]; rfl) (by decide) ?_
      refine lv_aload_n hx hb d_law_490 rfl (lv_at hl 2 rfl) ?_
      refine lv_aload_n hx hb d_law_491 rfl (lv_at hl 3 rfl) ?_
      refine lv_iload_n hx hb d_law_492 rfl (lv_at hl 0 rfl) ?_
      refine lv_iconst (v := 1) hx hb d_law_493 (by decide) ?_
      refine lv_iadd hx hb d_law_494 ?_
      refine hm_top (z := nI 5) (by decide) ?_
      refine va_sld hx hb hX hbl hbA hS (vp_in_nI (n := 5) (N := L) (by omega) (by omega)) d_law_495 ?_
      refine hm_top (z := xs 5) (by rw [nI_clamp (by omega)]) ?_
      refine lv_i2c hx hb d_law_496 rfl ?_
      by_cases h49 : z_text (((xs 5).toUInt32 % 65536).toInt32) = 0
      · refine hm_calli hS hM hA (va_runV (As := [.int (((xs 5).toUInt32 % 65536).toInt32)]) (rest := []) X (c_key_no l D k f37 q1 (gs_u0 y1 y2 y3) adC (((xs 5).toUInt32 % 65536).toInt32)  h49 H.size) (hm_cwV hts me_GrantServer_key wl_GrantServerLaw_58 rfl rfl ⟨Nat.le_of_ble_eq_true rfl, Nat.le_of_ble_eq_true rfl⟩) (hm_preV hM hK hgs.1 rfl) rfl rfl hl.1 rfl (lv_room (Nat.le_of_ble_eq_true rfl)) d_law_497 ⟨Nat.le_of_ble_eq_true rfl, Nat.le_of_ble_eq_true rfl⟩) (fun r52 f50 H locs p51 hM hS => ?_)
        obtain ⟨rfl, rfl⟩ := p51
        refine lv_aload_n hx hb d_law_500 rfl (lv_at hl 1 rfl) ?_
        refine lv_aload_n hx hb d_law_501 rfl (lv_at hl 3 rfl) ?_
        refine lv_iload_n hx hb d_law_502 rfl (lv_at hl 0 rfl) ?_
        refine lv_iconst (v := 1) hx hb d_law_503 (by decide) ?_
        refine lv_iadd hx hb d_law_504 ?_
        refine hm_top (z := nI 5) (by decide) ?_
        refine va_sld hx hb hX hbl hbA hS (vp_in_nI (n := 5) (N := L) (by omega) (by omega)) d_law_505 ?_
        refine hm_top (z := xs 5) (by rw [nI_clamp (by omega)]) ?_
        refine lv_i2c hx hb d_law_506 rfl ?_
        refine hm_calli hS hM hA (va_runV (As := [.int (((xs 5).toUInt32 % 65536).toInt32)]) (rest := [.int 0]) X (m_c_key_no l D k f37 q20 adM (y0.toInt64) (mo_v0 y1 y2 y3) (fun _ _ => 0) (((xs 5).toUInt32 % 65536).toInt32) 0 hmo rfl (by decide) (Or.inl h49) H.size) (hm_cwV hts me_GrantServerModel_key wl_GrantServerLaw_62 rfl rfl ⟨Nat.le_of_ble_eq_true rfl, Nat.le_of_ble_eq_true rfl⟩) (hm_preV hM hK hmo.1 rfl) rfl rfl hl.1 rfl (lv_room (Nat.le_of_ble_eq_true rfl)) d_law_507 ⟨Nat.le_of_ble_eq_true rfl, Nat.le_of_ble_eq_true rfl⟩) (fun r55 f53 H locs p54 hM hS => ?_)
        obtain ⟨rfl, rfl⟩ := p54
        refine lv_icmp_eq (tgt := 749) hx hb d_law_510 (by decide) (fun h56 => ?_) (fun h56 => ?_)
        · refine lv_iinc (lv' := [(3, .int (nI 10)), (2, .ref q20), (1, .ref q1), (0, .ref b)]) hx hb d_law_749 hl (k := 0) rfl (by decide) (by decide) rfl (fun ls hl => ?_)
          refine lv_goto (tgt := 58) hx hb d_law_752 (by decide) ?_
          refine lv_iload_n hx hb d_law_58 rfl (lv_at hl 0 rfl) ?_
          refine lv_aload_n hx hb d_law_59 rfl (lv_at hl 3 rfl) ?_
          refine va_slen hx hb hX hbl hbA hS d_law_60 ?_
          refine hm_top (z := nI L) rfl ?_
          refine lv_bipush (v := 6) hx hb d_law_61 (by decide) ?_
          refine lv_isub hx hb d_law_63 ?_
          refine lv_icmp_gt (tgt := 755) hx hb d_law_64 (by decide) (fun h57 => ?_) (fun h57 => ?_)
          · refine lv_iconst (v := 1) hx hb d_law_755 (by decide) ?_
            refine va_forget (fun q hq => hAe _ (hS.2.2 q hq)) ?_
            refine W.widen (k := 600000) (n := 7302250) (Nat.le_of_ble_eq_true rfl) (Nat.le_of_ble_eq_true rfl) ?_
            exact lw_ret hx hb hr hlk d_law_756
          · exact absurd ((lw_cmp (i := 10) (by omega) (by decide)).mpr (by omega)) h57
        · exact absurd rfl h56
      · refine hm_calli hS hM hA (va_runV (As := [.int (((xs 5).toUInt32 % 65536).toInt32)]) (rest := []) X (c_key l D k f37 q1 (gs_u0 y1 y2 y3) adC 0 (fun _ => 0) (((xs 5).toUInt32 % 65536).toInt32) hgs.1 (hgs.2.2.2.2.1 0 (by decide)) (hgs.2.2.2.2.2.1 0 (by decide)) h49 (by decide) (pk_vc _) H.size) (hm_cwV hts me_GrantServer_key wl_GrantServerLaw_58 rfl rfl ⟨Nat.le_of_ble_eq_true rfl, Nat.le_of_ble_eq_true rfl⟩) (hm_preV hM hK hgs.1 rfl) rfl rfl hl.1 rfl (lv_room (Nat.le_of_ble_eq_true rfl)) d_law_497 ⟨Nat.le_of_ble_eq_true rfl, Nat.le_of_ble_eq_true rfl⟩) (fun r52 f50 H locs p51 hM hS => ?_)
        obtain ⟨rfl, g53, g54, hfr55⟩ := p51
        have hmo := hmo.keep (fun zq zx ho hq => hfr55 _ _ (fun z => hdj _ _ (hgs0.2.2.2.2.1 0 (by decide)) (z ▸ ho)) (fun z => hdj _ _ (hgs0.2.2.2.2.2.1 0 (by decide)) (z ▸ ho)) hq)
        refine lv_aload_n hx hb d_law_500 rfl (lv_at hl 1 rfl) ?_
        refine lv_aload_n hx hb d_law_501 rfl (lv_at hl 3 rfl) ?_
        refine lv_iload_n hx hb d_law_502 rfl (lv_at hl 0 rfl) ?_
        refine lv_iconst (v := 1) hx hb d_law_503 (by decide) ?_
        refine lv_iadd hx hb d_law_504 ?_
        refine hm_top (z := nI 5) (by decide) ?_
        refine va_sld hx hb hX hbl hbA hS (vp_in_nI (n := 5) (N := L) (by omega) (by omega)) d_law_505 ?_
        refine hm_top (z := xs 5) (by rw [nI_clamp (by omega)]) ?_
        refine lv_i2c hx hb d_law_506 rfl ?_
        refine hm_calli hS hM hA (va_runV (As := [.int (((xs 5).toUInt32 % 65536).toInt32)]) (rest := [.int 1]) X (m_c_key l D k f50 q20 adM (y0.toInt64) (mo_v0 y1 y2 y3) (fun _ _ => 0) (((xs 5).toUInt32 % 65536).toInt32) 0 hmo rfl (by decide) h49 H.size) (hm_cwV hts me_GrantServerModel_key wl_GrantServerLaw_62 rfl rfl ⟨Nat.le_of_ble_eq_true rfl, Nat.le_of_ble_eq_true rfl⟩) (hm_preV hM hK hmo.1 rfl) rfl rfl hl.1 rfl (lv_room (Nat.le_of_ble_eq_true rfl)) d_law_507 ⟨Nat.le_of_ble_eq_true rfl, Nat.le_of_ble_eq_true rfl⟩) (fun r58 f56 H locs p57 hM hS => ?_)
        obtain ⟨rfl, hmo, hfr59⟩ := p57
        refine lv_icmp_eq (tgt := 749) hx hb d_law_510 (by decide) (fun h60 => ?_) (fun h60 => ?_)
        · refine lv_iinc (lv' := [(3, .int (nI 10)), (2, .ref q20), (1, .ref q1), (0, .ref b)]) hx hb d_law_749 hl (k := 0) rfl (by decide) (by decide) rfl (fun ls hl => ?_)
          refine lv_goto (tgt := 58) hx hb d_law_752 (by decide) ?_
          refine lv_iload_n hx hb d_law_58 rfl (lv_at hl 0 rfl) ?_
          refine lv_aload_n hx hb d_law_59 rfl (lv_at hl 3 rfl) ?_
          refine va_slen hx hb hX hbl hbA hS d_law_60 ?_
          refine hm_top (z := nI L) rfl ?_
          refine lv_bipush (v := 6) hx hb d_law_61 (by decide) ?_
          refine lv_isub hx hb d_law_63 ?_
          refine lv_icmp_gt (tgt := 755) hx hb d_law_64 (by decide) (fun h61 => ?_) (fun h61 => ?_)
          · refine lv_iconst (v := 1) hx hb d_law_755 (by decide) ?_
            refine va_forget (fun q hq => hAe _ (hS.2.2 q hq)) ?_
            refine W.widen (k := 600000) (n := 7302250) (Nat.le_of_ble_eq_true rfl) (Nat.le_of_ble_eq_true rfl) ?_
            exact lw_ret hx hb hr hlk d_law_756
          · exact absurd ((lw_cmp (i := 10) (by omega) (by decide)).mpr (by omega)) h61
        · exact absurd rfl h60
    by_cases h49 : sw = 9
    · refine lv_tableIn (tgt := 515) hx hb d_law_73 (by rw [h49]; decide) (by rw [h49]; decide) (by rw [h49]; rfl) (by decide) ?_
      refine lv_aload_n hx hb d_law_515 rfl (lv_at hl 2 rfl) ?_
      refine lv_aload_n hx hb d_law_516 rfl (lv_at hl 3 rfl) ?_
      refine lv_iload_n hx hb d_law_517 rfl (lv_at hl 0 rfl) ?_
      refine lv_iconst (v := 1) hx hb d_law_518 (by decide) ?_
      refine lv_iadd hx hb d_law_519 ?_
      refine hm_top (z := nI 5) (by decide) ?_
      refine va_sld hx hb hX hbl hbA hS (vp_in_nI (n := 5) (N := L) (by omega) (by omega)) d_law_520 ?_
      refine hm_top (z := xs 5) (by rw [nI_clamp (by omega)]) ?_
      refine lv_aload_n hx hb d_law_521 rfl (lv_at hl 3 rfl) ?_
      refine lv_iload_n hx hb d_law_522 rfl (lv_at hl 0 rfl) ?_
      refine lv_iconst (v := 2) hx hb d_law_523 (by decide) ?_
      refine lv_iadd hx hb d_law_524 ?_
      refine hm_top (z := nI 6) (by decide) ?_
      refine va_sld hx hb hX hbl hbA hS (vp_in_nI (n := 6) (N := L) (by omega) (by omega)) d_law_525 ?_
      refine hm_top (z := xs 6) (by rw [nI_clamp (by omega)]) ?_
      refine lv_i2c hx hb d_law_526 rfl ?_
      by_cases h50 : z_text (((xs 6).toUInt32 % 65536).toInt32) = 0
      · refine hm_calli hS hM hA (va_runV (As := [.int (xs 5), .int (((xs 6).toUInt32 % 65536).toInt32)]) (rest := []) X (c_alter_no l D k f37 q1 (gs_u0 y1 y2 y3) adC (xs 5) (((xs 6).toUInt32 % 65536).toInt32)  h50 H.size) (hm_cwV hts me_GrantServer_alter wl_GrantServerLaw_63 rfl rfl ⟨Nat.le_of_ble_eq_true rfl, Nat.le_of_ble_eq_true rfl⟩) (hm_preV hM hK hgs.1 rfl) rfl rfl hl.1 rfl (lv_room (Nat.le_of_ble_eq_true rfl)) d_law_527 ⟨Nat.le_of_ble_eq_true rfl, Nat.le_of_ble_eq_true rfl⟩) (fun r53 f51 H locs p52 hM hS => ?_)
        obtain ⟨rfl, rfl⟩ := p52
        refine lv_aload_n hx hb d_law_530 rfl (lv_at hl 1 rfl) ?_
        refine lv_aload_n hx hb d_law_531 rfl (lv_at hl 3 rfl) ?_
        refine lv_iload_n hx hb d_law_532 rfl (lv_at hl 0 rfl) ?_
        refine lv_iconst (v := 1) hx hb d_law_533 (by decide) ?_
        refine lv_iadd hx hb d_law_534 ?_
        refine hm_top (z := nI 5) (by decide) ?_
        refine va_sld hx hb hX hbl hbA hS (vp_in_nI (n := 5) (N := L) (by omega) (by omega)) d_law_535 ?_
        refine hm_top (z := xs 5) (by rw [nI_clamp (by omega)]) ?_
        refine lv_aload_n hx hb d_law_536 rfl (lv_at hl 3 rfl) ?_
        refine lv_iload_n hx hb d_law_537 rfl (lv_at hl 0 rfl) ?_
        refine lv_iconst (v := 2) hx hb d_law_538 (by decide) ?_
        refine lv_iadd hx hb d_law_539 ?_
        refine hm_top (z := nI 6) (by decide) ?_
        refine va_sld hx hb hX hbl hbA hS (vp_in_nI (n := 6) (N := L) (by omega) (by omega)) d_law_540 ?_
        refine hm_top (z := xs 6) (by rw [nI_clamp (by omega)]) ?_
        refine lv_i2c hx hb d_law_541 rfl ?_
        refine hm_calli hS hM hA (va_runV (As := [.int (xs 5), .int (((xs 6).toUInt32 % 65536).toInt32)]) (rest := [.int 0]) X (m_c_alter_no l D k f37 q20 adM (y0.toInt64) (mo_v0 y1 y2 y3) (fun _ _ => 0) (xs 5) (((xs 6).toUInt32 % 65536).toInt32) 0 hmo rfl (Or.inl h50) H.size) (hm_cwV hts me_GrantServerModel_alter wl_GrantServerLaw_67 rfl rfl ⟨Nat.le_of_ble_eq_true rfl, Nat.le_of_ble_eq_true rfl⟩) (hm_preV hM hK hmo.1 rfl) rfl rfl hl.1 rfl (lv_room (Nat.le_of_ble_eq_true rfl)) d_law_542 ⟨Nat.le_of_ble_eq_true rfl, Nat.le_of_ble_eq_true rfl⟩) (fun r56 f54 H locs p55 hM hS => ?_)
        obtain ⟨rfl, rfl⟩ := p55
        refine lv_icmp_eq (tgt := 749) hx hb d_law_545 (by decide) (fun h57 => ?_) (fun h57 => ?_)
        · refine lv_iinc (lv' := [(3, .int (nI 10)), (2, .ref q20), (1, .ref q1), (0, .ref b)]) hx hb d_law_749 hl (k := 0) rfl (by decide) (by decide) rfl (fun ls hl => ?_)
          refine lv_goto (tgt := 58) hx hb d_law_752 (by decide) ?_
          refine lv_iload_n hx hb d_law_58 rfl (lv_at hl 0 rfl) ?_
          refine lv_aload_n hx hb d_law_59 rfl (lv_at hl 3 rfl) ?_
          refine va_slen hx hb hX hbl hbA hS d_law_60 ?_
          refine hm_top (z := nI L) rfl ?_
          refine lv_bipush (v := 6) hx hb d_law_61 (by decide) ?_
          refine lv_isub hx hb d_law_63 ?_
          refine lv_icmp_gt (tgt := 755) hx hb d_law_64 (by decide) (fun h58 => ?_) (fun h58 => ?_)
          · refine lv_iconst (v := 1) hx hb d_law_755 (by decide) ?_
            refine va_forget (fun q hq => hAe _ (hS.2.2 q hq)) ?_
            refine W.widen (k := 600000) (n := 7302250) (Nat.le_of_ble_eq_true rfl) (Nat.le_of_ble_eq_true rfl) ?_
            exact lw_ret hx hb hr hlk d_law_756
          · exact absurd ((lw_cmp (i := 10) (by omega) (by decide)).mpr (by omega)) h58
        · exact absurd rfl h57
      · refine hm_calli hS hM hA (va_runV (As := [.int (xs 5), .int (((xs 6).toUInt32 % 65536).toInt32)]) (rest := []) X (c_alter_out l D k f37 q1 (gs_u0 y1 y2 y3) adC 0 (fun _ => 0) (xs 5) (((xs 6).toUInt32 % 65536).toInt32) hgs.1 (hgs.2.2.2.2.1 0 (by decide)) (hgs.2.2.2.2.2.1 0 (by decide)) (lw_nn _) H.size) (hm_cwV hts me_GrantServer_alter wl_GrantServerLaw_63 rfl rfl ⟨Nat.le_of_ble_eq_true rfl, Nat.le_of_ble_eq_true rfl⟩) (hm_preV hM hK hgs.1 rfl) rfl rfl hl.1 rfl (lv_room (Nat.le_of_ble_eq_true rfl)) d_law_527 ⟨Nat.le_of_ble_eq_true rfl, Nat.le_of_ble_eq_true rfl⟩) (fun r53 f51 H locs p52 hM hS => ?_)
        obtain ⟨rfl, rfl⟩ := p52
        refine lv_aload_n hx hb d_law_530 rfl (lv_at hl 1 rfl) ?_
        refine lv_aload_n hx hb d_law_531 rfl (lv_at hl 3 rfl) ?_
        refine lv_iload_n hx hb d_law_532 rfl (lv_at hl 0 rfl) ?_
        refine lv_iconst (v := 1) hx hb d_law_533 (by decide) ?_
        refine lv_iadd hx hb d_law_534 ?_
        refine hm_top (z := nI 5) (by decide) ?_
        refine va_sld hx hb hX hbl hbA hS (vp_in_nI (n := 5) (N := L) (by omega) (by omega)) d_law_535 ?_
        refine hm_top (z := xs 5) (by rw [nI_clamp (by omega)]) ?_
        refine lv_aload_n hx hb d_law_536 rfl (lv_at hl 3 rfl) ?_
        refine lv_iload_n hx hb d_law_537 rfl (lv_at hl 0 rfl) ?_
        refine lv_iconst (v := 2) hx hb d_law_538 (by decide) ?_
        refine lv_iadd hx hb d_law_539 ?_
        refine hm_top (z := nI 6) (by decide) ?_
        refine va_sld hx hb hX hbl hbA hS (vp_in_nI (n := 6) (N := L) (by omega) (by omega)) d_law_540 ?_
        refine hm_top (z := xs 6) (by rw [nI_clamp (by omega)]) ?_
        refine lv_i2c hx hb d_law_541 rfl ?_
        refine hm_calli hS hM hA (va_runV (As := [.int (xs 5), .int (((xs 6).toUInt32 % 65536).toInt32)]) (rest := [.int 0]) X (m_c_alter_no l D k f37 q20 adM (y0.toInt64) (mo_v0 y1 y2 y3) (fun _ _ => 0) (xs 5) (((xs 6).toUInt32 % 65536).toInt32) 0 hmo rfl (Or.inr (lw_nn _)) H.size) (hm_cwV hts me_GrantServerModel_alter wl_GrantServerLaw_67 rfl rfl ⟨Nat.le_of_ble_eq_true rfl, Nat.le_of_ble_eq_true rfl⟩) (hm_preV hM hK hmo.1 rfl) rfl rfl hl.1 rfl (lv_room (Nat.le_of_ble_eq_true rfl)) d_law_542 ⟨Nat.le_of_ble_eq_true rfl, Nat.le_of_ble_eq_true rfl⟩) (fun r56 f54 H locs p55 hM hS => ?_)
        obtain ⟨rfl, rfl⟩ := p55
        refine lv_icmp_eq (tgt := 749) hx hb d_law_545 (by decide) (fun h57 => ?_) (fun h57 => ?_)
        · refine lv_iinc (lv' := [(3, .int (nI 10)), (2, .ref q20), (1, .ref q1), (0, .ref b)]) hx hb d_law_749 hl (k := 0) rfl (by decide) (by decide) rfl (fun ls hl => ?_)
          refine lv_goto (tgt := 58) hx hb d_law_752 (by decide) ?_
          refine lv_iload_n hx hb d_law_58 rfl (lv_at hl 0 rfl) ?_
          refine lv_aload_n hx hb d_law_59 rfl (lv_at hl 3 rfl) ?_
          refine va_slen hx hb hX hbl hbA hS d_law_60 ?_
          refine hm_top (z := nI L) rfl ?_
          refine lv_bipush (v := 6) hx hb d_law_61 (by decide) ?_
          refine lv_isub hx hb d_law_63 ?_
          refine lv_icmp_gt (tgt := 755) hx hb d_law_64 (by decide) (fun h58 => ?_) (fun h58 => ?_)
          · refine lv_iconst (v := 1) hx hb d_law_755 (by decide) ?_
            refine va_forget (fun q hq => hAe _ (hS.2.2 q hq)) ?_
            refine W.widen (k := 600000) (n := 7302250) (Nat.le_of_ble_eq_true rfl) (Nat.le_of_ble_eq_true rfl) ?_
            exact lw_ret hx hb hr hlk d_law_756
          · exact absurd ((lw_cmp (i := 10) (by omega) (by decide)).mpr (by omega)) h58
        · exact absurd rfl h57
    by_cases h50 : sw = 10
    · refine lv_tableIn (tgt := 550) hx hb d_law_73 (by rw [h50]; decide) (by rw [h50]; decide) (by rw [h50]; rfl) (by decide) ?_
      refine lv_aload_n hx hb d_law_550 rfl (lv_at hl 2 rfl) ?_
      refine lv_aload_n hx hb d_law_551 rfl (lv_at hl 3 rfl) ?_
      refine lv_iload_n hx hb d_law_552 rfl (lv_at hl 0 rfl) ?_
      refine lv_iconst (v := 1) hx hb d_law_553 (by decide) ?_
      refine lv_iadd hx hb d_law_554 ?_
      refine hm_top (z := nI 5) (by decide) ?_
      refine va_sld hx hb hX hbl hbA hS (vp_in_nI (n := 5) (N := L) (by omega) (by omega)) d_law_555 ?_
      refine hm_top (z := xs 5) (by rw [nI_clamp (by omega)]) ?_
      refine lv_if_eq (tgt := 563) hx hb d_law_556 (by decide) (fun h51 => ?_) (fun h51 => ?_)
      · refine lv_iconst (v := 0) hx hb d_law_563 (by decide) ?_
        refine hm_calli hS hM hA (va_runV (As := [.int 0]) (rest := []) X (c_take_no l D k f37 q1 (gs_u0 y1 y2 y3) adC 0 (fun _ => 0) 0 hgs.1 (hgs.2.2.2.2.1 0 (by decide)) (hgs.2.2.2.2.2.1 0 (by decide)) rfl H.size) (hm_cwV hts me_GrantServer_take wl_GrantServerLaw_68 rfl rfl ⟨Nat.le_of_ble_eq_true rfl, Nat.le_of_ble_eq_true rfl⟩) (hm_preV hM hK hgs.1 rfl) rfl rfl hl.1 rfl (lv_room (Nat.le_of_ble_eq_true rfl)) d_law_564 ⟨Nat.le_of_ble_eq_true rfl, Nat.le_of_ble_eq_true rfl⟩) (fun r54 f52 H locs p53 hM hS => ?_)
        obtain ⟨rfl, g55, hfr56⟩ := p53
        have hmo := hmo.keep (fun zq zx ho hq => hfr56 _ _ (fun z => hdj _ _ (hgs0.2.2.2.2.1 0 (by decide)) (z ▸ ho)) hq)
        refine lv_aload_n hx hb d_law_567 rfl (lv_at hl 1 rfl) ?_
        refine lv_aload_n hx hb d_law_568 rfl (lv_at hl 3 rfl) ?_
        refine lv_iload_n hx hb d_law_569 rfl (lv_at hl 0 rfl) ?_
        refine lv_iconst (v := 1) hx hb d_law_570 (by decide) ?_
        refine lv_iadd hx hb d_law_571 ?_
        refine hm_top (z := nI 5) (by decide) ?_
        refine va_sld hx hb hX hbl hbA hS (vp_in_nI (n := 5) (N := L) (by omega) (by omega)) d_law_572 ?_
        refine hm_top (z := xs 5) (by rw [nI_clamp (by omega)]) ?_
        refine lv_if_eq (tgt := 580) hx hb d_law_573 (by decide) (fun h57 => ?_) (fun h57 => ?_)
        · refine lv_iconst (v := 0) hx hb d_law_580 (by decide) ?_
          refine hm_calli hS hM hA (va_runV (As := [.int 0]) (rest := [.int 0]) X (m_c_take_no l D k f52 q20 adM (y0.toInt64) (mo_v0 y1 y2 y3) (fun _ _ => 0) 0 0 hmo rfl rfl (by decide) H.size) (hm_cwV hts me_GrantServerModel_take wl_GrantServerLaw_72 rfl rfl ⟨Nat.le_of_ble_eq_true rfl, Nat.le_of_ble_eq_true rfl⟩) (hm_preV hM hK hmo.1 rfl) rfl rfl hl.1 rfl (lv_room (Nat.le_of_ble_eq_true rfl)) d_law_581 ⟨Nat.le_of_ble_eq_true rfl, Nat.le_of_ble_eq_true rfl⟩) (fun r60 f58 H locs p59 hM hS => ?_)
          obtain ⟨x61, rfl, h62, hmo, hfr63⟩ := p59
          refine lv_icmp_eq (tgt := 749) hx hb d_law_584 (by decide) (fun h64 => ?_) (fun h64 => ?_)
          · refine lv_iinc (lv' := [(3, .int (nI 10)), (2, .ref q20), (1, .ref q1), (0, .ref b)]) hx hb d_law_749 hl (k := 0) rfl (by decide) (by decide) rfl (fun ls hl => ?_)
            refine lv_goto (tgt := 58) hx hb d_law_752 (by decide) ?_
            refine lv_iload_n hx hb d_law_58 rfl (lv_at hl 0 rfl) ?_
            refine lv_aload_n hx hb d_law_59 rfl (lv_at hl 3 rfl) ?_
            refine va_slen hx hb hX hbl hbA hS d_law_60 ?_
            refine hm_top (z := nI L) rfl ?_
            refine lv_bipush (v := 6) hx hb d_law_61 (by decide) ?_
            refine lv_isub hx hb d_law_63 ?_
            refine lv_icmp_gt (tgt := 755) hx hb d_law_64 (by decide) (fun h65 => ?_) (fun h65 => ?_)
            · refine lv_iconst (v := 1) hx hb d_law_755 (by decide) ?_
              refine va_forget (fun q hq => hAe _ (hS.2.2 q hq)) ?_
              refine W.widen (k := 600000) (n := 7302250) (Nat.le_of_ble_eq_true rfl) (Nat.le_of_ble_eq_true rfl) ?_
              exact lw_ret hx hb hr hlk d_law_756
            · exact absurd ((lw_cmp (i := 10) (by omega) (by decide)).mpr (by omega)) h65
          · exact absurd rfl h64
        · exact absurd h51 h57
      · refine lv_iconst (v := 1) hx hb d_law_559 (by decide) ?_
        refine lv_goto (tgt := 564) hx hb d_law_560 (by decide) ?_
        refine hm_calli hS hM hA (va_runV (As := [.int 1]) (rest := []) X (c_take l D k f37 q1 (gs_u0 y1 y2 y3) adC 0 (fun _ => 0) 0 (fun _ => 0) 1 hgs.1 (hgs.2.2.2.2.1 0 (by decide)) (hgs.2.2.2.2.2.1 0 (by decide)) (hgs.2.2.2.2.1 1 (by decide)) (hgs.2.2.2.2.2.1 1 (by decide)) hap (by decide) (Nat.zero_le _) (fun i h9 => absurd h9 (Nat.not_lt_zero _)) H.size) (hm_cwV hts me_GrantServer_take wl_GrantServerLaw_68 rfl rfl ⟨Nat.le_of_ble_eq_true rfl, Nat.le_of_ble_eq_true rfl⟩) (hm_preV hM hK hgs.1 rfl) rfl rfl hl.1 rfl (lv_room (Nat.le_of_ble_eq_true rfl)) d_law_564 ⟨Nat.le_of_ble_eq_true rfl, Nat.le_of_ble_eq_true rfl⟩) (fun r54 f52 H locs p53 hM hS => ?_)
        obtain ⟨rfl, g55, g56, hfr57⟩ := p53
        have hmo := hmo.keep (fun zq zx ho hq => hfr57 _ _ (fun z => hdj _ _ (hgs0.2.2.2.2.1 0 (by decide)) (z ▸ ho)) (fun z => hdj _ _ (hgs0.2.2.2.2.2.1 0 (by decide)) (z ▸ ho)) hq)
        refine lv_aload_n hx hb d_law_567 rfl (lv_at hl 1 rfl) ?_
        refine lv_aload_n hx hb d_law_568 rfl (lv_at hl 3 rfl) ?_
        refine lv_iload_n hx hb d_law_569 rfl (lv_at hl 0 rfl) ?_
        refine lv_iconst (v := 1) hx hb d_law_570 (by decide) ?_
        refine lv_iadd hx hb d_law_571 ?_
        refine hm_top (z := nI 5) (by decide) ?_
        refine va_sld hx hb hX hbl hbA hS (vp_in_nI (n := 5) (N := L) (by omega) (by omega)) d_law_572 ?_
        refine hm_top (z := xs 5) (by rw [nI_clamp (by omega)]) ?_
        refine lv_if_eq (tgt := 580) hx hb d_law_573 (by decide) (fun h58 => ?_) (fun h58 => ?_)
        · exact absurd h58 h51
        · refine lv_iconst (v := 1) hx hb d_law_576 (by decide) ?_
          refine lv_goto (tgt := 581) hx hb d_law_577 (by decide) ?_
          refine hm_calli hS hM hA (va_runV (As := [.int 1]) (rest := [.int (nI 0)]) X (m_c_take l D k f52 q20 adM (y0.toInt64) (mo_v0 y1 y2 y3) (fun _ _ => 0) 1 0 hmo (by decide) rfl (by decide) H.size) (hm_cwV hts me_GrantServerModel_take wl_GrantServerLaw_72 rfl rfl ⟨Nat.le_of_ble_eq_true rfl, Nat.le_of_ble_eq_true rfl⟩) (hm_preV hM hK hmo.1 rfl) rfl rfl hl.1 rfl (lv_room (Nat.le_of_ble_eq_true rfl)) d_law_581 ⟨Nat.le_of_ble_eq_true rfl, Nat.le_of_ble_eq_true rfl⟩) (fun r61 f59 H locs p60 hM hS => ?_)
          obtain ⟨x62, rfl, h63, hmo, hfr64⟩ := p60
          refine lv_icmp_eq (tgt := 749) hx hb d_law_584 (by decide) (fun h65 => ?_) (fun h65 => ?_)
          · refine lv_iinc (lv' := [(3, .int (nI 10)), (2, .ref q20), (1, .ref q1), (0, .ref b)]) hx hb d_law_749 hl (k := 0) rfl (by decide) (by decide) rfl (fun ls hl => ?_)
            refine lv_goto (tgt := 58) hx hb d_law_752 (by decide) ?_
            refine lv_iload_n hx hb d_law_58 rfl (lv_at hl 0 rfl) ?_
            refine lv_aload_n hx hb d_law_59 rfl (lv_at hl 3 rfl) ?_
            refine va_slen hx hb hX hbl hbA hS d_law_60 ?_
            refine hm_top (z := nI L) rfl ?_
            refine lv_bipush (v := 6) hx hb d_law_61 (by decide) ?_
            refine lv_isub hx hb d_law_63 ?_
            refine lv_icmp_gt (tgt := 755) hx hb d_law_64 (by decide) (fun h66 => ?_) (fun h66 => ?_)
            · refine lv_iconst (v := 1) hx hb d_law_755 (by decide) ?_
              refine va_forget (fun q hq => hAe _ (hS.2.2 q hq)) ?_
              refine W.widen (k := 600000) (n := 7302250) (Nat.le_of_ble_eq_true rfl) (Nat.le_of_ble_eq_true rfl) ?_
              exact lw_ret hx hb hr hlk d_law_756
            · exact absurd ((lw_cmp (i := 10) (by omega) (by decide)).mpr (by omega)) h66
          · exact absurd rfl h65
    by_cases h51 : sw = 11
    · refine lv_tableIn (tgt := 589) hx hb d_law_73 (by rw [h51]; decide) (by rw [h51]; decide) (by rw [h51]; rfl) (by decide) ?_
      refine lv_aload_n hx hb d_law_589 rfl (lv_at hl 2 rfl) ?_
      refine lv_aload_n hx hb d_law_590 rfl (lv_at hl 3 rfl) ?_
      refine lv_iload_n hx hb d_law_591 rfl (lv_at hl 0 rfl) ?_
      refine lv_iconst (v := 1) hx hb d_law_592 (by decide) ?_
      refine lv_iadd hx hb d_law_593 ?_
      refine hm_top (z := nI 5) (by decide) ?_
      refine va_sld hx hb hX hbl hbA hS (vp_in_nI (n := 5) (N := L) (by omega) (by omega)) d_law_594 ?_
      refine hm_top (z := xs 5) (by rw [nI_clamp (by omega)]) ?_
      refine lv_if_eq (tgt := 602) hx hb d_law_595 (by decide) (fun h52 => ?_) (fun h52 => ?_)
      · refine lv_iconst (v := 0) hx hb d_law_602 (by decide) ?_
        refine lv_aload_n hx hb d_law_603 rfl (lv_at hl 3 rfl) ?_
        refine lv_iload_n hx hb d_law_604 rfl (lv_at hl 0 rfl) ?_
        refine lv_iconst (v := 2) hx hb d_law_605 (by decide) ?_
        refine lv_iadd hx hb d_law_606 ?_
        refine hm_top (z := nI 6) (by decide) ?_
        refine va_sld hx hb hX hbl hbA hS (vp_in_nI (n := 6) (N := L) (by omega) (by omega)) d_law_607 ?_
        refine hm_top (z := xs 6) (by rw [nI_clamp (by omega)]) ?_
        refine hm_calli hS hM hA (va_runV (As := [.int 0, .int (xs 6)]) (rest := []) X (c_letter_in l D k f37 q1 (gs_u0 y1 y2 y3) adC 0 (fun _ => 0) 0 (xs 6) hgs.1 (hgs.2.2.2.2.1 0 (by decide)) (hgs.2.2.2.2.2.1 0 (by decide)) rfl (Nat.zero_le _) H.size) (hm_cwV hts me_GrantServer_letter wl_GrantServerLaw_73 rfl rfl ⟨Nat.le_of_ble_eq_true rfl, Nat.le_of_ble_eq_true rfl⟩) (hm_preV hM hK hgs.1 rfl) rfl rfl hl.1 rfl (lv_room (Nat.le_of_ble_eq_true rfl)) d_law_608 ⟨Nat.le_of_ble_eq_true rfl, Nat.le_of_ble_eq_true rfl⟩) (fun r55 f53 H locs p54 hM hS => ?_)
        obtain ⟨rfl, rfl⟩ := p54
        refine lv_aload_n hx hb d_law_611 rfl (lv_at hl 1 rfl) ?_
        refine lv_aload_n hx hb d_law_612 rfl (lv_at hl 3 rfl) ?_
        refine lv_iload_n hx hb d_law_613 rfl (lv_at hl 0 rfl) ?_
        refine lv_iconst (v := 1) hx hb d_law_614 (by decide) ?_
        refine lv_iadd hx hb d_law_615 ?_
        refine hm_top (z := nI 5) (by decide) ?_
        refine va_sld hx hb hX hbl hbA hS (vp_in_nI (n := 5) (N := L) (by omega) (by omega)) d_law_616 ?_
        refine hm_top (z := xs 5) (by rw [nI_clamp (by omega)]) ?_
        refine lv_if_eq (tgt := 624) hx hb d_law_617 (by decide) (fun h56 => ?_) (fun h56 => ?_)
        · refine lv_iconst (v := 0) hx hb d_law_624 (by decide) ?_
          refine lv_aload_n hx hb d_law_625 rfl (lv_at hl 3 rfl) ?_
          refine lv_iload_n hx hb d_law_626 rfl (lv_at hl 0 rfl) ?_
          refine lv_iconst (v := 2) hx hb d_law_627 (by decide) ?_
          refine lv_iadd hx hb d_law_628 ?_
          refine hm_top (z := nI 6) (by decide) ?_
          refine va_sld hx hb hX hbl hbA hS (vp_in_nI (n := 6) (N := L) (by omega) (by omega)) d_law_629 ?_
          refine hm_top (z := xs 6) (by rw [nI_clamp (by omega)]) ?_
          refine hm_calli hS hM hA (va_runV (As := [.int 0, .int (xs 6)]) (rest := [.int (z_at 0 (fun _ => 0) (xs 6))]) X (m_c_letter l D k f37 q20 adM (y0.toInt64) (mo_v0 y1 y2 y3) (fun _ _ => 0) 0 (xs 6) 0 hmo (by split <;> rfl) (by decide) H.size) (hm_cwV hts me_GrantServerModel_letter wl_GrantServerLaw_77 rfl rfl ⟨Nat.le_of_ble_eq_true rfl, Nat.le_of_ble_eq_true rfl⟩) (hm_preV hM hK hmo.1 rfl) rfl rfl hl.1 rfl (lv_room (Nat.le_of_ble_eq_true rfl)) d_law_630 ⟨Nat.le_of_ble_eq_true rfl, Nat.le_of_ble_eq_true rfl⟩) (fun r59 f57 H locs p58 hM hS => ?_)
          obtain ⟨rfl, rfl⟩ := p58
          refine lv_icmp_eq (tgt := 749) hx hb d_law_633 (by decide) (fun h60 => ?_) (fun h60 => ?_)
          · refine lv_iinc (lv' := [(3, .int (nI 10)), (2, .ref q20), (1, .ref q1), (0, .ref b)]) hx hb d_law_749 hl (k := 0) rfl (by decide) (by decide) rfl (fun ls hl => ?_)
            refine lv_goto (tgt := 58) hx hb d_law_752 (by decide) ?_
            refine lv_iload_n hx hb d_law_58 rfl (lv_at hl 0 rfl) ?_
            refine lv_aload_n hx hb d_law_59 rfl (lv_at hl 3 rfl) ?_
            refine va_slen hx hb hX hbl hbA hS d_law_60 ?_
            refine hm_top (z := nI L) rfl ?_
            refine lv_bipush (v := 6) hx hb d_law_61 (by decide) ?_
            refine lv_isub hx hb d_law_63 ?_
            refine lv_icmp_gt (tgt := 755) hx hb d_law_64 (by decide) (fun h61 => ?_) (fun h61 => ?_)
            · refine lv_iconst (v := 1) hx hb d_law_755 (by decide) ?_
              refine va_forget (fun q hq => hAe _ (hS.2.2 q hq)) ?_
              refine W.widen (k := 600000) (n := 7302250) (Nat.le_of_ble_eq_true rfl) (Nat.le_of_ble_eq_true rfl) ?_
              exact lw_ret hx hb hr hlk d_law_756
            · exact absurd ((lw_cmp (i := 10) (by omega) (by decide)).mpr (by omega)) h61
          · exact absurd ((z_at0 _ _).trans (m_letter0 _ _ _ _).symm) h60
        · exact absurd h52 h56
      · refine lv_iconst (v := 1) hx hb d_law_598 (by decide) ?_
        refine lv_goto (tgt := 603) hx hb d_law_599 (by decide) ?_
        refine lv_aload_n hx hb d_law_603 rfl (lv_at hl 3 rfl) ?_
        refine lv_iload_n hx hb d_law_604 rfl (lv_at hl 0 rfl) ?_
        refine lv_iconst (v := 2) hx hb d_law_605 (by decide) ?_
        refine lv_iadd hx hb d_law_606 ?_
        refine hm_top (z := nI 6) (by decide) ?_
        refine va_sld hx hb hX hbl hbA hS (vp_in_nI (n := 6) (N := L) (by omega) (by omega)) d_law_607 ?_
        refine hm_top (z := xs 6) (by rw [nI_clamp (by omega)]) ?_
        refine hm_calli hS hM hA (va_runV (As := [.int 1, .int (xs 6)]) (rest := []) X (c_letter_out l D k f37 q1 (gs_u0 y1 y2 y3) adC 0 (fun _ => 0) 1 (xs 6) hgs.1 (hgs.2.2.2.2.1 1 (by decide)) (hgs.2.2.2.2.2.1 1 (by decide)) (by decide) (Nat.zero_le _) H.size) (hm_cwV hts me_GrantServer_letter wl_GrantServerLaw_73 rfl rfl ⟨Nat.le_of_ble_eq_true rfl, Nat.le_of_ble_eq_true rfl⟩) (hm_preV hM hK hgs.1 rfl) rfl rfl hl.1 rfl (lv_room (Nat.le_of_ble_eq_true rfl)) d_law_608 ⟨Nat.le_of_ble_eq_true rfl, Nat.le_of_ble_eq_true rfl⟩) (fun r55 f53 H locs p54 hM hS => ?_)
        obtain ⟨rfl, rfl⟩ := p54
        refine lv_aload_n hx hb d_law_611 rfl (lv_at hl 1 rfl) ?_
        refine lv_aload_n hx hb d_law_612 rfl (lv_at hl 3 rfl) ?_
        refine lv_iload_n hx hb d_law_613 rfl (lv_at hl 0 rfl) ?_
        refine lv_iconst (v := 1) hx hb d_law_614 (by decide) ?_
        refine lv_iadd hx hb d_law_615 ?_
        refine hm_top (z := nI 5) (by decide) ?_
        refine va_sld hx hb hX hbl hbA hS (vp_in_nI (n := 5) (N := L) (by omega) (by omega)) d_law_616 ?_
        refine hm_top (z := xs 5) (by rw [nI_clamp (by omega)]) ?_
        refine lv_if_eq (tgt := 624) hx hb d_law_617 (by decide) (fun h56 => ?_) (fun h56 => ?_)
        · exact absurd h56 h52
        · refine lv_iconst (v := 1) hx hb d_law_620 (by decide) ?_
          refine lv_goto (tgt := 625) hx hb d_law_621 (by decide) ?_
          refine lv_aload_n hx hb d_law_625 rfl (lv_at hl 3 rfl) ?_
          refine lv_iload_n hx hb d_law_626 rfl (lv_at hl 0 rfl) ?_
          refine lv_iconst (v := 2) hx hb d_law_627 (by decide) ?_
          refine lv_iadd hx hb d_law_628 ?_
          refine hm_top (z := nI 6) (by decide) ?_
          refine va_sld hx hb hX hbl hbA hS (vp_in_nI (n := 6) (N := L) (by omega) (by omega)) d_law_629 ?_
          refine hm_top (z := xs 6) (by rw [nI_clamp (by omega)]) ?_
          refine hm_calli hS hM hA (va_runV (As := [.int 1, .int (xs 6)]) (rest := [.int (z_at 0 (fun _ => 0) (xs 6))]) X (m_c_letter l D k f37 q20 adM (y0.toInt64) (mo_v0 y1 y2 y3) (fun _ _ => 0) 1 (xs 6) 0 hmo (by split <;> rfl) (by decide) H.size) (hm_cwV hts me_GrantServerModel_letter wl_GrantServerLaw_77 rfl rfl ⟨Nat.le_of_ble_eq_true rfl, Nat.le_of_ble_eq_true rfl⟩) (hm_preV hM hK hmo.1 rfl) rfl rfl hl.1 rfl (lv_room (Nat.le_of_ble_eq_true rfl)) d_law_630 ⟨Nat.le_of_ble_eq_true rfl, Nat.le_of_ble_eq_true rfl⟩) (fun r59 f57 H locs p58 hM hS => ?_)
          obtain ⟨rfl, rfl⟩ := p58
          refine lv_icmp_eq (tgt := 749) hx hb d_law_633 (by decide) (fun h60 => ?_) (fun h60 => ?_)
          · refine lv_iinc (lv' := [(3, .int (nI 10)), (2, .ref q20), (1, .ref q1), (0, .ref b)]) hx hb d_law_749 hl (k := 0) rfl (by decide) (by decide) rfl (fun ls hl => ?_)
            refine lv_goto (tgt := 58) hx hb d_law_752 (by decide) ?_
            refine lv_iload_n hx hb d_law_58 rfl (lv_at hl 0 rfl) ?_
            refine lv_aload_n hx hb d_law_59 rfl (lv_at hl 3 rfl) ?_
            refine va_slen hx hb hX hbl hbA hS d_law_60 ?_
            refine hm_top (z := nI L) rfl ?_
            refine lv_bipush (v := 6) hx hb d_law_61 (by decide) ?_
            refine lv_isub hx hb d_law_63 ?_
            refine lv_icmp_gt (tgt := 755) hx hb d_law_64 (by decide) (fun h61 => ?_) (fun h61 => ?_)
            · refine lv_iconst (v := 1) hx hb d_law_755 (by decide) ?_
              refine va_forget (fun q hq => hAe _ (hS.2.2 q hq)) ?_
              refine W.widen (k := 600000) (n := 7302250) (Nat.le_of_ble_eq_true rfl) (Nat.le_of_ble_eq_true rfl) ?_
              exact lw_ret hx hb hr hlk d_law_756
            · exact absurd ((lw_cmp (i := 10) (by omega) (by decide)).mpr (by omega)) h61
          · exact absurd ((z_at0 _ _).trans (m_letter0 _ _ _ _).symm) h60
    by_cases h52 : sw = 12
    · refine lv_tableIn (tgt := 638) hx hb d_law_73 (by rw [h52]; decide) (by rw [h52]; decide) (by rw [h52]; rfl) (by decide) ?_
      refine lv_aload_n hx hb d_law_638 rfl (lv_at hl 2 rfl) ?_
      refine hm_calli hS hM hA (va_runV (As := []) (rest := []) X (c_challenge l D k f37 q1 (gs_u0 y1 y2 y3) adC 0 (fun _ => 0) hgs.1 (hgs.2.2.2.2.1 0 (by decide)) (hgs.2.2.2.2.2.1 0 (by decide)) (Nat.zero_le _) H.size) (hm_cwV hts me_GrantServer_challenge wl_GrantServerLaw_78 rfl rfl ⟨Nat.le_of_ble_eq_true rfl, Nat.le_of_ble_eq_true rfl⟩) (hm_preV hM hK hgs.1 rfl) rfl rfl hl.1 rfl (lv_room (Nat.le_of_ble_eq_true rfl)) d_law_639 ⟨Nat.le_of_ble_eq_true rfl, Nat.le_of_ble_eq_true rfl⟩) (fun r55 f53 H locs p54 hM hS => ?_)
      obtain ⟨rfl, rfl⟩ := p54
      refine lv_aload_n hx hb d_law_642 rfl (lv_at hl 1 rfl) ?_
      refine hm_calli hS hM hA (va_runV (As := []) (rest := [.int (z_hash (fun _ => 0) 0 0)]) X (m_c_challenge l D k f37 q20 adM (y0.toInt64) (mo_v0 y1 y2 y3) (fun _ _ => 0) 0 hmo rfl (by decide) H.size) (hm_cwV hts me_GrantServerModel_challenge wl_GrantServerLaw_82 rfl rfl ⟨Nat.le_of_ble_eq_true rfl, Nat.le_of_ble_eq_true rfl⟩) (hm_preV hM hK hmo.1 rfl) rfl rfl hl.1 rfl (lv_room (Nat.le_of_ble_eq_true rfl)) d_law_643 ⟨Nat.le_of_ble_eq_true rfl, Nat.le_of_ble_eq_true rfl⟩) (fun r58 f56 H locs p57 hM hS => ?_)
      obtain ⟨rfl, rfl⟩ := p57
      refine lv_icmp_eq (tgt := 749) hx hb d_law_646 (by decide) (fun h59 => ?_) (fun h59 => ?_)
      · refine lv_iinc (lv' := [(3, .int (nI 10)), (2, .ref q20), (1, .ref q1), (0, .ref b)]) hx hb d_law_749 hl (k := 0) rfl (by decide) (by decide) rfl (fun ls hl => ?_)
        refine lv_goto (tgt := 58) hx hb d_law_752 (by decide) ?_
        refine lv_iload_n hx hb d_law_58 rfl (lv_at hl 0 rfl) ?_
        refine lv_aload_n hx hb d_law_59 rfl (lv_at hl 3 rfl) ?_
        refine va_slen hx hb hX hbl hbA hS d_law_60 ?_
        refine hm_top (z := nI L) rfl ?_
        refine lv_bipush (v := 6) hx hb d_law_61 (by decide) ?_
        refine lv_isub hx hb d_law_63 ?_
        refine lv_icmp_gt (tgt := 755) hx hb d_law_64 (by decide) (fun h60 => ?_) (fun h60 => ?_)
        · refine lv_iconst (v := 1) hx hb d_law_755 (by decide) ?_
          refine va_forget (fun q hq => hAe _ (hS.2.2 q hq)) ?_
          refine W.widen (k := 600000) (n := 7302250) (Nat.le_of_ble_eq_true rfl) (Nat.le_of_ble_eq_true rfl) ?_
          exact lw_ret hx hb hr hlk d_law_756
        · exact absurd ((lw_cmp (i := 10) (by omega) (by decide)).mpr (by omega)) h60
      · exact absurd (show nI 0 = ((nI 0).toInt64).toInt32 by decide) h59
    by_cases h53 : sw = 13
    · refine lv_tableIn (tgt := 651) hx hb d_law_73 (by rw [h53]; decide) (by rw [h53]; decide) (by rw [h53]; rfl) (by decide) ?_
      refine lv_aload_n hx hb d_law_651 rfl (lv_at hl 2 rfl) ?_
      refine hm_calli hS hM hA (va_runV (As := []) (rest := []) X (c_wrap l D k sA sV f37 q1 (gs_u0 y1 y2 y3) adC 0 (fun _ => 0) (fun _ => 0) (nI 0) (fun _ => 0) y0 hgs.1 (hgs.2.2.2.2.1 0 (by decide)) (hgs.2.2.2.2.2.1 0 (by decide)) (hgs.2.2.2.2.1 1 (by decide)) (hgs.2.2.2.2.2.1 1 (by decide)) hgs.2.2.2.2.2.2.2.2.2 hap (Nat.zero_le _) (fun i h9 => absurd h9 (Nat.not_lt_zero _)) (by decide) H.size) (hm_cwV hts me_GrantServer_wrap wl_GrantServerLaw_83 rfl rfl ⟨Nat.le_of_ble_eq_true rfl, Nat.le_of_ble_eq_true rfl⟩) (hm_preVZ hZ hS hA hM hK hgs.1 rfl) rfl rfl hl.1 rfl (lv_room (Nat.le_of_ble_eq_true rfl)) d_law_652 ⟨Nat.le_of_ble_eq_true rfl, Nat.le_of_ble_eq_true rfl⟩) (fun r56 f54 H locs p55 hM hS => ?_)
      obtain ⟨x57, rfl, h58, h59, h60, g61, g62, hfr63⟩ := p55
      have hmo := hmo.keep (fun zq zx ho hq => hfr63 _ _ (fun z => hdj _ _ (hgs0.2.2.2.2.1 1 (by decide)) (z ▸ ho)) (fun z => hdj _ _ (hgs0.2.2.2.2.2.1 1 (by decide)) (z ▸ ho)) hq)
      refine lv_aload_n hx hb d_law_655 rfl (lv_at hl 1 rfl) ?_
      refine hm_calli hS hM hA (va_runV (As := []) (rest := [.int (nI ((0 * 8 + 5) / 6 + 11))]) X (m_c_wrap l D k f54 q20 adM (y0.toInt64) (mo_v0 y1 y2 y3) (fun _ _ => 0) 0 (fun _ => 0) hmo rfl (by decide) (fun i h9 => absurd h9 (Nat.not_lt_zero _)) (by decide) H.size) (hm_cwV hts me_GrantServerModel_wrap wl_GrantServerLaw_86 rfl rfl ⟨Nat.le_of_ble_eq_true rfl, Nat.le_of_ble_eq_true rfl⟩) (hm_preV hM hK hmo.1 rfl) rfl rfl hl.1 rfl (lv_room (Nat.le_of_ble_eq_true rfl)) d_law_656 ⟨Nat.le_of_ble_eq_true rfl, Nat.le_of_ble_eq_true rfl⟩) (fun r66 f64 H locs p65 hM hS => ?_)
      obtain ⟨x67, x68, rfl, h69, h70, h71, hmo, hfr72⟩ := p65
      refine lv_icmp_eq (tgt := 749) hx hb d_law_659 (by decide) (fun h73 => ?_) (fun h73 => ?_)
      · refine lv_iinc (lv' := [(3, .int (nI 10)), (2, .ref q20), (1, .ref q1), (0, .ref b)]) hx hb d_law_749 hl (k := 0) rfl (by decide) (by decide) rfl (fun ls hl => ?_)
        refine lv_goto (tgt := 58) hx hb d_law_752 (by decide) ?_
        refine lv_iload_n hx hb d_law_58 rfl (lv_at hl 0 rfl) ?_
        refine lv_aload_n hx hb d_law_59 rfl (lv_at hl 3 rfl) ?_
        refine va_slen hx hb hX hbl hbA hS d_law_60 ?_
        refine hm_top (z := nI L) rfl ?_
        refine lv_bipush (v := 6) hx hb d_law_61 (by decide) ?_
        refine lv_isub hx hb d_law_63 ?_
        refine lv_icmp_gt (tgt := 755) hx hb d_law_64 (by decide) (fun h74 => ?_) (fun h74 => ?_)
        · refine lv_iconst (v := 1) hx hb d_law_755 (by decide) ?_
          refine va_forget (fun q hq => hAe _ (hS.2.2 q hq)) ?_
          refine W.widen (k := 600000) (n := 7302250) (Nat.le_of_ble_eq_true rfl) (Nat.le_of_ble_eq_true rfl) ?_
          exact lw_ret hx hb hr hlk d_law_756
        · exact absurd ((lw_cmp (i := 10) (by omega) (by decide)).mpr (by omega)) h74
      · exact absurd rfl h73
    by_cases h54 : sw = 14
    · refine lv_tableIn (tgt := 664) hx hb d_law_73 (by rw [h54]; decide) (by rw [h54]; decide) (by rw [h54]; rfl) (by decide) ?_
      refine lv_aload_n hx hb d_law_664 rfl (lv_at hl 2 rfl) ?_
      refine lv_aload_n hx hb d_law_665 rfl (lv_at hl 3 rfl) ?_
      refine lv_iload_n hx hb d_law_666 rfl (lv_at hl 0 rfl) ?_
      refine lv_iconst (v := 1) hx hb d_law_667 (by decide) ?_
      refine lv_iadd hx hb d_law_668 ?_
      refine hm_top (z := nI 5) (by decide) ?_
      refine va_sld hx hb hX hbl hbA hS (vp_in_nI (n := 5) (N := L) (by omega) (by omega)) d_law_669 ?_
      refine hm_top (z := xs 5) (by rw [nI_clamp (by omega)]) ?_
      by_cases h55 : (xs 5) < 0 ∨ 10000 < (xs 5)
      · refine hm_calli hS hM hA (va_runV (As := [.int (xs 5)]) (rest := []) X (c_tick_no l D k f37 q1 (gs_u0 y1 y2 y3) adC (xs 5)  h55 H.size) (hm_cwV hts me_GrantServer_tick wl_GrantServerLaw_87 rfl rfl ⟨Nat.le_of_ble_eq_true rfl, Nat.le_of_ble_eq_true rfl⟩) (hm_preV hM hK hgs.1 rfl) rfl rfl hl.1 rfl (lv_room (Nat.le_of_ble_eq_true rfl)) d_law_670 ⟨Nat.le_of_ble_eq_true rfl, Nat.le_of_ble_eq_true rfl⟩) (fun r58 f56 H locs p57 hM hS => ?_)
        obtain ⟨rfl, rfl⟩ := p57
        refine lv_aload_n hx hb d_law_673 rfl (lv_at hl 1 rfl) ?_
        refine lv_aload_n hx hb d_law_674 rfl (lv_at hl 3 rfl) ?_
        refine lv_iload_n hx hb d_law_675 rfl (lv_at hl 0 rfl) ?_
        refine lv_iconst (v := 1) hx hb d_law_676 (by decide) ?_
        refine lv_iadd hx hb d_law_677 ?_
        refine hm_top (z := nI 5) (by decide) ?_
        refine va_sld hx hb hX hbl hbA hS (vp_in_nI (n := 5) (N := L) (by omega) (by omega)) d_law_678 ?_
        refine hm_top (z := xs 5) (by rw [nI_clamp (by omega)]) ?_
        refine hm_calli hS hM hA (va_runV (As := [.int (xs 5)]) (rest := [.int 0]) X (m_c_tick l D k f37 q20 adM (y0.toInt64) (mo_v0 y1 y2 y3) (fun _ _ => 0) (xs 5) hmo  H.size) (hm_cwV hts me_GrantServerModel_tick wl_GrantServerLaw_91 rfl rfl ⟨Nat.le_of_ble_eq_true rfl, Nat.le_of_ble_eq_true rfl⟩) (hm_preV hM hK hmo.1 rfl) rfl rfl hl.1 rfl (lv_room (Nat.le_of_ble_eq_true rfl)) d_law_679 ⟨Nat.le_of_ble_eq_true rfl, Nat.le_of_ble_eq_true rfl⟩) (fun r61 f59 H locs p60 hM hS => ?_)
        obtain ⟨rfl, hmo, hfr62⟩ := p60
        refine lv_icmp_eq (tgt := 749) hx hb d_law_682 (by decide) (fun h63 => ?_) (fun h63 => ?_)
        · refine lv_iinc (lv' := [(3, .int (nI 10)), (2, .ref q20), (1, .ref q1), (0, .ref b)]) hx hb d_law_749 hl (k := 0) rfl (by decide) (by decide) rfl (fun ls hl => ?_)
          refine lv_goto (tgt := 58) hx hb d_law_752 (by decide) ?_
          refine lv_iload_n hx hb d_law_58 rfl (lv_at hl 0 rfl) ?_
          refine lv_aload_n hx hb d_law_59 rfl (lv_at hl 3 rfl) ?_
          refine va_slen hx hb hX hbl hbA hS d_law_60 ?_
          refine hm_top (z := nI L) rfl ?_
          refine lv_bipush (v := 6) hx hb d_law_61 (by decide) ?_
          refine lv_isub hx hb d_law_63 ?_
          refine lv_icmp_gt (tgt := 755) hx hb d_law_64 (by decide) (fun h64 => ?_) (fun h64 => ?_)
          · refine lv_iconst (v := 1) hx hb d_law_755 (by decide) ?_
            refine va_forget (fun q hq => hAe _ (hS.2.2 q hq)) ?_
            refine W.widen (k := 600000) (n := 7302250) (Nat.le_of_ble_eq_true rfl) (Nat.le_of_ble_eq_true rfl) ?_
            exact lw_ret hx hb hr hlk d_law_756
          · exact absurd ((lw_cmp (i := 10) (by omega) (by decide)).mpr (by omega)) h64
        · exact absurd (m_tick_no h55).symm h63
      · refine hm_calli hS hM hA (va_runV (As := [.int (xs 5)]) (rest := []) X (c_tick l D k f37 q1 (gs_u0 y1 y2 y3) adC (xs 5) hgs.1 (fun z => h55 (Or.inl z)) (fun z => h55 (Or.inr z)) H.size) (hm_cwV hts me_GrantServer_tick wl_GrantServerLaw_87 rfl rfl ⟨Nat.le_of_ble_eq_true rfl, Nat.le_of_ble_eq_true rfl⟩) (hm_preV hM hK hgs.1 rfl) rfl rfl hl.1 rfl (lv_room (Nat.le_of_ble_eq_true rfl)) d_law_670 ⟨Nat.le_of_ble_eq_true rfl, Nat.le_of_ble_eq_true rfl⟩) (fun r58 f56 H locs p57 hM hS => ?_)
        obtain ⟨rfl, g59, hfr60⟩ := p57
        have hmo := hmo.keep (fun zq zx ho hq => hfr60 _ _ (fun z => hdj _ _ hgs0.1 (z ▸ ho)) hq)
        refine lv_aload_n hx hb d_law_673 rfl (lv_at hl 1 rfl) ?_
        refine lv_aload_n hx hb d_law_674 rfl (lv_at hl 3 rfl) ?_
        refine lv_iload_n hx hb d_law_675 rfl (lv_at hl 0 rfl) ?_
        refine lv_iconst (v := 1) hx hb d_law_676 (by decide) ?_
        refine lv_iadd hx hb d_law_677 ?_
        refine hm_top (z := nI 5) (by decide) ?_
        refine va_sld hx hb hX hbl hbA hS (vp_in_nI (n := 5) (N := L) (by omega) (by omega)) d_law_678 ?_
        refine hm_top (z := xs 5) (by rw [nI_clamp (by omega)]) ?_
        refine hm_calli hS hM hA (va_runV (As := [.int (xs 5)]) (rest := [.int 1]) X (m_c_tick l D k f56 q20 adM (y0.toInt64) (mo_v0 y1 y2 y3) (fun _ _ => 0) (xs 5) hmo  H.size) (hm_cwV hts me_GrantServerModel_tick wl_GrantServerLaw_91 rfl rfl ⟨Nat.le_of_ble_eq_true rfl, Nat.le_of_ble_eq_true rfl⟩) (hm_preV hM hK hmo.1 rfl) rfl rfl hl.1 rfl (lv_room (Nat.le_of_ble_eq_true rfl)) d_law_679 ⟨Nat.le_of_ble_eq_true rfl, Nat.le_of_ble_eq_true rfl⟩) (fun r63 f61 H locs p62 hM hS => ?_)
        obtain ⟨rfl, hmo, hfr64⟩ := p62
        refine lv_icmp_eq (tgt := 749) hx hb d_law_682 (by decide) (fun h65 => ?_) (fun h65 => ?_)
        · refine lv_iinc (lv' := [(3, .int (nI 10)), (2, .ref q20), (1, .ref q1), (0, .ref b)]) hx hb d_law_749 hl (k := 0) rfl (by decide) (by decide) rfl (fun ls hl => ?_)
          refine lv_goto (tgt := 58) hx hb d_law_752 (by decide) ?_
          refine lv_iload_n hx hb d_law_58 rfl (lv_at hl 0 rfl) ?_
          refine lv_aload_n hx hb d_law_59 rfl (lv_at hl 3 rfl) ?_
          refine va_slen hx hb hX hbl hbA hS d_law_60 ?_
          refine hm_top (z := nI L) rfl ?_
          refine lv_bipush (v := 6) hx hb d_law_61 (by decide) ?_
          refine lv_isub hx hb d_law_63 ?_
          refine lv_icmp_gt (tgt := 755) hx hb d_law_64 (by decide) (fun h66 => ?_) (fun h66 => ?_)
          · refine lv_iconst (v := 1) hx hb d_law_755 (by decide) ?_
            refine va_forget (fun q hq => hAe _ (hS.2.2 q hq)) ?_
            refine W.widen (k := 600000) (n := 7302250) (Nat.le_of_ble_eq_true rfl) (Nat.le_of_ble_eq_true rfl) ?_
            exact lw_ret hx hb hr hlk d_law_756
          · exact absurd ((lw_cmp (i := 10) (by omega) (by decide)).mpr (by omega)) h66
        · exact absurd (m_tick_yes h55).symm h65
    by_cases h55 : sw = 15
    · refine lv_tableIn (tgt := 687) hx hb d_law_73 (by rw [h55]; decide) (by rw [h55]; decide) (by rw [h55]; rfl) (by decide) ?_
      refine lv_aload_n hx hb d_law_687 rfl (lv_at hl 2 rfl) ?_
      refine hm_calli hS hM hA (va_runV (As := []) (rest := []) X (c_sweep l D k f37 q1 (gs_u0 y1 y2 y3) adC (fun _ => 0) g9 (fun _ _ _ => 0) (fun _ _ => none) hgs.1 (hgs.2.2.1 0 (by decide)) (hgs.2.2.2.1 0 (by decide)) (hgs.2.2.1 1 (by decide)) (hgs.2.2.2.1 1 (by decide)) (hgs.2.2.1 2 (by decide)) (hgs.2.2.2.1 2 (by decide)) hap (Nat.zero_le _) (Nat.zero_le _) (Nat.zero_le _) (rows9 0 (by decide)) (rows9 1 (by decide)) (rows9 2 (by decide)) H.size) (hm_cwV hts me_GrantServer_sweep wl_GrantServerLaw_92 rfl rfl ⟨Nat.le_of_ble_eq_true rfl, Nat.le_of_ble_eq_true rfl⟩) (hm_preV hM hK hgs.1 rfl) rfl rfl hl.1 rfl (lv_room (Nat.le_of_ble_eq_true rfl)) d_law_688 ⟨Nat.le_of_ble_eq_true rfl, Nat.le_of_ble_eq_true rfl⟩) (fun r58 f56 H locs p57 hM hS => ?_)
      obtain ⟨x59, x60, x61, x62, x63, x64, rfl, h65, h66, h67, h68, h69, h70, h71, h72, h73, g74, g75, g76, g77, g78, g79, hfr80⟩ := p57
      have hmo := hmo.keep (fun zq zx ho hq => hfr80 _ _ (fun z => hdj _ _ (hgs0.2.2.1 0 (by decide)) (z ▸ ho)) (fun z => hdj _ _ (hgs0.2.2.1 1 (by decide)) (z ▸ ho)) (fun z => hdj _ _ (hgs0.2.2.1 2 (by decide)) (z ▸ ho)) (fun z => hdj _ _ (hgs0.2.2.2.1 0 (by decide)) (z ▸ ho)) (fun z => hdj _ _ (hgs0.2.2.2.1 1 (by decide)) (z ▸ ho)) (fun z => hdj _ _ (hgs0.2.2.2.1 2 (by decide)) (z ▸ ho)) hq)
      refine lv_aload_n hx hb d_law_691 rfl (lv_at hl 1 rfl) ?_
      refine hm_calli hS hM hA (va_runV (As := []) (rest := [.int (nI ((fun _ => 0) 0 - x59) + nI ((fun _ => 0) 1 - x60) + nI ((fun _ => 0) 2 - x61))]) X (m_c_sweep l D k f56 q20 adM (y0.toInt64) (mo_v0 y1 y2 y3) (fun _ _ => 0)  hmo  H.size) (hm_cwV hts me_GrantServerModel_sweep wl_GrantServerLaw_95 rfl rfl ⟨Nat.le_of_ble_eq_true rfl, Nat.le_of_ble_eq_true rfl⟩) (hm_preV hM hK hmo.1 rfl) rfl rfl hl.1 rfl (lv_room (Nat.le_of_ble_eq_true rfl)) d_law_692 ⟨Nat.le_of_ble_eq_true rfl, Nat.le_of_ble_eq_true rfl⟩) (fun r83 f81 H locs p82 hM hS => ?_)
      obtain ⟨rfl, hmo, hfr84⟩ := p82
      refine lv_icmp_eq (tgt := 749) hx hb d_law_695 (by decide) (fun h85 => ?_) (fun h85 => ?_)
      · refine lv_iinc (lv' := [(3, .int (nI 10)), (2, .ref q20), (1, .ref q1), (0, .ref b)]) hx hb d_law_749 hl (k := 0) rfl (by decide) (by decide) rfl (fun ls hl => ?_)
        refine lv_goto (tgt := 58) hx hb d_law_752 (by decide) ?_
        refine lv_iload_n hx hb d_law_58 rfl (lv_at hl 0 rfl) ?_
        refine lv_aload_n hx hb d_law_59 rfl (lv_at hl 3 rfl) ?_
        refine va_slen hx hb hX hbl hbA hS d_law_60 ?_
        refine hm_top (z := nI L) rfl ?_
        refine lv_bipush (v := 6) hx hb d_law_61 (by decide) ?_
        refine lv_isub hx hb d_law_63 ?_
        refine lv_icmp_gt (tgt := 755) hx hb d_law_64 (by decide) (fun h86 => ?_) (fun h86 => ?_)
        · refine lv_iconst (v := 1) hx hb d_law_755 (by decide) ?_
          refine va_forget (fun q hq => hAe _ (hS.2.2 q hq)) ?_
          refine W.widen (k := 600000) (n := 7302250) (Nat.le_of_ble_eq_true rfl) (Nat.le_of_ble_eq_true rfl) ?_
          exact lw_ret hx hb hr hlk d_law_756
        · exact absurd ((lw_cmp (i := 10) (by omega) (by decide)).mpr (by omega)) h86
      · exact absurd (by show nI (0 - _) + nI (0 - _) + nI (0 - _) = nI (m_swc (fun _ => 0) _ _ 64); rw [m_swc0, Nat.zero_sub, Nat.zero_sub, Nat.zero_sub]; decide) h85
    by_cases h56 : sw = 16
    · refine lv_tableIn (tgt := 700) hx hb d_law_73 (by rw [h56]; decide) (by rw [h56]; decide) (by rw [h56]; rfl) (by decide) ?_
      refine lv_aload_n hx hb d_law_700 rfl (lv_at hl 2 rfl) ?_
      refine lv_aload_n hx hb d_law_701 rfl (lv_at hl 3 rfl) ?_
      refine lv_iload_n hx hb d_law_702 rfl (lv_at hl 0 rfl) ?_
      refine lv_iconst (v := 1) hx hb d_law_703 (by decide) ?_
      refine lv_iadd hx hb d_law_704 ?_
      refine hm_top (z := nI 5) (by decide) ?_
      refine va_sld hx hb hX hbl hbA hS (vp_in_nI (n := 5) (N := L) (by omega) (by omega)) d_law_705 ?_
      refine hm_top (z := xs 5) (by rw [nI_clamp (by omega)]) ?_
      refine lv_aload_n hx hb d_law_706 rfl (lv_at hl 3 rfl) ?_
      refine lv_iload_n hx hb d_law_707 rfl (lv_at hl 0 rfl) ?_
      refine lv_iconst (v := 2) hx hb d_law_708 (by decide) ?_
      refine lv_iadd hx hb d_law_709 ?_
      refine hm_top (z := nI 6) (by decide) ?_
      refine va_sld hx hb hX hbl hbA hS (vp_in_nI (n := 6) (N := L) (by omega) (by omega)) d_law_710 ?_
      refine hm_top (z := xs 6) (by rw [nI_clamp (by omega)]) ?_
      refine lv_if_eq (tgt := 718) hx hb d_law_711 (by decide) (fun h57 => ?_) (fun h57 => ?_)
      · refine lv_iconst (v := 0) hx hb d_law_718 (by decide) ?_
        by_cases h58 : (xs 5) = 0
        · refine hm_calli hS hM hA (va_runV (As := [.int (xs 5), .int 0]) (rest := []) X (c_count_rows0 l D k f37 q1 (gs_u0 y1 y2 y3) adC (fun _ => 0) g9 (fun _ _ _ => 0) (fun _ _ => none) (xs 5) 0 hgs.1 (hgs.2.2.1 0 (by decide)) (hgs.2.2.2.1 0 (by decide)) h58 rfl H.size) (hm_cwV hts me_GrantServer_count wl_GrantServerLaw_96 rfl rfl ⟨Nat.le_of_ble_eq_true rfl, Nat.le_of_ble_eq_true rfl⟩) (hm_preV hM hK hgs.1 rfl) rfl rfl hl.1 rfl (lv_room (Nat.le_of_ble_eq_true rfl)) d_law_719 ⟨Nat.le_of_ble_eq_true rfl, Nat.le_of_ble_eq_true rfl⟩) (fun r61 f59 H locs p60 hM hS => ?_)
          obtain ⟨rfl, rfl⟩ := p60
          refine lv_aload_n hx hb d_law_722 rfl (lv_at hl 1 rfl) ?_
          refine lv_aload_n hx hb d_law_723 rfl (lv_at hl 3 rfl) ?_
          refine lv_iload_n hx hb d_law_724 rfl (lv_at hl 0 rfl) ?_
          refine lv_iconst (v := 1) hx hb d_law_725 (by decide) ?_
          refine lv_iadd hx hb d_law_726 ?_
          refine hm_top (z := nI 5) (by decide) ?_
          refine va_sld hx hb hX hbl hbA hS (vp_in_nI (n := 5) (N := L) (by omega) (by omega)) d_law_727 ?_
          refine hm_top (z := xs 5) (by rw [nI_clamp (by omega)]) ?_
          refine lv_aload_n hx hb d_law_728 rfl (lv_at hl 3 rfl) ?_
          refine lv_iload_n hx hb d_law_729 rfl (lv_at hl 0 rfl) ?_
          refine lv_iconst (v := 2) hx hb d_law_730 (by decide) ?_
          refine lv_iadd hx hb d_law_731 ?_
          refine hm_top (z := nI 6) (by decide) ?_
          refine va_sld hx hb hX hbl hbA hS (vp_in_nI (n := 6) (N := L) (by omega) (by omega)) d_law_732 ?_
          refine hm_top (z := xs 6) (by rw [nI_clamp (by omega)]) ?_
          refine lv_if_eq (tgt := 740) hx hb d_law_733 (by decide) (fun h62 => ?_) (fun h62 => ?_)
          · refine lv_iconst (v := 0) hx hb d_law_740 (by decide) ?_
            refine hm_calli hS hM hA (va_runV (As := [.int (xs 5), .int 0]) (rest := [.int (nI ((fun _ => 0) 0))]) X (m_c_count l D k f37 q20 adM (y0.toInt64) (mo_v0 y1 y2 y3) (fun _ _ => 0) (xs 5) 0 hmo (by rw [h58]; decide) (by rw [h58]; decide) (fun j h9 => Or.inr ⟨0, by decide, rfl⟩) H.size) (hm_cwV hts me_GrantServerModel_count wl_GrantServerLaw_100 rfl rfl ⟨Nat.le_of_ble_eq_true rfl, Nat.le_of_ble_eq_true rfl⟩) (hm_preV hM hK hmo.1 rfl) rfl rfl hl.1 rfl (lv_room (Nat.le_of_ble_eq_true rfl)) d_law_741 ⟨Nat.le_of_ble_eq_true rfl, Nat.le_of_ble_eq_true rfl⟩) (fun r65 f63 H locs p64 hM hS => ?_)
            obtain ⟨rfl, rfl⟩ := p64
            refine lv_icmp_eq (tgt := 749) hx hb d_law_744 (by decide) (fun h66 => ?_) (fun h66 => ?_)
            · refine lv_iinc (lv' := [(3, .int (nI 10)), (2, .ref q20), (1, .ref q1), (0, .ref b)]) hx hb d_law_749 hl (k := 0) rfl (by decide) (by decide) rfl (fun ls hl => ?_)
              refine lv_goto (tgt := 58) hx hb d_law_752 (by decide) ?_
              refine lv_iload_n hx hb d_law_58 rfl (lv_at hl 0 rfl) ?_
              refine lv_aload_n hx hb d_law_59 rfl (lv_at hl 3 rfl) ?_
              refine va_slen hx hb hX hbl hbA hS d_law_60 ?_
              refine hm_top (z := nI L) rfl ?_
              refine lv_bipush (v := 6) hx hb d_law_61 (by decide) ?_
              refine lv_isub hx hb d_law_63 ?_
              refine lv_icmp_gt (tgt := 755) hx hb d_law_64 (by decide) (fun h67 => ?_) (fun h67 => ?_)
              · refine lv_iconst (v := 1) hx hb d_law_755 (by decide) ?_
                refine va_forget (fun q hq => hAe _ (hS.2.2 q hq)) ?_
                refine W.widen (k := 600000) (n := 7302250) (Nat.le_of_ble_eq_true rfl) (Nat.le_of_ble_eq_true rfl) ?_
                exact lw_ret hx hb hr hlk d_law_756
              · exact absurd ((lw_cmp (i := 10) (by omega) (by decide)).mpr (by omega)) h67
            · exact absurd (by show nI 0 = nI (m_cnt _ (fun _ _ => 0) _ _ _); rw [m_cnt0]) h66
          · exact absurd h57 h62
        · by_cases h59 : (xs 5) = 1
          · refine hm_calli hS hM hA (va_runV (As := [.int (xs 5), .int 0]) (rest := []) X (c_count_rows1 l D k f37 q1 (gs_u0 y1 y2 y3) adC (fun _ => 0) g9 (fun _ _ _ => 0) (fun _ _ => none) (xs 5) 0 hgs.1 (hgs.2.2.1 1 (by decide)) (hgs.2.2.2.1 1 (by decide)) h59 rfl H.size) (hm_cwV hts me_GrantServer_count wl_GrantServerLaw_96 rfl rfl ⟨Nat.le_of_ble_eq_true rfl, Nat.le_of_ble_eq_true rfl⟩) (hm_preV hM hK hgs.1 rfl) rfl rfl hl.1 rfl (lv_room (Nat.le_of_ble_eq_true rfl)) d_law_719 ⟨Nat.le_of_ble_eq_true rfl, Nat.le_of_ble_eq_true rfl⟩) (fun r62 f60 H locs p61 hM hS => ?_)
            obtain ⟨rfl, rfl⟩ := p61
            refine lv_aload_n hx hb d_law_722 rfl (lv_at hl 1 rfl) ?_
            refine lv_aload_n hx hb d_law_723 rfl (lv_at hl 3 rfl) ?_
            refine lv_iload_n hx hb d_law_724 rfl (lv_at hl 0 rfl) ?_
            refine lv_iconst (v := 1) hx hb d_law_725 (by decide) ?_
            refine lv_iadd hx hb d_law_726 ?_
            refine hm_top (z := nI 5) (by decide) ?_
            refine va_sld hx hb hX hbl hbA hS (vp_in_nI (n := 5) (N := L) (by omega) (by omega)) d_law_727 ?_
            refine hm_top (z := xs 5) (by rw [nI_clamp (by omega)]) ?_
            refine lv_aload_n hx hb d_law_728 rfl (lv_at hl 3 rfl) ?_
            refine lv_iload_n hx hb d_law_729 rfl (lv_at hl 0 rfl) ?_
            refine lv_iconst (v := 2) hx hb d_law_730 (by decide) ?_
            refine lv_iadd hx hb d_law_731 ?_
            refine hm_top (z := nI 6) (by decide) ?_
            refine va_sld hx hb hX hbl hbA hS (vp_in_nI (n := 6) (N := L) (by omega) (by omega)) d_law_732 ?_
            refine hm_top (z := xs 6) (by rw [nI_clamp (by omega)]) ?_
            refine lv_if_eq (tgt := 740) hx hb d_law_733 (by decide) (fun h63 => ?_) (fun h63 => ?_)
            · refine lv_iconst (v := 0) hx hb d_law_740 (by decide) ?_
              refine hm_calli hS hM hA (va_runV (As := [.int (xs 5), .int 0]) (rest := [.int (nI ((fun _ => 0) 1))]) X (m_c_count l D k f37 q20 adM (y0.toInt64) (mo_v0 y1 y2 y3) (fun _ _ => 0) (xs 5) 0 hmo (by rw [h59]; decide) (by rw [h59]; decide) (fun j h9 => Or.inr ⟨0, by decide, rfl⟩) H.size) (hm_cwV hts me_GrantServerModel_count wl_GrantServerLaw_100 rfl rfl ⟨Nat.le_of_ble_eq_true rfl, Nat.le_of_ble_eq_true rfl⟩) (hm_preV hM hK hmo.1 rfl) rfl rfl hl.1 rfl (lv_room (Nat.le_of_ble_eq_true rfl)) d_law_741 ⟨Nat.le_of_ble_eq_true rfl, Nat.le_of_ble_eq_true rfl⟩) (fun r66 f64 H locs p65 hM hS => ?_)
              obtain ⟨rfl, rfl⟩ := p65
              refine lv_icmp_eq (tgt := 749) hx hb d_law_744 (by decide) (fun h67 => ?_) (fun h67 => ?_)
              · refine lv_iinc (lv' := [(3, .int (nI 10)), (2, .ref q20), (1, .ref q1), (0, .ref b)]) hx hb d_law_749 hl (k := 0) rfl (by decide) (by decide) rfl (fun ls hl => ?_)
                refine lv_goto (tgt := 58) hx hb d_law_752 (by decide) ?_
                refine lv_iload_n hx hb d_law_58 rfl (lv_at hl 0 rfl) ?_
                refine lv_aload_n hx hb d_law_59 rfl (lv_at hl 3 rfl) ?_
                refine va_slen hx hb hX hbl hbA hS d_law_60 ?_
                refine hm_top (z := nI L) rfl ?_
                refine lv_bipush (v := 6) hx hb d_law_61 (by decide) ?_
                refine lv_isub hx hb d_law_63 ?_
                refine lv_icmp_gt (tgt := 755) hx hb d_law_64 (by decide) (fun h68 => ?_) (fun h68 => ?_)
                · refine lv_iconst (v := 1) hx hb d_law_755 (by decide) ?_
                  refine va_forget (fun q hq => hAe _ (hS.2.2 q hq)) ?_
                  refine W.widen (k := 600000) (n := 7302250) (Nat.le_of_ble_eq_true rfl) (Nat.le_of_ble_eq_true rfl) ?_
                  exact lw_ret hx hb hr hlk d_law_756
                · exact absurd ((lw_cmp (i := 10) (by omega) (by decide)).mpr (by omega)) h68
              · exact absurd (by show nI 0 = nI (m_cnt _ (fun _ _ => 0) _ _ _); rw [m_cnt0]) h67
            · exact absurd h57 h63
          · by_cases h60 : (xs 5) = 2
            · refine hm_calli hS hM hA (va_runV (As := [.int (xs 5), .int 0]) (rest := []) X (c_count_rows2 l D k f37 q1 (gs_u0 y1 y2 y3) adC (fun _ => 0) g9 (fun _ _ _ => 0) (fun _ _ => none) (xs 5) 0 hgs.1 (hgs.2.2.1 2 (by decide)) (hgs.2.2.2.1 2 (by decide)) h60 rfl H.size) (hm_cwV hts me_GrantServer_count wl_GrantServerLaw_96 rfl rfl ⟨Nat.le_of_ble_eq_true rfl, Nat.le_of_ble_eq_true rfl⟩) (hm_preV hM hK hgs.1 rfl) rfl rfl hl.1 rfl (lv_room (Nat.le_of_ble_eq_true rfl)) d_law_719 ⟨Nat.le_of_ble_eq_true rfl, Nat.le_of_ble_eq_true rfl⟩) (fun r63 f61 H locs p62 hM hS => ?_)
              obtain ⟨rfl, rfl⟩ := p62
              refine lv_aload_n hx hb d_law_722 rfl (lv_at hl 1 rfl) ?_
              refine lv_aload_n hx hb d_law_723 rfl (lv_at hl 3 rfl) ?_
              refine lv_iload_n hx hb d_law_724 rfl (lv_at hl 0 rfl) ?_
              refine lv_iconst (v := 1) hx hb d_law_725 (by decide) ?_
              refine lv_iadd hx hb d_law_726 ?_
              refine hm_top (z := nI 5) (by decide) ?_
              refine va_sld hx hb hX hbl hbA hS (vp_in_nI (n := 5) (N := L) (by omega) (by omega)) d_law_727 ?_
              refine hm_top (z := xs 5) (by rw [nI_clamp (by omega)]) ?_
              refine lv_aload_n hx hb d_law_728 rfl (lv_at hl 3 rfl) ?_
              refine lv_iload_n hx hb d_law_729 rfl (lv_at hl 0 rfl) ?_
              refine lv_iconst (v := 2) hx hb d_law_730 (by decide) ?_
              refine lv_iadd hx hb d_law_731 ?_
              refine hm_top (z := nI 6) (by decide) ?_
              refine va_sld hx hb hX hbl hbA hS (vp_in_nI (n := 6) (N := L) (by omega) (by omega)) d_law_732 ?_
              refine hm_top (z := xs 6) (by rw [nI_clamp (by omega)]) ?_
              refine lv_if_eq (tgt := 740) hx hb d_law_733 (by decide) (fun h64 => ?_) (fun h64 => ?_)
              · refine lv_iconst (v := 0) hx hb d_law_740 (by decide) ?_
                refine hm_calli hS hM hA (va_runV (As := [.int (xs 5), .int 0]) (rest := [.int (nI ((fun _ => 0) 2))]) X (m_c_count l D k f37 q20 adM (y0.toInt64) (mo_v0 y1 y2 y3) (fun _ _ => 0) (xs 5) 0 hmo (by rw [h60]; decide) (by rw [h60]; decide) (fun j h9 => Or.inr ⟨0, by decide, rfl⟩) H.size) (hm_cwV hts me_GrantServerModel_count wl_GrantServerLaw_100 rfl rfl ⟨Nat.le_of_ble_eq_true rfl, Nat.le_of_ble_eq_true rfl⟩) (hm_preV hM hK hmo.1 rfl) rfl rfl hl.1 rfl (lv_room (Nat.le_of_ble_eq_true rfl)) d_law_741 ⟨Nat.le_of_ble_eq_true rfl, Nat.le_of_ble_eq_true rfl⟩) (fun r67 f65 H locs p66 hM hS => ?_)
                obtain ⟨rfl, rfl⟩ := p66
                refine lv_icmp_eq (tgt := 749) hx hb d_law_744 (by decide) (fun h68 => ?_) (fun h68 => ?_)
                · refine lv_iinc (lv' := [(3, .int (nI 10)), (2, .ref q20), (1, .ref q1), (0, .ref b)]) hx hb d_law_749 hl (k := 0) rfl (by decide) (by decide) rfl (fun ls hl => ?_)
                  refine lv_goto (tgt := 58) hx hb d_law_752 (by decide) ?_
                  refine lv_iload_n hx hb d_law_58 rfl (lv_at hl 0 rfl) ?_
                  refine lv_aload_n hx hb d_law_59 rfl (lv_at hl 3 rfl) ?_
                  refine va_slen hx hb hX hbl hbA hS d_law_60 ?_
                  refine hm_top (z := nI L) rfl ?_
                  refine lv_bipush (v := 6) hx hb d_law_61 (by decide) ?_
                  refine lv_isub hx hb d_law_63 ?_
                  refine lv_icmp_gt (tgt := 755) hx hb d_law_64 (by decide) (fun h69 => ?_) (fun h69 => ?_)
                  · refine lv_iconst (v := 1) hx hb d_law_755 (by decide) ?_
                    refine va_forget (fun q hq => hAe _ (hS.2.2 q hq)) ?_
                    refine W.widen (k := 600000) (n := 7302250) (Nat.le_of_ble_eq_true rfl) (Nat.le_of_ble_eq_true rfl) ?_
                    exact lw_ret hx hb hr hlk d_law_756
                  · exact absurd ((lw_cmp (i := 10) (by omega) (by decide)).mpr (by omega)) h69
                · exact absurd (by show nI 0 = nI (m_cnt _ (fun _ _ => 0) _ _ _); rw [m_cnt0]) h68
              · exact absurd h57 h64
            · refine hm_calli hS hM hA (va_runV (As := [.int (xs 5), .int 0]) (rest := []) X (c_count_out l D k f37 q1 (gs_u0 y1 y2 y3) adC (xs 5) 0 hgs.1 ⟨h58, h59, h60⟩ H.size) (hm_cwV hts me_GrantServer_count wl_GrantServerLaw_96 rfl rfl ⟨Nat.le_of_ble_eq_true rfl, Nat.le_of_ble_eq_true rfl⟩) (hm_preV hM hK hgs.1 rfl) rfl rfl hl.1 rfl (lv_room (Nat.le_of_ble_eq_true rfl)) d_law_719 ⟨Nat.le_of_ble_eq_true rfl, Nat.le_of_ble_eq_true rfl⟩) (fun r63 f61 H locs p62 hM hS => ?_)
              obtain ⟨rfl, rfl⟩ := p62
              refine lv_aload_n hx hb d_law_722 rfl (lv_at hl 1 rfl) ?_
              refine lv_aload_n hx hb d_law_723 rfl (lv_at hl 3 rfl) ?_
              refine lv_iload_n hx hb d_law_724 rfl (lv_at hl 0 rfl) ?_
              refine lv_iconst (v := 1) hx hb d_law_725 (by decide) ?_
              refine lv_iadd hx hb d_law_726 ?_
              refine hm_top (z := nI 5) (by decide) ?_
              refine va_sld hx hb hX hbl hbA hS (vp_in_nI (n := 5) (N := L) (by omega) (by omega)) d_law_727 ?_
              refine hm_top (z := xs 5) (by rw [nI_clamp (by omega)]) ?_
              refine lv_aload_n hx hb d_law_728 rfl (lv_at hl 3 rfl) ?_
              refine lv_iload_n hx hb d_law_729 rfl (lv_at hl 0 rfl) ?_
              refine lv_iconst (v := 2) hx hb d_law_730 (by decide) ?_
              refine lv_iadd hx hb d_law_731 ?_
              refine hm_top (z := nI 6) (by decide) ?_
              refine va_sld hx hb hX hbl hbA hS (vp_in_nI (n := 6) (N := L) (by omega) (by omega)) d_law_732 ?_
              refine hm_top (z := xs 6) (by rw [nI_clamp (by omega)]) ?_
              refine lv_if_eq (tgt := 740) hx hb d_law_733 (by decide) (fun h64 => ?_) (fun h64 => ?_)
              · refine lv_iconst (v := 0) hx hb d_law_740 (by decide) ?_
                refine hm_calli hS hM hA (va_runV (As := [.int (xs 5), .int 0]) (rest := [.int (-1)]) X (m_c_count_no l D k f37 q20 adM (y0.toInt64) (mo_v0 y1 y2 y3) (fun _ _ => 0) (xs 5) 0 hmo (lw_out h58 h59 h60) H.size) (hm_cwV hts me_GrantServerModel_count wl_GrantServerLaw_100 rfl rfl ⟨Nat.le_of_ble_eq_true rfl, Nat.le_of_ble_eq_true rfl⟩) (hm_preV hM hK hmo.1 rfl) rfl rfl hl.1 rfl (lv_room (Nat.le_of_ble_eq_true rfl)) d_law_741 ⟨Nat.le_of_ble_eq_true rfl, Nat.le_of_ble_eq_true rfl⟩) (fun r67 f65 H locs p66 hM hS => ?_)
                obtain ⟨rfl, rfl⟩ := p66
                refine lv_icmp_eq (tgt := 749) hx hb d_law_744 (by decide) (fun h68 => ?_) (fun h68 => ?_)
                · refine lv_iinc (lv' := [(3, .int (nI 10)), (2, .ref q20), (1, .ref q1), (0, .ref b)]) hx hb d_law_749 hl (k := 0) rfl (by decide) (by decide) rfl (fun ls hl => ?_)
                  refine lv_goto (tgt := 58) hx hb d_law_752 (by decide) ?_
                  refine lv_iload_n hx hb d_law_58 rfl (lv_at hl 0 rfl) ?_
                  refine lv_aload_n hx hb d_law_59 rfl (lv_at hl 3 rfl) ?_
                  refine va_slen hx hb hX hbl hbA hS d_law_60 ?_
                  refine hm_top (z := nI L) rfl ?_
                  refine lv_bipush (v := 6) hx hb d_law_61 (by decide) ?_
                  refine lv_isub hx hb d_law_63 ?_
                  refine lv_icmp_gt (tgt := 755) hx hb d_law_64 (by decide) (fun h69 => ?_) (fun h69 => ?_)
                  · refine lv_iconst (v := 1) hx hb d_law_755 (by decide) ?_
                    refine va_forget (fun q hq => hAe _ (hS.2.2 q hq)) ?_
                    refine W.widen (k := 600000) (n := 7302250) (Nat.le_of_ble_eq_true rfl) (Nat.le_of_ble_eq_true rfl) ?_
                    exact lw_ret hx hb hr hlk d_law_756
                  · exact absurd ((lw_cmp (i := 10) (by omega) (by decide)).mpr (by omega)) h69
                · exact absurd rfl h68
              · exact absurd h57 h64
      · refine lv_iconst (v := 1) hx hb d_law_714 (by decide) ?_
        refine lv_goto (tgt := 719) hx hb d_law_715 (by decide) ?_
        by_cases h58 : (xs 5) = 0
        · refine hm_calli hS hM hA (va_runV (As := [.int (xs 5), .int 1]) (rest := []) X (c_count_act0 l D k f37 q1 (gs_u0 y1 y2 y3) adC (fun _ => 0) g9 (fun _ _ _ => 0) (fun _ _ => none) (fun _ => 0) (fun _ => 0) (fun _ => 0) (xs 5) 1 hgs.1 (hgs.2.2.1 0 (by decide)) (hgs.2.2.2.1 0 (by decide)) h58 (by decide) (Nat.zero_le _) (fun i h9 => absurd h9 (Nat.not_lt_zero _)) (fun i h9 => absurd h9 (Nat.not_lt_zero _)) H.size) (hm_cwV hts me_GrantServer_count wl_GrantServerLaw_96 rfl rfl ⟨Nat.le_of_ble_eq_true rfl, Nat.le_of_ble_eq_true rfl⟩) (hm_preV hM hK hgs.1 rfl) rfl rfl hl.1 rfl (lv_room (Nat.le_of_ble_eq_true rfl)) d_law_719 ⟨Nat.le_of_ble_eq_true rfl, Nat.le_of_ble_eq_true rfl⟩) (fun r61 f59 H locs p60 hM hS => ?_)
          obtain ⟨rfl, rfl⟩ := p60
          refine lv_aload_n hx hb d_law_722 rfl (lv_at hl 1 rfl) ?_
          refine lv_aload_n hx hb d_law_723 rfl (lv_at hl 3 rfl) ?_
          refine lv_iload_n hx hb d_law_724 rfl (lv_at hl 0 rfl) ?_
          refine lv_iconst (v := 1) hx hb d_law_725 (by decide) ?_
          refine lv_iadd hx hb d_law_726 ?_
          refine hm_top (z := nI 5) (by decide) ?_
          refine va_sld hx hb hX hbl hbA hS (vp_in_nI (n := 5) (N := L) (by omega) (by omega)) d_law_727 ?_
          refine hm_top (z := xs 5) (by rw [nI_clamp (by omega)]) ?_
          refine lv_aload_n hx hb d_law_728 rfl (lv_at hl 3 rfl) ?_
          refine lv_iload_n hx hb d_law_729 rfl (lv_at hl 0 rfl) ?_
          refine lv_iconst (v := 2) hx hb d_law_730 (by decide) ?_
          refine lv_iadd hx hb d_law_731 ?_
          refine hm_top (z := nI 6) (by decide) ?_
          refine va_sld hx hb hX hbl hbA hS (vp_in_nI (n := 6) (N := L) (by omega) (by omega)) d_law_732 ?_
          refine hm_top (z := xs 6) (by rw [nI_clamp (by omega)]) ?_
          refine lv_if_eq (tgt := 740) hx hb d_law_733 (by decide) (fun h62 => ?_) (fun h62 => ?_)
          · exact absurd h62 h57
          · refine lv_iconst (v := 1) hx hb d_law_736 (by decide) ?_
            refine lv_goto (tgt := 741) hx hb d_law_737 (by decide) ?_
            refine hm_calli hS hM hA (va_runV (As := [.int (xs 5), .int 1]) (rest := [.int (nI (z_cn ((fun _ _ _ => 0) 0) ((fun _ _ => none) 0) (fun _ => 0) ((gs_u0 y1 y2 y3) 15) ((fun _ => 0) 0)))]) X (m_c_count l D k f37 q20 adM (y0.toInt64) (mo_v0 y1 y2 y3) (fun _ _ => 0) (xs 5) 1 hmo (by rw [h58]; decide) (by rw [h58]; decide) (fun j h9 => Or.inr ⟨0, by decide, rfl⟩) H.size) (hm_cwV hts me_GrantServerModel_count wl_GrantServerLaw_100 rfl rfl ⟨Nat.le_of_ble_eq_true rfl, Nat.le_of_ble_eq_true rfl⟩) (hm_preV hM hK hmo.1 rfl) rfl rfl hl.1 rfl (lv_room (Nat.le_of_ble_eq_true rfl)) d_law_741 ⟨Nat.le_of_ble_eq_true rfl, Nat.le_of_ble_eq_true rfl⟩) (fun r65 f63 H locs p64 hM hS => ?_)
            obtain ⟨rfl, rfl⟩ := p64
            refine lv_icmp_eq (tgt := 749) hx hb d_law_744 (by decide) (fun h66 => ?_) (fun h66 => ?_)
            · refine lv_iinc (lv' := [(3, .int (nI 10)), (2, .ref q20), (1, .ref q1), (0, .ref b)]) hx hb d_law_749 hl (k := 0) rfl (by decide) (by decide) rfl (fun ls hl => ?_)
              refine lv_goto (tgt := 58) hx hb d_law_752 (by decide) ?_
              refine lv_iload_n hx hb d_law_58 rfl (lv_at hl 0 rfl) ?_
              refine lv_aload_n hx hb d_law_59 rfl (lv_at hl 3 rfl) ?_
              refine va_slen hx hb hX hbl hbA hS d_law_60 ?_
              refine hm_top (z := nI L) rfl ?_
              refine lv_bipush (v := 6) hx hb d_law_61 (by decide) ?_
              refine lv_isub hx hb d_law_63 ?_
              refine lv_icmp_gt (tgt := 755) hx hb d_law_64 (by decide) (fun h67 => ?_) (fun h67 => ?_)
              · refine lv_iconst (v := 1) hx hb d_law_755 (by decide) ?_
                refine va_forget (fun q hq => hAe _ (hS.2.2 q hq)) ?_
                refine W.widen (k := 600000) (n := 7302250) (Nat.le_of_ble_eq_true rfl) (Nat.le_of_ble_eq_true rfl) ?_
                exact lw_ret hx hb hr hlk d_law_756
              · exact absurd ((lw_cmp (i := 10) (by omega) (by decide)).mpr (by omega)) h67
            · exact absurd (by show nI 0 = nI (m_cnt _ (fun _ _ => 0) _ _ _); rw [m_cnt0]) h66
        · by_cases h59 : (xs 5) = 1
          · refine hm_calli hS hM hA (va_runV (As := [.int (xs 5), .int 1]) (rest := []) X (c_count_act1 l D k f37 q1 (gs_u0 y1 y2 y3) adC (fun _ => 0) g9 (fun _ _ _ => 0) (fun _ _ => none) (fun _ => 0) (fun _ => 0) (fun _ => 0) (xs 5) 1 hgs.1 (hgs.2.2.1 1 (by decide)) (hgs.2.2.2.1 1 (by decide)) h59 (by decide) (Nat.zero_le _) (fun i h9 => absurd h9 (Nat.not_lt_zero _)) (fun i h9 => absurd h9 (Nat.not_lt_zero _)) H.size) (hm_cwV hts me_GrantServer_count wl_GrantServerLaw_96 rfl rfl ⟨Nat.le_of_ble_eq_true rfl, Nat.le_of_ble_eq_true rfl⟩) (hm_preV hM hK hgs.1 rfl) rfl rfl hl.1 rfl (lv_room (Nat.le_of_ble_eq_true rfl)) d_law_719 ⟨Nat.le_of_ble_eq_true rfl, Nat.le_of_ble_eq_true rfl⟩) (fun r62 f60 H locs p61 hM hS => ?_)
            obtain ⟨rfl, rfl⟩ := p61
            refine lv_aload_n hx hb d_law_722 rfl (lv_at hl 1 rfl) ?_
            refine lv_aload_n hx hb d_law_723 rfl (lv_at hl 3 rfl) ?_
            refine lv_iload_n hx hb d_law_724 rfl (lv_at hl 0 rfl) ?_
            refine lv_iconst (v := 1) hx hb d_law_725 (by decide) ?_
            refine lv_iadd hx hb d_law_726 ?_
            refine hm_top (z := nI 5) (by decide) ?_
            refine va_sld hx hb hX hbl hbA hS (vp_in_nI (n := 5) (N := L) (by omega) (by omega)) d_law_727 ?_
            refine hm_top (z := xs 5) (by rw [nI_clamp (by omega)]) ?_
            refine lv_aload_n hx hb d_law_728 rfl (lv_at hl 3 rfl) ?_
            refine lv_iload_n hx hb d_law_729 rfl (lv_at hl 0 rfl) ?_
            refine lv_iconst (v := 2) hx hb d_law_730 (by decide) ?_
            refine lv_iadd hx hb d_law_731 ?_
            refine hm_top (z := nI 6) (by decide) ?_
            refine va_sld hx hb hX hbl hbA hS (vp_in_nI (n := 6) (N := L) (by omega) (by omega)) d_law_732 ?_
            refine hm_top (z := xs 6) (by rw [nI_clamp (by omega)]) ?_
            refine lv_if_eq (tgt := 740) hx hb d_law_733 (by decide) (fun h63 => ?_) (fun h63 => ?_)
            · exact absurd h63 h57
            · refine lv_iconst (v := 1) hx hb d_law_736 (by decide) ?_
              refine lv_goto (tgt := 741) hx hb d_law_737 (by decide) ?_
              refine hm_calli hS hM hA (va_runV (As := [.int (xs 5), .int 1]) (rest := [.int (nI (z_cn ((fun _ _ _ => 0) 1) ((fun _ _ => none) 1) (fun _ => 0) ((gs_u0 y1 y2 y3) 15) ((fun _ => 0) 1)))]) X (m_c_count l D k f37 q20 adM (y0.toInt64) (mo_v0 y1 y2 y3) (fun _ _ => 0) (xs 5) 1 hmo (by rw [h59]; decide) (by rw [h59]; decide) (fun j h9 => Or.inr ⟨0, by decide, rfl⟩) H.size) (hm_cwV hts me_GrantServerModel_count wl_GrantServerLaw_100 rfl rfl ⟨Nat.le_of_ble_eq_true rfl, Nat.le_of_ble_eq_true rfl⟩) (hm_preV hM hK hmo.1 rfl) rfl rfl hl.1 rfl (lv_room (Nat.le_of_ble_eq_true rfl)) d_law_741 ⟨Nat.le_of_ble_eq_true rfl, Nat.le_of_ble_eq_true rfl⟩) (fun r66 f64 H locs p65 hM hS => ?_)
              obtain ⟨rfl, rfl⟩ := p65
              refine lv_icmp_eq (tgt := 749) hx hb d_law_744 (by decide) (fun h67 => ?_) (fun h67 => ?_)
              · refine lv_iinc (lv' := [(3, .int (nI 10)), (2, .ref q20), (1, .ref q1), (0, .ref b)]) hx hb d_law_749 hl (k := 0) rfl (by decide) (by decide) rfl (fun ls hl => ?_)
                refine lv_goto (tgt := 58) hx hb d_law_752 (by decide) ?_
                refine lv_iload_n hx hb d_law_58 rfl (lv_at hl 0 rfl) ?_
                refine lv_aload_n hx hb d_law_59 rfl (lv_at hl 3 rfl) ?_
                refine va_slen hx hb hX hbl hbA hS d_law_60 ?_
                refine hm_top (z := nI L) rfl ?_
                refine lv_bipush (v := 6) hx hb d_law_61 (by decide) ?_
                refine lv_isub hx hb d_law_63 ?_
                refine lv_icmp_gt (tgt := 755) hx hb d_law_64 (by decide) (fun h68 => ?_) (fun h68 => ?_)
                · refine lv_iconst (v := 1) hx hb d_law_755 (by decide) ?_
                  refine va_forget (fun q hq => hAe _ (hS.2.2 q hq)) ?_
                  refine W.widen (k := 600000) (n := 7302250) (Nat.le_of_ble_eq_true rfl) (Nat.le_of_ble_eq_true rfl) ?_
                  exact lw_ret hx hb hr hlk d_law_756
                · exact absurd ((lw_cmp (i := 10) (by omega) (by decide)).mpr (by omega)) h68
              · exact absurd (by show nI 0 = nI (m_cnt _ (fun _ _ => 0) _ _ _); rw [m_cnt0]) h67
          · by_cases h60 : (xs 5) = 2
            · refine hm_calli hS hM hA (va_runV (As := [.int (xs 5), .int 1]) (rest := []) X (c_count_act2 l D k f37 q1 (gs_u0 y1 y2 y3) adC (fun _ => 0) g9 (fun _ _ _ => 0) (fun _ _ => none) (fun _ => 0) (fun _ => 0) (fun _ => 0) (xs 5) 1 hgs.1 (hgs.2.2.1 2 (by decide)) (hgs.2.2.2.1 2 (by decide)) h60 (by decide) (Nat.zero_le _) (fun i h9 => absurd h9 (Nat.not_lt_zero _)) (fun i h9 => absurd h9 (Nat.not_lt_zero _)) H.size) (hm_cwV hts me_GrantServer_count wl_GrantServerLaw_96 rfl rfl ⟨Nat.le_of_ble_eq_true rfl, Nat.le_of_ble_eq_true rfl⟩) (hm_preV hM hK hgs.1 rfl) rfl rfl hl.1 rfl (lv_room (Nat.le_of_ble_eq_true rfl)) d_law_719 ⟨Nat.le_of_ble_eq_true rfl, Nat.le_of_ble_eq_true rfl⟩) (fun r63 f61 H locs p62 hM hS => ?_)
              obtain ⟨rfl, rfl⟩ := p62
              refine lv_aload_n hx hb d_law_722 rfl (lv_at hl 1 rfl) ?_
              refine lv_aload_n hx hb d_law_723 rfl (lv_at hl 3 rfl) ?_
              refine lv_iload_n hx hb d_law_724 rfl (lv_at hl 0 rfl) ?_
              refine lv_iconst (v := 1) hx hb d_law_725 (by decide) ?_
              refine lv_iadd hx hb d_law_726 ?_
              refine hm_top (z := nI 5) (by decide) ?_
              refine va_sld hx hb hX hbl hbA hS (vp_in_nI (n := 5) (N := L) (by omega) (by omega)) d_law_727 ?_
              refine hm_top (z := xs 5) (by rw [nI_clamp (by omega)]) ?_
              refine lv_aload_n hx hb d_law_728 rfl (lv_at hl 3 rfl) ?_
              refine lv_iload_n hx hb d_law_729 rfl (lv_at hl 0 rfl) ?_
              refine lv_iconst (v := 2) hx hb d_law_730 (by decide) ?_
              refine lv_iadd hx hb d_law_731 ?_
              refine hm_top (z := nI 6) (by decide) ?_
              refine va_sld hx hb hX hbl hbA hS (vp_in_nI (n := 6) (N := L) (by omega) (by omega)) d_law_732 ?_
              refine hm_top (z := xs 6) (by rw [nI_clamp (by omega)]) ?_
              refine lv_if_eq (tgt := 740) hx hb d_law_733 (by decide) (fun h64 => ?_) (fun h64 => ?_)
              · exact absurd h64 h57
              · refine lv_iconst (v := 1) hx hb d_law_736 (by decide) ?_
                refine lv_goto (tgt := 741) hx hb d_law_737 (by decide) ?_
                refine hm_calli hS hM hA (va_runV (As := [.int (xs 5), .int 1]) (rest := [.int (nI (z_cn ((fun _ _ _ => 0) 2) ((fun _ _ => none) 2) (fun _ => 0) ((gs_u0 y1 y2 y3) 15) ((fun _ => 0) 2)))]) X (m_c_count l D k f37 q20 adM (y0.toInt64) (mo_v0 y1 y2 y3) (fun _ _ => 0) (xs 5) 1 hmo (by rw [h60]; decide) (by rw [h60]; decide) (fun j h9 => Or.inr ⟨0, by decide, rfl⟩) H.size) (hm_cwV hts me_GrantServerModel_count wl_GrantServerLaw_100 rfl rfl ⟨Nat.le_of_ble_eq_true rfl, Nat.le_of_ble_eq_true rfl⟩) (hm_preV hM hK hmo.1 rfl) rfl rfl hl.1 rfl (lv_room (Nat.le_of_ble_eq_true rfl)) d_law_741 ⟨Nat.le_of_ble_eq_true rfl, Nat.le_of_ble_eq_true rfl⟩) (fun r67 f65 H locs p66 hM hS => ?_)
                obtain ⟨rfl, rfl⟩ := p66
                refine lv_icmp_eq (tgt := 749) hx hb d_law_744 (by decide) (fun h68 => ?_) (fun h68 => ?_)
                · refine lv_iinc (lv' := [(3, .int (nI 10)), (2, .ref q20), (1, .ref q1), (0, .ref b)]) hx hb d_law_749 hl (k := 0) rfl (by decide) (by decide) rfl (fun ls hl => ?_)
                  refine lv_goto (tgt := 58) hx hb d_law_752 (by decide) ?_
                  refine lv_iload_n hx hb d_law_58 rfl (lv_at hl 0 rfl) ?_
                  refine lv_aload_n hx hb d_law_59 rfl (lv_at hl 3 rfl) ?_
                  refine va_slen hx hb hX hbl hbA hS d_law_60 ?_
                  refine hm_top (z := nI L) rfl ?_
                  refine lv_bipush (v := 6) hx hb d_law_61 (by decide) ?_
                  refine lv_isub hx hb d_law_63 ?_
                  refine lv_icmp_gt (tgt := 755) hx hb d_law_64 (by decide) (fun h69 => ?_) (fun h69 => ?_)
                  · refine lv_iconst (v := 1) hx hb d_law_755 (by decide) ?_
                    refine va_forget (fun q hq => hAe _ (hS.2.2 q hq)) ?_
                    refine W.widen (k := 600000) (n := 7302250) (Nat.le_of_ble_eq_true rfl) (Nat.le_of_ble_eq_true rfl) ?_
                    exact lw_ret hx hb hr hlk d_law_756
                  · exact absurd ((lw_cmp (i := 10) (by omega) (by decide)).mpr (by omega)) h69
                · exact absurd (by show nI 0 = nI (m_cnt _ (fun _ _ => 0) _ _ _); rw [m_cnt0]) h68
            · refine hm_calli hS hM hA (va_runV (As := [.int (xs 5), .int 1]) (rest := []) X (c_count_out l D k f37 q1 (gs_u0 y1 y2 y3) adC (xs 5) 1 hgs.1 ⟨h58, h59, h60⟩ H.size) (hm_cwV hts me_GrantServer_count wl_GrantServerLaw_96 rfl rfl ⟨Nat.le_of_ble_eq_true rfl, Nat.le_of_ble_eq_true rfl⟩) (hm_preV hM hK hgs.1 rfl) rfl rfl hl.1 rfl (lv_room (Nat.le_of_ble_eq_true rfl)) d_law_719 ⟨Nat.le_of_ble_eq_true rfl, Nat.le_of_ble_eq_true rfl⟩) (fun r63 f61 H locs p62 hM hS => ?_)
              obtain ⟨rfl, rfl⟩ := p62
              refine lv_aload_n hx hb d_law_722 rfl (lv_at hl 1 rfl) ?_
              refine lv_aload_n hx hb d_law_723 rfl (lv_at hl 3 rfl) ?_
              refine lv_iload_n hx hb d_law_724 rfl (lv_at hl 0 rfl) ?_
              refine lv_iconst (v := 1) hx hb d_law_725 (by decide) ?_
              refine lv_iadd hx hb d_law_726 ?_
              refine hm_top (z := nI 5) (by decide) ?_
              refine va_sld hx hb hX hbl hbA hS (vp_in_nI (n := 5) (N := L) (by omega) (by omega)) d_law_727 ?_
              refine hm_top (z := xs 5) (by rw [nI_clamp (by omega)]) ?_
              refine lv_aload_n hx hb d_law_728 rfl (lv_at hl 3 rfl) ?_
              refine lv_iload_n hx hb d_law_729 rfl (lv_at hl 0 rfl) ?_
              refine lv_iconst (v := 2) hx hb d_law_730 (by decide) ?_
              refine lv_iadd hx hb d_law_731 ?_
              refine hm_top (z := nI 6) (by decide) ?_
              refine va_sld hx hb hX hbl hbA hS (vp_in_nI (n := 6) (N := L) (by omega) (by omega)) d_law_732 ?_
              refine hm_top (z := xs 6) (by rw [nI_clamp (by omega)]) ?_
              refine lv_if_eq (tgt := 740) hx hb d_law_733 (by decide) (fun h64 => ?_) (fun h64 => ?_)
              · exact absurd h64 h57
              · refine lv_iconst (v := 1) hx hb d_law_736 (by decide) ?_
                refine lv_goto (tgt := 741) hx hb d_law_737 (by decide) ?_
                refine hm_calli hS hM hA (va_runV (As := [.int (xs 5), .int 1]) (rest := [.int (-1)]) X (m_c_count_no l D k f37 q20 adM (y0.toInt64) (mo_v0 y1 y2 y3) (fun _ _ => 0) (xs 5) 1 hmo (lw_out h58 h59 h60) H.size) (hm_cwV hts me_GrantServerModel_count wl_GrantServerLaw_100 rfl rfl ⟨Nat.le_of_ble_eq_true rfl, Nat.le_of_ble_eq_true rfl⟩) (hm_preV hM hK hmo.1 rfl) rfl rfl hl.1 rfl (lv_room (Nat.le_of_ble_eq_true rfl)) d_law_741 ⟨Nat.le_of_ble_eq_true rfl, Nat.le_of_ble_eq_true rfl⟩) (fun r67 f65 H locs p66 hM hS => ?_)
                obtain ⟨rfl, rfl⟩ := p66
                refine lv_icmp_eq (tgt := 749) hx hb d_law_744 (by decide) (fun h68 => ?_) (fun h68 => ?_)
                · refine lv_iinc (lv' := [(3, .int (nI 10)), (2, .ref q20), (1, .ref q1), (0, .ref b)]) hx hb d_law_749 hl (k := 0) rfl (by decide) (by decide) rfl (fun ls hl => ?_)
                  refine lv_goto (tgt := 58) hx hb d_law_752 (by decide) ?_
                  refine lv_iload_n hx hb d_law_58 rfl (lv_at hl 0 rfl) ?_
                  refine lv_aload_n hx hb d_law_59 rfl (lv_at hl 3 rfl) ?_
                  refine va_slen hx hb hX hbl hbA hS d_law_60 ?_
                  refine hm_top (z := nI L) rfl ?_
                  refine lv_bipush (v := 6) hx hb d_law_61 (by decide) ?_
                  refine lv_isub hx hb d_law_63 ?_
                  refine lv_icmp_gt (tgt := 755) hx hb d_law_64 (by decide) (fun h69 => ?_) (fun h69 => ?_)
                  · refine lv_iconst (v := 1) hx hb d_law_755 (by decide) ?_
                    refine va_forget (fun q hq => hAe _ (hS.2.2 q hq)) ?_
                    refine W.widen (k := 600000) (n := 7302250) (Nat.le_of_ble_eq_true rfl) (Nat.le_of_ble_eq_true rfl) ?_
                    exact lw_ret hx hb hr hlk d_law_756
                  · exact absurd ((lw_cmp (i := 10) (by omega) (by decide)).mpr (by omega)) h69
                · exact absurd rfl h68
    refine lv_tableOut (tgt := 749) hx hb d_law_73 (hm_sw17 h40 h41 h42 h43 h44 h45 h46 h47 h48 h49 h50 h51 h52 h53 h54 h55 h56) (by decide) ?_
    refine lv_iinc (lv' := [(3, .int (nI 10)), (2, .ref q20), (1, .ref q1), (0, .ref b)]) hx hb d_law_749 hl (k := 0) rfl (by decide) (by decide) rfl (fun ls hl => ?_)
    refine lv_goto (tgt := 58) hx hb d_law_752 (by decide) ?_
    refine lv_iload_n hx hb d_law_58 rfl (lv_at hl 0 rfl) ?_
    refine lv_aload_n hx hb d_law_59 rfl (lv_at hl 3 rfl) ?_
    refine va_slen hx hb hX hbl hbA hS d_law_60 ?_
    refine hm_top (z := nI L) rfl ?_
    refine lv_bipush (v := 6) hx hb d_law_61 (by decide) ?_
    refine lv_isub hx hb d_law_63 ?_
    refine lv_icmp_gt (tgt := 755) hx hb d_law_64 (by decide) (fun h57 => ?_) (fun h57 => ?_)
    · refine lv_iconst (v := 1) hx hb d_law_755 (by decide) ?_
      refine va_forget (fun q hq => hAe _ (hS.2.2 q hq)) ?_
      refine W.widen (k := 600000) (n := 7302250) (Nat.le_of_ble_eq_true rfl) (Nat.le_of_ble_eq_true rfl) ?_
      exact lw_ret hx hb hr hlk d_law_756
    · exact absurd ((lw_cmp (i := 10) (by omega) (by decide)).mpr (by omega)) h57
