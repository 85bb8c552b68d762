theorem d_law_0 : decode code 0 = .ok (.new 7, 3) := by decide +kernel
theorem d_law_3 : decode code 3 = .ok (.dup, 1) := by decide +kernel
theorem d_law_4 : decode code 4 = .ok (.aload_n 0, 1) := by decide +kernel
theorem d_law_5 : decode code 5 = .ok (.iconst 0, 1) := by decide +kernel
theorem d_law_6 : decode code 6 = .ok (.invokestatic 9, 3) := by decide +kernel
theorem d_law_9 : decode code 9 = .ok (.aload_n 0, 1) := by decide +kernel
theorem d_law_10 : decode code 10 = .ok (.iconst 1, 1) := by decide +kernel
theorem d_law_11 : decode code 11 = .ok (.invokestatic 9, 3) := by decide +kernel
theorem d_law_14 : decode code 14 = .ok (.aload_n 0, 1) := by decide +kernel
theorem d_law_15 : decode code 15 = .ok (.iconst 2, 1) := by decide +kernel
theorem d_law_16 : decode code 16 = .ok (.invokestatic 9, 3) := by decide +kernel
theorem d_law_19 : decode code 19 = .ok (.aload_n 0, 1) := by decide +kernel
theorem d_law_20 : decode code 20 = .ok (.iconst 3, 1) := by decide +kernel
theorem d_law_21 : decode code 21 = .ok (.invokestatic 9, 3) := by decide +kernel
theorem d_law_24 : decode code 24 = .ok (.invokespecial 15, 3) := by decide +kernel
theorem d_law_27 : decode code 27 = .ok (.astore_n 1, 1) := by decide +kernel
theorem d_law_28 : decode code 28 = .ok (.new 18, 3) := by decide +kernel
theorem d_law_31 : decode code 31 = .ok (.dup, 1) := by decide +kernel
theorem d_law_32 : decode code 32 = .ok (.aload_n 0, 1) := by decide +kernel
theorem d_law_33 : decode code 33 = .ok (.iconst 0, 1) := by decide +kernel
theorem d_law_34 : decode code 34 = .ok (.invokestatic 9, 3) := by decide +kernel
theorem d_law_37 : decode code 37 = .ok (.aload_n 0, 1) := by decide +kernel
theorem d_law_38 : decode code 38 = .ok (.iconst 1, 1) := by decide +kernel
theorem d_law_39 : decode code 39 = .ok (.invokestatic 9, 3) := by decide +kernel
theorem d_law_42 : decode code 42 = .ok (.aload_n 0, 1) := by decide +kernel
theorem d_law_43 : decode code 43 = .ok (.iconst 2, 1) := by decide +kernel
theorem d_law_44 : decode code 44 = .ok (.invokestatic 9, 3) := by decide +kernel
theorem d_law_47 : decode code 47 = .ok (.aload_n 0, 1) := by decide +kernel
theorem d_law_48 : decode code 48 = .ok (.iconst 3, 1) := by decide +kernel
theorem d_law_49 : decode code 49 = .ok (.invokestatic 9, 3) := by decide +kernel
theorem d_law_52 : decode code 52 = .ok (.invokespecial 20, 3) := by decide +kernel
theorem d_law_55 : decode code 55 = .ok (.astore_n 2, 1) := by decide +kernel
theorem d_law_56 : decode code 56 = .ok (.iconst 4, 1) := by decide +kernel
theorem d_law_57 : decode code 57 = .ok (.istore_n 3, 1) := by decide +kernel
theorem d_law_58 : decode code 58 = .ok (.iload_n 3, 1) := by decide +kernel
theorem d_law_59 : decode code 59 = .ok (.aload_n 0, 1) := by decide +kernel
theorem d_law_60 : decode code 60 = .ok (.arraylength, 1) := by decide +kernel
theorem d_law_61 : decode code 61 = .ok (.bipush 6, 2) := by decide +kernel
theorem d_law_63 : decode code 63 = .ok (.isub, 1) := by decide +kernel
theorem d_law_64 : decode code 64 = .ok (.if_icmp .gt 691, 3) := by decide +kernel
theorem d_law_67 : decode code 67 = .ok (.aload_n 0, 1) := by decide +kernel
theorem d_law_68 : decode code 68 = .ok (.iload_n 3, 1) := by decide +kernel
theorem d_law_69 : decode code 69 = .ok (.iaload, 1) := by decide +kernel
theorem d_law_70 : decode code 70 = .ok (.bipush 31, 2) := by decide +kernel
theorem d_law_72 : decode code 72 = .ok (.iand, 1) := by decide +kernel
theorem d_law_73 : decode code 73 = .ok (.tableswitch 676 0 16 #[83, 126, 159, 222, 275, 318, 351, 384, 417, 442, 477, 516, 565, 578, 591, 614, 627], 83) := by decide +kernel
theorem d_law_156 : decode code 156 = .ok (.aload_n 1, 1) := by decide +kernel
theorem d_law_157 : decode code 157 = .ok (.aload_n 0, 1) := by decide +kernel
theorem d_law_158 : decode code 158 = .ok (.iload_n 3, 1) := by decide +kernel
theorem d_law_159 : decode code 159 = .ok (.iconst 1, 1) := by decide +kernel
theorem d_law_160 : decode code 160 = .ok (.iadd, 1) := by decide +kernel
theorem d_law_161 : decode code 161 = .ok (.iaload, 1) := by decide +kernel
theorem d_law_162 : decode code 162 = .ok (.aload_n 0, 1) := by decide +kernel
theorem d_law_163 : decode code 163 = .ok (.iload_n 3, 1) := by decide +kernel
theorem d_law_164 : decode code 164 = .ok (.iconst 2, 1) := by decide +kernel
theorem d_law_165 : decode code 165 = .ok (.iadd, 1) := by decide +kernel
theorem d_law_166 : decode code 166 = .ok (.iaload, 1) := by decide +kernel
theorem d_law_167 : decode code 167 = .ok (.aload_n 0, 1) := by decide +kernel
theorem d_law_168 : decode code 168 = .ok (.iload_n 3, 1) := by decide +kernel
theorem d_law_169 : decode code 169 = .ok (.iconst 3, 1) := by decide +kernel
theorem d_law_170 : decode code 170 = .ok (.iadd, 1) := by decide +kernel
theorem d_law_171 : decode code 171 = .ok (.iaload, 1) := by decide +kernel
theorem d_law_172 : decode code 172 = .ok (.invokevirtual 21, 3) := by decide +kernel
theorem d_law_175 : decode code 175 = .ok (.aload_n 2, 1) := by decide +kernel
theorem d_law_176 : decode code 176 = .ok (.aload_n 0, 1) := by decide +kernel
theorem d_law_177 : decode code 177 = .ok (.iload_n 3, 1) := by decide +kernel
theorem d_law_178 : decode code 178 = .ok (.iconst 1, 1) := by decide +kernel
theorem d_law_179 : decode code 179 = .ok (.iadd, 1) := by decide +kernel
theorem d_law_180 : decode code 180 = .ok (.iaload, 1) := by decide +kernel
theorem d_law_181 : decode code 181 = .ok (.aload_n 0, 1) := by decide +kernel
theorem d_law_182 : decode code 182 = .ok (.iload_n 3, 1) := by decide +kernel
theorem d_law_183 : decode code 183 = .ok (.iconst 2, 1) := by decide +kernel
theorem d_law_184 : decode code 184 = .ok (.iadd, 1) := by decide +kernel
theorem d_law_185 : decode code 185 = .ok (.iaload, 1) := by decide +kernel
theorem d_law_186 : decode code 186 = .ok (.aload_n 0, 1) := by decide +kernel
theorem d_law_187 : decode code 187 = .ok (.iload_n 3, 1) := by decide +kernel
theorem d_law_188 : decode code 188 = .ok (.iconst 3, 1) := by decide +kernel
theorem d_law_189 : decode code 189 = .ok (.iadd, 1) := by decide +kernel
theorem d_law_190 : decode code 190 = .ok (.iaload, 1) := by decide +kernel
theorem d_law_191 : decode code 191 = .ok (.invokevirtual 25, 3) := by decide +kernel
theorem d_law_194 : decode code 194 = .ok (.if_icmp .eq 555, 3) := by decide +kernel
theorem d_law_197 : decode code 197 = .ok (.iconst 0, 1) := by decide +kernel
theorem d_law_198 : decode code 198 = .ok (.ireturn, 1) := by decide +kernel
theorem d_law_199 : decode code 199 = .ok (.aload_n 1, 1) := by decide +kernel
theorem d_law_200 : decode code 200 = .ok (.aload_n 0, 1) := by decide +kernel
theorem d_law_201 : decode code 201 = .ok (.iload_n 3, 1) := by decide +kernel
theorem d_law_202 : decode code 202 = .ok (.iconst 1, 1) := by decide +kernel
theorem d_law_203 : decode code 203 = .ok (.iadd, 1) := by decide +kernel
theorem d_law_204 : decode code 204 = .ok (.iaload, 1) := by decide +kernel
theorem d_law_205 : decode code 205 = .ok (.aload_n 0, 1) := by decide +kernel
theorem d_law_206 : decode code 206 = .ok (.iload_n 3, 1) := by decide +kernel
theorem d_law_207 : decode code 207 = .ok (.iconst 2, 1) := by decide +kernel
theorem d_law_208 : decode code 208 = .ok (.iadd, 1) := by decide +kernel
theorem d_law_209 : decode code 209 = .ok (.iaload, 1) := by decide +kernel
theorem d_law_210 : decode code 210 = .ok (.invokevirtual 26, 3) := by decide +kernel
theorem d_law_213 : decode code 213 = .ok (.aload_n 2, 1) := by decide +kernel
theorem d_law_214 : decode code 214 = .ok (.aload_n 0, 1) := by decide +kernel
theorem d_law_215 : decode code 215 = .ok (.iload_n 3, 1) := by decide +kernel
theorem d_law_216 : decode code 216 = .ok (.iconst 1, 1) := by decide +kernel
theorem d_law_217 : decode code 217 = .ok (.iadd, 1) := by decide +kernel
theorem d_law_218 : decode code 218 = .ok (.iaload, 1) := by decide +kernel
theorem d_law_219 : decode code 219 = .ok (.aload_n 0, 1) := by decide +kernel
theorem d_law_220 : decode code 220 = .ok (.iload_n 3, 1) := by decide +kernel
theorem d_law_221 : decode code 221 = .ok (.iconst 2, 1) := by decide +kernel
theorem d_law_222 : decode code 222 = .ok (.iadd, 1) := by decide +kernel
theorem d_law_223 : decode code 223 = .ok (.iaload, 1) := by decide +kernel
theorem d_law_224 : decode code 224 = .ok (.invokevirtual 30, 3) := by decide +kernel
theorem d_law_227 : decode code 227 = .ok (.if_icmp .eq 522, 3) := by decide +kernel
theorem d_law_230 : decode code 230 = .ok (.iconst 0, 1) := by decide +kernel
theorem d_law_231 : decode code 231 = .ok (.ireturn, 1) := by decide +kernel
theorem d_law_232 : decode code 232 = .ok (.aload_n 1, 1) := by decide +kernel
theorem d_law_233 : decode code 233 = .ok (.aload_n 0, 1) := by decide +kernel
theorem d_law_234 : decode code 234 = .ok (.iload_n 3, 1) := by decide +kernel
theorem d_law_235 : decode code 235 = .ok (.iconst 1, 1) := by decide +kernel
theorem d_law_236 : decode code 236 = .ok (.iadd, 1) := by decide +kernel
theorem d_law_237 : decode code 237 = .ok (.iaload, 1) := by decide +kernel
theorem d_law_238 : decode code 238 = .ok (.aload_n 0, 1) := by decide +kernel
theorem d_law_239 : decode code 239 = .ok (.iload_n 3, 1) := by decide +kernel
theorem d_law_240 : decode code 240 = .ok (.iconst 2, 1) := by decide +kernel
theorem d_law_241 : decode code 241 = .ok (.iadd, 1) := by decide +kernel
theorem d_law_242 : decode code 242 = .ok (.iaload, 1) := by decide +kernel
theorem d_law_243 : decode code 243 = .ok (.aload_n 0, 1) := by decide +kernel
theorem d_law_244 : decode code 244 = .ok (.iload_n 3, 1) := by decide +kernel
theorem d_law_245 : decode code 245 = .ok (.iconst 3, 1) := by decide +kernel
theorem d_law_246 : decode code 246 = .ok (.iadd, 1) := by decide +kernel
theorem d_law_247 : decode code 247 = .ok (.iaload, 1) := by decide +kernel
theorem d_law_248 : decode code 248 = .ok (.aload_n 0, 1) := by decide +kernel
theorem d_law_249 : decode code 249 = .ok (.iload_n 3, 1) := by decide +kernel
theorem d_law_250 : decode code 250 = .ok (.iconst 4, 1) := by decide +kernel
theorem d_law_251 : decode code 251 = .ok (.iadd, 1) := by decide +kernel
theorem d_law_252 : decode code 252 = .ok (.iaload, 1) := by decide +kernel
theorem d_law_253 : decode code 253 = .ok (.aload_n 0, 1) := by decide +kernel
theorem d_law_254 : decode code 254 = .ok (.iload_n 3, 1) := by decide +kernel
theorem d_law_255 : decode code 255 = .ok (.iconst 5, 1) := by decide +kernel
theorem d_law_256 : decode code 256 = .ok (.iadd, 1) := by decide +kernel
theorem d_law_257 : decode code 257 = .ok (.iaload, 1) := by decide +kernel
theorem d_law_258 : decode code 258 = .ok (.invokevirtual 31, 3) := by decide +kernel
theorem d_law_261 : decode code 261 = .ok (.aload_n 2, 1) := by decide +kernel
theorem d_law_262 : decode code 262 = .ok (.aload_n 0, 1) := by decide +kernel
theorem d_law_263 : decode code 263 = .ok (.iload_n 3, 1) := by decide +kernel
theorem d_law_264 : decode code 264 = .ok (.iconst 1, 1) := by decide +kernel
theorem d_law_265 : decode code 265 = .ok (.iadd, 1) := by decide +kernel
theorem d_law_266 : decode code 266 = .ok (.iaload, 1) := by decide +kernel
theorem d_law_267 : decode code 267 = .ok (.aload_n 0, 1) := by decide +kernel
theorem d_law_268 : decode code 268 = .ok (.iload_n 3, 1) := by decide +kernel
theorem d_law_269 : decode code 269 = .ok (.iconst 2, 1) := by decide +kernel
theorem d_law_270 : decode code 270 = .ok (.iadd, 1) := by decide +kernel
theorem d_law_271 : decode code 271 = .ok (.iaload, 1) := by decide +kernel
theorem d_law_272 : decode code 272 = .ok (.aload_n 0, 1) := by decide +kernel
theorem d_law_273 : decode code 273 = .ok (.iload_n 3, 1) := by decide +kernel
theorem d_law_274 : decode code 274 = .ok (.iconst 3, 1) := by decide +kernel
theorem d_law_275 : decode code 275 = .ok (.iadd, 1) := by decide +kernel
theorem d_law_276 : decode code 276 = .ok (.iaload, 1) := by decide +kernel
theorem d_law_277 : decode code 277 = .ok (.aload_n 0, 1) := by decide +kernel
theorem d_law_278 : decode code 278 = .ok (.iload_n 3, 1) := by decide +kernel
theorem d_law_279 : decode code 279 = .ok (.iconst 4, 1) := by decide +kernel
theorem d_law_280 : decode code 280 = .ok (.iadd, 1) := by decide +kernel
theorem d_law_281 : decode code 281 = .ok (.iaload, 1) := by decide +kernel
theorem d_law_282 : decode code 282 = .ok (.aload_n 0, 1) := by decide +kernel
theorem d_law_283 : decode code 283 = .ok (.iload_n 3, 1) := by decide +kernel
theorem d_law_284 : decode code 284 = .ok (.iconst 5, 1) := by decide +kernel
theorem d_law_285 : decode code 285 = .ok (.iadd, 1) := by decide +kernel
theorem d_law_286 : decode code 286 = .ok (.iaload, 1) := by decide +kernel
theorem d_law_287 : decode code 287 = .ok (.invokevirtual 35, 3) := by decide +kernel
theorem d_law_290 : decode code 290 = .ok (.if_icmp .eq 459, 3) := by decide +kernel
theorem d_law_293 : decode code 293 = .ok (.iconst 0, 1) := by decide +kernel
theorem d_law_294 : decode code 294 = .ok (.ireturn, 1) := by decide +kernel
theorem d_law_295 : decode code 295 = .ok (.aload_n 1, 1) := by decide +kernel
theorem d_law_296 : decode code 296 = .ok (.aload_n 0, 1) := by decide +kernel
theorem d_law_297 : decode code 297 = .ok (.iload_n 3, 1) := by decide +kernel
theorem d_law_298 : decode code 298 = .ok (.iconst 1, 1) := by decide +kernel
theorem d_law_299 : decode code 299 = .ok (.iadd, 1) := by decide +kernel
theorem d_law_300 : decode code 300 = .ok (.iaload, 1) := by decide +kernel
theorem d_law_301 : decode code 301 = .ok (.aload_n 0, 1) := by decide +kernel
theorem d_law_302 : decode code 302 = .ok (.iload_n 3, 1) := by decide +kernel
theorem d_law_303 : decode code 303 = .ok (.iconst 2, 1) := by decide +kernel
theorem d_law_304 : decode code 304 = .ok (.iadd, 1) := by decide +kernel
theorem d_law_305 : decode code 305 = .ok (.iaload, 1) := by decide +kernel
theorem d_law_306 : decode code 306 = .ok (.aload_n 0, 1) := by decide +kernel
theorem d_law_307 : decode code 307 = .ok (.iload_n 3, 1) := by decide +kernel
theorem d_law_308 : decode code 308 = .ok (.iconst 3, 1) := by decide +kernel
theorem d_law_309 : decode code 309 = .ok (.iadd, 1) := by decide +kernel
theorem d_law_310 : decode code 310 = .ok (.iaload, 1) := by decide +kernel
theorem d_law_311 : decode code 311 = .ok (.aload_n 0, 1) := by decide +kernel
theorem d_law_312 : decode code 312 = .ok (.iload_n 3, 1) := by decide +kernel
theorem d_law_313 : decode code 313 = .ok (.iconst 4, 1) := by decide +kernel
theorem d_law_314 : decode code 314 = .ok (.iadd, 1) := by decide +kernel
theorem d_law_315 : decode code 315 = .ok (.iaload, 1) := by decide +kernel
theorem d_law_316 : decode code 316 = .ok (.invokevirtual 36, 3) := by decide +kernel
theorem d_law_319 : decode code 319 = .ok (.aload_n 2, 1) := by decide +kernel
theorem d_law_320 : decode code 320 = .ok (.aload_n 0, 1) := by decide +kernel
theorem d_law_321 : decode code 321 = .ok (.iload_n 3, 1) := by decide +kernel
theorem d_law_322 : decode code 322 = .ok (.iconst 1, 1) := by decide +kernel
theorem d_law_323 : decode code 323 = .ok (.iadd, 1) := by decide +kernel
theorem d_law_324 : decode code 324 = .ok (.iaload, 1) := by decide +kernel
theorem d_law_325 : decode code 325 = .ok (.aload_n 0, 1) := by decide +kernel
theorem d_law_326 : decode code 326 = .ok (.iload_n 3, 1) := by decide +kernel
theorem d_law_327 : decode code 327 = .ok (.iconst 2, 1) := by decide +kernel
theorem d_law_328 : decode code 328 = .ok (.iadd, 1) := by decide +kernel
theorem d_law_329 : decode code 329 = .ok (.iaload, 1) := by decide +kernel
theorem d_law_330 : decode code 330 = .ok (.aload_n 0, 1) := by decide +kernel
theorem d_law_331 : decode code 331 = .ok (.iload_n 3, 1) := by decide +kernel
theorem d_law_332 : decode code 332 = .ok (.iconst 3, 1) := by decide +kernel
theorem d_law_333 : decode code 333 = .ok (.iadd, 1) := by decide +kernel
theorem d_law_334 : decode code 334 = .ok (.iaload, 1) := by decide +kernel
theorem d_law_335 : decode code 335 = .ok (.aload_n 0, 1) := by decide +kernel
theorem d_law_336 : decode code 336 = .ok (.iload_n 3, 1) := by decide +kernel
theorem d_law_337 : decode code 337 = .ok (.iconst 4, 1) := by decide +kernel
theorem d_law_338 : decode code 338 = .ok (.iadd, 1) := by decide +kernel
theorem d_law_339 : decode code 339 = .ok (.iaload, 1) := by decide +kernel
theorem d_law_340 : decode code 340 = .ok (.invokevirtual 40, 3) := by decide +kernel
theorem d_law_343 : decode code 343 = .ok (.if_icmp .eq 406, 3) := by decide +kernel
theorem d_law_346 : decode code 346 = .ok (.iconst 0, 1) := by decide +kernel
theorem d_law_347 : decode code 347 = .ok (.ireturn, 1) := by decide +kernel
theorem d_law_348 : decode code 348 = .ok (.aload_n 1, 1) := by decide +kernel
theorem d_law_349 : decode code 349 = .ok (.aload_n 0, 1) := by decide +kernel
theorem d_law_350 : decode code 350 = .ok (.iload_n 3, 1) := by decide +kernel
theorem d_law_351 : decode code 351 = .ok (.iconst 1, 1) := by decide +kernel
theorem d_law_352 : decode code 352 = .ok (.iadd, 1) := by decide +kernel
theorem d_law_353 : decode code 353 = .ok (.iaload, 1) := by decide +kernel
theorem d_law_354 : decode code 354 = .ok (.aload_n 0, 1) := by decide +kernel
theorem d_law_355 : decode code 355 = .ok (.iload_n 3, 1) := by decide +kernel
theorem d_law_356 : decode code 356 = .ok (.iconst 2, 1) := by decide +kernel
theorem d_law_357 : decode code 357 = .ok (.iadd, 1) := by decide +kernel
theorem d_law_358 : decode code 358 = .ok (.iaload, 1) := by decide +kernel
theorem d_law_359 : decode code 359 = .ok (.aload_n 0, 1) := by decide +kernel
theorem d_law_360 : decode code 360 = .ok (.iload_n 3, 1) := by decide +kernel
theorem d_law_361 : decode code 361 = .ok (.iconst 3, 1) := by decide +kernel
theorem d_law_362 : decode code 362 = .ok (.iadd, 1) := by decide +kernel
theorem d_law_363 : decode code 363 = .ok (.iaload, 1) := by decide +kernel
theorem d_law_364 : decode code 364 = .ok (.invokevirtual 41, 3) := by decide +kernel
theorem d_law_367 : decode code 367 = .ok (.aload_n 2, 1) := by decide +kernel
theorem d_law_368 : decode code 368 = .ok (.aload_n 0, 1) := by decide +kernel
theorem d_law_369 : decode code 369 = .ok (.iload_n 3, 1) := by decide +kernel
theorem d_law_370 : decode code 370 = .ok (.iconst 1, 1) := by decide +kernel
theorem d_law_371 : decode code 371 = .ok (.iadd, 1) := by decide +kernel
theorem d_law_372 : decode code 372 = .ok (.iaload, 1) := by decide +kernel
theorem d_law_373 : decode code 373 = .ok (.aload_n 0, 1) := by decide +kernel
theorem d_law_374 : decode code 374 = .ok (.iload_n 3, 1) := by decide +kernel
theorem d_law_375 : decode code 375 = .ok (.iconst 2, 1) := by decide +kernel
theorem d_law_376 : decode code 376 = .ok (.iadd, 1) := by decide +kernel
theorem d_law_377 : decode code 377 = .ok (.iaload, 1) := by decide +kernel
theorem d_law_378 : decode code 378 = .ok (.aload_n 0, 1) := by decide +kernel
theorem d_law_379 : decode code 379 = .ok (.iload_n 3, 1) := by decide +kernel
theorem d_law_380 : decode code 380 = .ok (.iconst 3, 1) := by decide +kernel
theorem d_law_381 : decode code 381 = .ok (.iadd, 1) := by decide +kernel
theorem d_law_382 : decode code 382 = .ok (.iaload, 1) := by decide +kernel
theorem d_law_383 : decode code 383 = .ok (.invokevirtual 44, 3) := by decide +kernel
theorem d_law_386 : decode code 386 = .ok (.if_icmp .eq 363, 3) := by decide +kernel
theorem d_law_389 : decode code 389 = .ok (.iconst 0, 1) := by decide +kernel
theorem d_law_390 : decode code 390 = .ok (.ireturn, 1) := by decide +kernel
theorem d_law_391 : decode code 391 = .ok (.aload_n 1, 1) := by decide +kernel
theorem d_law_392 : decode code 392 = .ok (.aload_n 0, 1) := by decide +kernel
theorem d_law_393 : decode code 393 = .ok (.iload_n 3, 1) := by decide +kernel
theorem d_law_394 : decode code 394 = .ok (.iconst 1, 1) := by decide +kernel
theorem d_law_395 : decode code 395 = .ok (.iadd, 1) := by decide +kernel
theorem d_law_396 : decode code 396 = .ok (.iaload, 1) := by decide +kernel
theorem d_law_397 : decode code 397 = .ok (.aload_n 0, 1) := by decide +kernel
theorem d_law_398 : decode code 398 = .ok (.iload_n 3, 1) := by decide +kernel
theorem d_law_399 : decode code 399 = .ok (.iconst 2, 1) := by decide +kernel
theorem d_law_400 : decode code 400 = .ok (.iadd, 1) := by decide +kernel
theorem d_law_401 : decode code 401 = .ok (.iaload, 1) := by decide +kernel
theorem d_law_402 : decode code 402 = .ok (.invokevirtual 45, 3) := by decide +kernel
theorem d_law_405 : decode code 405 = .ok (.aload_n 2, 1) := by decide +kernel
theorem d_law_406 : decode code 406 = .ok (.aload_n 0, 1) := by decide +kernel
theorem d_law_407 : decode code 407 = .ok (.iload_n 3, 1) := by decide +kernel
theorem d_law_408 : decode code 408 = .ok (.iconst 1, 1) := by decide +kernel
theorem d_law_409 : decode code 409 = .ok (.iadd, 1) := by decide +kernel
theorem d_law_410 : decode code 410 = .ok (.iaload, 1) := by decide +kernel
theorem d_law_411 : decode code 411 = .ok (.aload_n 0, 1) := by decide +kernel
theorem d_law_412 : decode code 412 = .ok (.iload_n 3, 1) := by decide +kernel
theorem d_law_413 : decode code 413 = .ok (.iconst 2, 1) := by decide +kernel
theorem d_law_414 : decode code 414 = .ok (.iadd, 1) := by decide +kernel
theorem d_law_415 : decode code 415 = .ok (.iaload, 1) := by decide +kernel
theorem d_law_416 : decode code 416 = .ok (.invokevirtual 49, 3) := by decide +kernel
theorem d_law_419 : decode code 419 = .ok (.if_icmp .eq 330, 3) := by decide +kernel
theorem d_law_422 : decode code 422 = .ok (.iconst 0, 1) := by decide +kernel
theorem d_law_423 : decode code 423 = .ok (.ireturn, 1) := by decide +kernel
theorem d_law_424 : decode code 424 = .ok (.aload_n 1, 1) := by decide +kernel
theorem d_law_425 : decode code 425 = .ok (.aload_n 0, 1) := by decide +kernel
theorem d_law_426 : decode code 426 = .ok (.iload_n 3, 1) := by decide +kernel
theorem d_law_427 : decode code 427 = .ok (.iconst 1, 1) := by decide +kernel
theorem d_law_428 : decode code 428 = .ok (.iadd, 1) := by decide +kernel
theorem d_law_429 : decode code 429 = .ok (.iaload, 1) := by decide +kernel
theorem d_law_430 : decode code 430 = .ok (.aload_n 0, 1) := by decide +kernel
theorem d_law_431 : decode code 431 = .ok (.iload_n 3, 1) := by decide +kernel
theorem d_law_432 : decode code 432 = .ok (.iconst 2, 1) := by decide +kernel
theorem d_law_433 : decode code 433 = .ok (.iadd, 1) := by decide +kernel
theorem d_law_434 : decode code 434 = .ok (.iaload, 1) := by decide +kernel
theorem d_law_435 : decode code 435 = .ok (.invokevirtual 50, 3) := by decide +kernel
theorem d_law_438 : decode code 438 = .ok (.aload_n 2, 1) := by decide +kernel
theorem d_law_439 : decode code 439 = .ok (.aload_n 0, 1) := by decide +kernel
theorem d_law_440 : decode code 440 = .ok (.iload_n 3, 1) := by decide +kernel
theorem d_law_441 : decode code 441 = .ok (.iconst 1, 1) := by decide +kernel
theorem d_law_442 : decode code 442 = .ok (.iadd, 1) := by decide +kernel
theorem d_law_443 : decode code 443 = .ok (.iaload, 1) := by decide +kernel
theorem d_law_444 : decode code 444 = .ok (.aload_n 0, 1) := by decide +kernel
theorem d_law_445 : decode code 445 = .ok (.iload_n 3, 1) := by decide +kernel
theorem d_law_446 : decode code 446 = .ok (.iconst 2, 1) := by decide +kernel
theorem d_law_447 : decode code 447 = .ok (.iadd, 1) := by decide +kernel
theorem d_law_448 : decode code 448 = .ok (.iaload, 1) := by decide +kernel
theorem d_law_449 : decode code 449 = .ok (.invokevirtual 53, 3) := by decide +kernel
theorem d_law_452 : decode code 452 = .ok (.if_icmp .eq 297, 3) := by decide +kernel
theorem d_law_455 : decode code 455 = .ok (.iconst 0, 1) := by decide +kernel
theorem d_law_456 : decode code 456 = .ok (.ireturn, 1) := by decide +kernel
theorem d_law_457 : decode code 457 = .ok (.aload_n 1, 1) := by decide +kernel
theorem d_law_458 : decode code 458 = .ok (.aload_n 0, 1) := by decide +kernel
theorem d_law_459 : decode code 459 = .ok (.iload_n 3, 1) := by decide +kernel
theorem d_law_460 : decode code 460 = .ok (.iconst 1, 1) := by decide +kernel
theorem d_law_461 : decode code 461 = .ok (.iadd, 1) := by decide +kernel
theorem d_law_462 : decode code 462 = .ok (.iaload, 1) := by decide +kernel
theorem d_law_463 : decode code 463 = .ok (.aload_n 0, 1) := by decide +kernel
theorem d_law_464 : decode code 464 = .ok (.iload_n 3, 1) := by decide +kernel
theorem d_law_465 : decode code 465 = .ok (.iconst 2, 1) := by decide +kernel
theorem d_law_466 : decode code 466 = .ok (.iadd, 1) := by decide +kernel
theorem d_law_467 : decode code 467 = .ok (.iaload, 1) := by decide +kernel
theorem d_law_468 : decode code 468 = .ok (.invokevirtual 54, 3) := by decide +kernel
theorem d_law_471 : decode code 471 = .ok (.aload_n 2, 1) := by decide +kernel
theorem d_law_472 : decode code 472 = .ok (.aload_n 0, 1) := by decide +kernel
theorem d_law_473 : decode code 473 = .ok (.iload_n 3, 1) := by decide +kernel
theorem d_law_474 : decode code 474 = .ok (.iconst 1, 1) := by decide +kernel
theorem d_law_475 : decode code 475 = .ok (.iadd, 1) := by decide +kernel
theorem d_law_476 : decode code 476 = .ok (.iaload, 1) := by decide +kernel
theorem d_law_477 : decode code 477 = .ok (.aload_n 0, 1) := by decide +kernel
theorem d_law_478 : decode code 478 = .ok (.iload_n 3, 1) := by decide +kernel
theorem d_law_479 : decode code 479 = .ok (.iconst 2, 1) := by decide +kernel
theorem d_law_480 : decode code 480 = .ok (.iadd, 1) := by decide +kernel
theorem d_law_481 : decode code 481 = .ok (.iaload, 1) := by decide +kernel
theorem d_law_482 : decode code 482 = .ok (.invokevirtual 57, 3) := by decide +kernel
theorem d_law_485 : decode code 485 = .ok (.if_icmp .eq 264, 3) := by decide +kernel
theorem d_law_488 : decode code 488 = .ok (.iconst 0, 1) := by decide +kernel
theorem d_law_489 : decode code 489 = .ok (.ireturn, 1) := by decide +kernel
theorem d_law_490 : decode code 490 = .ok (.aload_n 1, 1) := by decide +kernel
theorem d_law_491 : decode code 491 = .ok (.aload_n 0, 1) := by decide +kernel
theorem d_law_492 : decode code 492 = .ok (.iload_n 3, 1) := by decide +kernel
theorem d_law_493 : decode code 493 = .ok (.iconst 1, 1) := by decide +kernel
theorem d_law_494 : decode code 494 = .ok (.iadd, 1) := by decide +kernel
theorem d_law_495 : decode code 495 = .ok (.iaload, 1) := by decide +kernel
theorem d_law_496 : decode code 496 = .ok (.i2c, 1) := by decide +kernel
theorem d_law_497 : decode code 497 = .ok (.invokevirtual 58, 3) := by decide +kernel
theorem d_law_500 : decode code 500 = .ok (.aload_n 2, 1) := by decide +kernel
theorem d_law_501 : decode code 501 = .ok (.aload_n 0, 1) := by decide +kernel
theorem d_law_502 : decode code 502 = .ok (.iload_n 3, 1) := by decide +kernel
theorem d_law_503 : decode code 503 = .ok (.iconst 1, 1) := by decide +kernel
theorem d_law_504 : decode code 504 = .ok (.iadd, 1) := by decide +kernel
theorem d_law_505 : decode code 505 = .ok (.iaload, 1) := by decide +kernel
theorem d_law_506 : decode code 506 = .ok (.i2c, 1) := by decide +kernel
theorem d_law_507 : decode code 507 = .ok (.invokevirtual 62, 3) := by decide +kernel
theorem d_law_510 : decode code 510 = .ok (.if_icmp .eq 239, 3) := by decide +kernel
theorem d_law_513 : decode code 513 = .ok (.iconst 0, 1) := by decide +kernel
theorem d_law_514 : decode code 514 = .ok (.ireturn, 1) := by decide +kernel
theorem d_law_515 : decode code 515 = .ok (.aload_n 1, 1) := by decide +kernel
theorem d_law_516 : decode code 516 = .ok (.aload_n 0, 1) := by decide +kernel
theorem d_law_517 : decode code 517 = .ok (.iload_n 3, 1) := by decide +kernel
theorem d_law_518 : decode code 518 = .ok (.iconst 1, 1) := by decide +kernel
theorem d_law_519 : decode code 519 = .ok (.iadd, 1) := by decide +kernel
theorem d_law_520 : decode code 520 = .ok (.iaload, 1) := by decide +kernel
theorem d_law_521 : decode code 521 = .ok (.aload_n 0, 1) := by decide +kernel
theorem d_law_522 : decode code 522 = .ok (.iload_n 3, 1) := by decide +kernel
theorem d_law_523 : decode code 523 = .ok (.iconst 2, 1) := by decide +kernel
theorem d_law_524 : decode code 524 = .ok (.iadd, 1) := by decide +kernel
theorem d_law_525 : decode code 525 = .ok (.iaload, 1) := by decide +kernel
theorem d_law_526 : decode code 526 = .ok (.i2c, 1) := by decide +kernel
theorem d_law_527 : decode code 527 = .ok (.invokevirtual 63, 3) := by decide +kernel
theorem d_law_530 : decode code 530 = .ok (.aload_n 2, 1) := by decide +kernel
theorem d_law_531 : decode code 531 = .ok (.aload_n 0, 1) := by decide +kernel
theorem d_law_532 : decode code 532 = .ok (.iload_n 3, 1) := by decide +kernel
theorem d_law_533 : decode code 533 = .ok (.iconst 1, 1) := by decide +kernel
theorem d_law_534 : decode code 534 = .ok (.iadd, 1) := by decide +kernel
theorem d_law_535 : decode code 535 = .ok (.iaload, 1) := by decide +kernel
theorem d_law_536 : decode code 536 = .ok (.aload_n 0, 1) := by decide +kernel
theorem d_law_537 : decode code 537 = .ok (.iload_n 3, 1) := by decide +kernel
theorem d_law_538 : decode code 538 = .ok (.iconst 2, 1) := by decide +kernel
theorem d_law_539 : decode code 539 = .ok (.iadd, 1) := by decide +kernel
theorem d_law_540 : decode code 540 = .ok (.iaload, 1) := by decide +kernel
theorem d_law_541 : decode code 541 = .ok (.i2c, 1) := by decide +kernel
theorem d_law_542 : decode code 542 = .ok (.invokevirtual 67, 3) := by decide +kernel
theorem d_law_545 : decode code 545 = .ok (.if_icmp .eq 204, 3) := by decide +kernel
theorem d_law_548 : decode code 548 = .ok (.iconst 0, 1) := by decide +kernel
theorem d_law_549 : decode code 549 = .ok (.ireturn, 1) := by decide +kernel
theorem d_law_550 : decode code 550 = .ok (.aload_n 1, 1) := by decide +kernel
theorem d_law_551 : decode code 551 = .ok (.aload_n 0, 1) := by decide +kernel
theorem d_law_552 : decode code 552 = .ok (.iload_n 3, 1) := by decide +kernel
theorem d_law_553 : decode code 553 = .ok (.iconst 1, 1) := by decide +kernel
theorem d_law_554 : decode code 554 = .ok (.iadd, 1) := by decide +kernel
theorem d_law_555 : decode code 555 = .ok (.iaload, 1) := by decide +kernel
theorem d_law_556 : decode code 556 = .ok (.ifCond .eq 7, 3) := by decide +kernel
theorem d_law_559 : decode code 559 = .ok (.iconst 1, 1) := by decide +kernel
theorem d_law_560 : decode code 560 = .ok (.goto 4, 3) := by decide +kernel
theorem d_law_563 : decode code 563 = .ok (.iconst 0, 1) := by decide +kernel
theorem d_law_564 : decode code 564 = .ok (.invokevirtual 68, 3) := by decide +kernel
theorem d_law_567 : decode code 567 = .ok (.aload_n 2, 1) := by decide +kernel
theorem d_law_568 : decode code 568 = .ok (.aload_n 0, 1) := by decide +kernel
theorem d_law_569 : decode code 569 = .ok (.iload_n 3, 1) := by decide +kernel
theorem d_law_570 : decode code 570 = .ok (.iconst 1, 1) := by decide +kernel
theorem d_law_571 : decode code 571 = .ok (.iadd, 1) := by decide +kernel
theorem d_law_572 : decode code 572 = .ok (.iaload, 1) := by decide +kernel
theorem d_law_573 : decode code 573 = .ok (.ifCond .eq 7, 3) := by decide +kernel
theorem d_law_576 : decode code 576 = .ok (.iconst 1, 1) := by decide +kernel
theorem d_law_577 : decode code 577 = .ok (.goto 4, 3) := by decide +kernel
theorem d_law_580 : decode code 580 = .ok (.iconst 0, 1) := by decide +kernel
theorem d_law_581 : decode code 581 = .ok (.invokevirtual 72, 3) := by decide +kernel
theorem d_law_584 : decode code 584 = .ok (.if_icmp .eq 165, 3) := by decide +kernel
theorem d_law_587 : decode code 587 = .ok (.iconst 0, 1) := by decide +kernel
theorem d_law_588 : decode code 588 = .ok (.ireturn, 1) := by decide +kernel
theorem d_law_589 : decode code 589 = .ok (.aload_n 1, 1) := by decide +kernel
theorem d_law_590 : decode code 590 = .ok (.aload_n 0, 1) := by decide +kernel
theorem d_law_591 : decode code 591 = .ok (.iload_n 3, 1) := by decide +kernel
theorem d_law_592 : decode code 592 = .ok (.iconst 1, 1) := by decide +kernel
theorem d_law_593 : decode code 593 = .ok (.iadd, 1) := by decide +kernel
theorem d_law_594 : decode code 594 = .ok (.iaload, 1) := by decide +kernel
theorem d_law_595 : decode code 595 = .ok (.ifCond .eq 7, 3) := by decide +kernel
theorem d_law_598 : decode code 598 = .ok (.iconst 1, 1) := by decide +kernel
theorem d_law_599 : decode code 599 = .ok (.goto 4, 3) := by decide +kernel
theorem d_law_602 : decode code 602 = .ok (.iconst 0, 1) := by decide +kernel
theorem d_law_603 : decode code 603 = .ok (.aload_n 0, 1) := by decide +kernel
theorem d_law_604 : decode code 604 = .ok (.iload_n 3, 1) := by decide +kernel
theorem d_law_605 : decode code 605 = .ok (.iconst 2, 1) := by decide +kernel
theorem d_law_606 : decode code 606 = .ok (.iadd, 1) := by decide +kernel
theorem d_law_607 : decode code 607 = .ok (.iaload, 1) := by decide +kernel
theorem d_law_608 : decode code 608 = .ok (.invokevirtual 73, 3) := by decide +kernel
theorem d_law_611 : decode code 611 = .ok (.aload_n 2, 1) := by decide +kernel
theorem d_law_612 : decode code 612 = .ok (.aload_n 0, 1) := by decide +kernel
theorem d_law_613 : decode code 613 = .ok (.iload_n 3, 1) := by decide +kernel
theorem d_law_614 : decode code 614 = .ok (.iconst 1, 1) := by decide +kernel
theorem d_law_615 : decode code 615 = .ok (.iadd, 1) := by decide +kernel
theorem d_law_616 : decode code 616 = .ok (.iaload, 1) := by decide +kernel
theorem d_law_617 : decode code 617 = .ok (.ifCond .eq 7, 3) := by decide +kernel
theorem d_law_620 : decode code 620 = .ok (.iconst 1, 1) := by decide +kernel
theorem d_law_621 : decode code 621 = .ok (.goto 4, 3) := by decide +kernel
theorem d_law_624 : decode code 624 = .ok (.iconst 0, 1) := by decide +kernel
theorem d_law_625 : decode code 625 = .ok (.aload_n 0, 1) := by decide +kernel
theorem d_law_626 : decode code 626 = .ok (.iload_n 3, 1) := by decide +kernel
theorem d_law_627 : decode code 627 = .ok (.iconst 2, 1) := by decide +kernel
theorem d_law_628 : decode code 628 = .ok (.iadd, 1) := by decide +kernel
theorem d_law_629 : decode code 629 = .ok (.iaload, 1) := by decide +kernel
theorem d_law_630 : decode code 630 = .ok (.invokevirtual 77, 3) := by decide +kernel
theorem d_law_633 : decode code 633 = .ok (.if_icmp .eq 116, 3) := by decide +kernel
theorem d_law_636 : decode code 636 = .ok (.iconst 0, 1) := by decide +kernel
theorem d_law_637 : decode code 637 = .ok (.ireturn, 1) := by decide +kernel
theorem d_law_638 : decode code 638 = .ok (.aload_n 1, 1) := by decide +kernel
theorem d_law_639 : decode code 639 = .ok (.invokevirtual 78, 3) := by decide +kernel
theorem d_law_642 : decode code 642 = .ok (.aload_n 2, 1) := by decide +kernel
theorem d_law_643 : decode code 643 = .ok (.invokevirtual 82, 3) := by decide +kernel
theorem d_law_646 : decode code 646 = .ok (.if_icmp .eq 103, 3) := by decide +kernel
theorem d_law_649 : decode code 649 = .ok (.iconst 0, 1) := by decide +kernel
theorem d_law_650 : decode code 650 = .ok (.ireturn, 1) := by decide +kernel
theorem d_law_651 : decode code 651 = .ok (.aload_n 1, 1) := by decide +kernel
theorem d_law_652 : decode code 652 = .ok (.invokevirtual 83, 3) := by decide +kernel
theorem d_law_655 : decode code 655 = .ok (.aload_n 2, 1) := by decide +kernel
theorem d_law_656 : decode code 656 = .ok (.invokevirtual 86, 3) := by decide +kernel
theorem d_law_659 : decode code 659 = .ok (.if_icmp .eq 90, 3) := by decide +kernel
theorem d_law_662 : decode code 662 = .ok (.iconst 0, 1) := by decide +kernel
theorem d_law_663 : decode code 663 = .ok (.ireturn, 1) := by decide +kernel
theorem d_law_664 : decode code 664 = .ok (.aload_n 1, 1) := by decide +kernel
theorem d_law_665 : decode code 665 = .ok (.aload_n 0, 1) := by decide +kernel
theorem d_law_666 : decode code 666 = .ok (.iload_n 3, 1) := by decide +kernel
theorem d_law_667 : decode code 667 = .ok (.iconst 1, 1) := by decide +kernel
theorem d_law_668 : decode code 668 = .ok (.iadd, 1) := by decide +kernel
theorem d_law_669 : decode code 669 = .ok (.iaload, 1) := by decide +kernel
theorem d_law_670 : decode code 670 = .ok (.invokevirtual 87, 3) := by decide +kernel
theorem d_law_673 : decode code 673 = .ok (.aload_n 2, 1) := by decide +kernel
theorem d_law_674 : decode code 674 = .ok (.aload_n 0, 1) := by decide +kernel
theorem d_law_675 : decode code 675 = .ok (.iload_n 3, 1) := by decide +kernel
theorem d_law_676 : decode code 676 = .ok (.iconst 1, 1) := by decide +kernel
theorem d_law_677 : decode code 677 = .ok (.iadd, 1) := by decide +kernel
theorem d_law_678 : decode code 678 = .ok (.iaload, 1) := by decide +kernel
theorem d_law_679 : decode code 679 = .ok (.invokevirtual 91, 3) := by decide +kernel
theorem d_law_682 : decode code 682 = .ok (.if_icmp .eq 67, 3) := by decide +kernel
theorem d_law_685 : decode code 685 = .ok (.iconst 0, 1) := by decide +kernel
theorem d_law_686 : decode code 686 = .ok (.ireturn, 1) := by decide +kernel
theorem d_law_687 : decode code 687 = .ok (.aload_n 1, 1) := by decide +kernel
theorem d_law_688 : decode code 688 = .ok (.invokevirtual 92, 3) := by decide +kernel
theorem d_law_691 : decode code 691 = .ok (.aload_n 2, 1) := by decide +kernel
theorem d_law_692 : decode code 692 = .ok (.invokevirtual 95, 3) := by decide +kernel
theorem d_law_695 : decode code 695 = .ok (.if_icmp .eq 54, 3) := by decide +kernel
theorem d_law_698 : decode code 698 = .ok (.iconst 0, 1) := by decide +kernel
theorem d_law_699 : decode code 699 = .ok (.ireturn, 1) := by decide +kernel
theorem d_law_700 : decode code 700 = .ok (.aload_n 1, 1) := by decide +kernel
theorem d_law_701 : decode code 701 = .ok (.aload_n 0, 1) := by decide +kernel
theorem d_law_702 : decode code 702 = .ok (.iload_n 3, 1) := by decide +kernel
theorem d_law_703 : decode code 703 = .ok (.iconst 1, 1) := by decide +kernel
theorem d_law_704 : decode code 704 = .ok (.iadd, 1) := by decide +kernel
theorem d_law_705 : decode code 705 = .ok (.iaload, 1) := by decide +kernel
theorem d_law_706 : decode code 706 = .ok (.aload_n 0, 1) := by decide +kernel
theorem d_law_707 : decode code 707 = .ok (.iload_n 3, 1) := by decide +kernel
theorem d_law_708 : decode code 708 = .ok (.iconst 2, 1) := by decide +kernel
theorem d_law_709 : decode code 709 = .ok (.iadd, 1) := by decide +kernel
theorem d_law_710 : decode code 710 = .ok (.iaload, 1) := by decide +kernel
theorem d_law_711 : decode code 711 = .ok (.ifCond .eq 7, 3) := by decide +kernel
theorem d_law_714 : decode code 714 = .ok (.iconst 1, 1) := by decide +kernel
theorem d_law_715 : decode code 715 = .ok (.goto 4, 3) := by decide +kernel
theorem d_law_718 : decode code 718 = .ok (.iconst 0, 1) := by decide +kernel
theorem d_law_719 : decode code 719 = .ok (.invokevirtual 96, 3) := by decide +kernel
theorem d_law_722 : decode code 722 = .ok (.aload_n 2, 1) := by decide +kernel
theorem d_law_723 : decode code 723 = .ok (.aload_n 0, 1) := by decide +kernel
theorem d_law_724 : decode code 724 = .ok (.iload_n 3, 1) := by decide +kernel
theorem d_law_725 : decode code 725 = .ok (.iconst 1, 1) := by decide +kernel
theorem d_law_726 : decode code 726 = .ok (.iadd, 1) := by decide +kernel
theorem d_law_727 : decode code 727 = .ok (.iaload, 1) := by decide +kernel
theorem d_law_728 : decode code 728 = .ok (.aload_n 0, 1) := by decide +kernel
theorem d_law_729 : decode code 729 = .ok (.iload_n 3, 1) := by decide +kernel
theorem d_law_730 : decode code 730 = .ok (.iconst 2, 1) := by decide +kernel
theorem d_law_731 : decode code 731 = .ok (.iadd, 1) := by decide +kernel
theorem d_law_732 : decode code 732 = .ok (.iaload, 1) := by decide +kernel
theorem d_law_733 : decode code 733 = .ok (.ifCond .eq 7, 3) := by decide +kernel
theorem d_law_736 : decode code 736 = .ok (.iconst 1, 1) := by decide +kernel
theorem d_law_737 : decode code 737 = .ok (.goto 4, 3) := by decide +kernel
theorem d_law_740 : decode code 740 = .ok (.iconst 0, 1) := by decide +kernel
theorem d_law_741 : decode code 741 = .ok (.invokevirtual 100, 3) := by decide +kernel
theorem d_law_744 : decode code 744 = .ok (.if_icmp .eq 5, 3) := by decide +kernel
theorem d_law_747 : decode code 747 = .ok (.iconst 0, 1) := by decide +kernel
theorem d_law_748 : decode code 748 = .ok (.ireturn, 1) := by decide +kernel
theorem d_law_749 : decode code 749 = .ok (.iinc 3 6, 3) := by decide +kernel
theorem d_law_752 : decode code 752 = .ok (.goto (-694), 3) := by decide +kernel
theorem d_law_755 : decode code 755 = .ok (.iconst 1, 1) := by decide +kernel
theorem d_law_756 : decode code 756 = .ok (.ireturn, 1) := by decide +kernel
set_option maxRecDepth 20000 in
theorem me_GrantServerModel_active : hm_meV y_GrantServerModel_active b_GrantServerModel_active 4 (some .boolean) 2 := ⟨⟨(TBm 890 rfl rfl), (TBm 47 (by decide +kernel) rfl), by decide +kernel⟩, (TBm 888 (by decide +kernel) rfl), (TBm 889 (by decide +kernel) rfl)⟩
set_option maxRecDepth 20000 in
theorem me_GrantServerModel_alter : hm_meV y_GrantServerModel_alter b_GrantServerModel_alter 3 (some .boolean) 2 := ⟨⟨(TBm 917 rfl rfl), (TBm 47 (by decide +kernel) rfl), by decide +kernel⟩, (TBm 915 (by decide +kernel) rfl), (TBm 916 (by decide +kernel) rfl)⟩
set_option maxRecDepth 20000 in
theorem me_GrantServerModel_authorize : hm_meV y_GrantServerModel_authorize b_GrantServerModel_authorize 7 (some .int) 5 := ⟨⟨(TBm 801 rfl rfl), (TBm 47 (by decide +kernel) rfl), by decide +kernel⟩, (TBm 799 (by decide +kernel) rfl), (TBm 800 (by decide +kernel) rfl)⟩
set_option maxRecDepth 20000 in
theorem me_GrantServerModel_client : hm_meV y_GrantServerModel_client b_GrantServerModel_client 4 (some .int) 3 := ⟨⟨(TBm 789 rfl rfl), (TBm 47 (by decide +kernel) rfl), by decide +kernel⟩, (TBm 787 (by decide +kernel) rfl), (TBm 788 (by decide +kernel) rfl)⟩
set_option maxRecDepth 20000 in
theorem me_GrantServerModel_count : hm_meV y_GrantServerModel_count b_GrantServerModel_count 5 (some .int) 2 := ⟨⟨(TBm 898 rfl rfl), (TBm 47 (by decide +kernel) rfl), by decide +kernel⟩, (TBm 896 (by decide +kernel) rfl), (TBm 897 (by decide +kernel) rfl)⟩
set_option maxRecDepth 20000 in
theorem me_GrantServerModel_key : hm_meV y_GrantServerModel_key b_GrantServerModel_key 2 (some .boolean) 1 := ⟨⟨(TBm 910 rfl rfl), (TBm 47 (by decide +kernel) rfl), by decide +kernel⟩, (TBm 908 (by decide +kernel) rfl), (TBm 909 (by decide +kernel) rfl)⟩
set_option maxRecDepth 20000 in
theorem me_GrantServerModel_letter : hm_meV y_GrantServerModel_letter b_GrantServerModel_letter 3 (some .int) 2 := ⟨⟨(TBm 925 rfl rfl), (TBm 47 (by decide +kernel) rfl), by decide +kernel⟩, (TBm 923 (by decide +kernel) rfl), (TBm 924 (by decide +kernel) rfl)⟩
set_option maxRecDepth 20000 in
theorem me_GrantServerModel_login : hm_meV y_GrantServerModel_login b_GrantServerModel_login 3 (some .boolean) 2 := ⟨⟨(TBm 793 rfl rfl), (TBm 47 (by decide +kernel) rfl), by decide +kernel⟩, (TBm 791 (by decide +kernel) rfl), (TBm 792 (by decide +kernel) rfl)⟩
set_option maxRecDepth 20000 in
theorem me_GrantServerModel_sweep : hm_meV y_GrantServerModel_sweep b_GrantServerModel_sweep 3 (some .int) 0 := ⟨⟨(TBm 894 rfl rfl), (TBm 47 (by decide +kernel) rfl), by decide +kernel⟩, (TBm 892 (by decide +kernel) rfl), (TBm 893 (by decide +kernel) rfl)⟩
set_option maxRecDepth 20000 in
theorem me_GrantServerModel_take : hm_meV y_GrantServerModel_take b_GrantServerModel_take 3 (some .int) 1 := ⟨⟨(TBm 921 rfl rfl), (TBm 47 (by decide +kernel) rfl), by decide +kernel⟩, (TBm 919 (by decide +kernel) rfl), (TBm 920 (by decide +kernel) rfl)⟩
set_option maxRecDepth 20000 in
theorem me_GrantServerModel_tick : hm_meV y_GrantServerModel_tick b_GrantServerModel_tick 2 (some .boolean) 1 := ⟨⟨(TBm 902 rfl rfl), (TBm 47 (by decide +kernel) rfl), by decide +kernel⟩, (TBm 900 (by decide +kernel) rfl), (TBm 901 (by decide +kernel) rfl)⟩
set_option maxRecDepth 20000 in
theorem me_GrantServerModel_wrap : hm_meV y_GrantServerModel_wrap b_GrantServerModel_wrap 2 (some .int) 0 := ⟨⟨(TBm 906 rfl rfl), (TBm 47 (by decide +kernel) rfl), by decide +kernel⟩, (TBm 904 (by decide +kernel) rfl), (TBm 905 (by decide +kernel) rfl)⟩
set_option maxRecDepth 20000 in
theorem me_GrantServer_active : hm_meV y_GrantServer_active b_GrantServer_active 4 (some .boolean) 2 := ⟨⟨(TBm 470 rfl rfl), (TBm 40 (by decide +kernel) rfl), by decide +kernel⟩, (TBm 468 (by decide +kernel) rfl), (TBm 469 (by decide +kernel) rfl)⟩
set_option maxRecDepth 20000 in
theorem me_GrantServer_alter : hm_meV y_GrantServer_alter b_GrantServer_alter 3 (some .boolean) 2 := ⟨⟨(TBm 622 rfl rfl), (TBm 40 (by decide +kernel) rfl), by decide +kernel⟩, (TBm 620 (by decide +kernel) rfl), (TBm 621 (by decide +kernel) rfl)⟩
set_option maxRecDepth 20000 in
theorem me_GrantServer_authorize : hm_meV y_GrantServer_authorize b_GrantServer_authorize 8 (some .int) 5 := ⟨⟨(TBm 260 rfl rfl), (TBm 40 (by decide +kernel) rfl), by decide +kernel⟩, (TBm 258 (by decide +kernel) rfl), (TBm 259 (by decide +kernel) rfl)⟩
set_option maxRecDepth 20000 in
theorem me_GrantServer_challenge : hm_meV y_GrantServer_challenge b_GrantServer_challenge 1 (some .int) 0 := ⟨⟨(TBm 647 rfl rfl), (TBm 40 (by decide +kernel) rfl), by decide +kernel⟩, (TBm 645 (by decide +kernel) rfl), (TBm 646 (by decide +kernel) rfl)⟩
set_option maxRecDepth 20000 in
theorem me_GrantServer_client : hm_meV y_GrantServer_client b_GrantServer_client 4 (some .int) 3 := ⟨⟨(TBm 227 rfl rfl), (TBm 40 (by decide +kernel) rfl), by decide +kernel⟩, (TBm 225 (by decide +kernel) rfl), (TBm 226 (by decide +kernel) rfl)⟩
set_option maxRecDepth 20000 in
theorem me_GrantServer_count : hm_meV y_GrantServer_count b_GrantServer_count 4 (some .int) 2 := ⟨⟨(TBm 675 rfl rfl), (TBm 40 (by decide +kernel) rfl), by decide +kernel⟩, (TBm 673 (by decide +kernel) rfl), (TBm 674 (by decide +kernel) rfl)⟩
set_option maxRecDepth 20000 in
theorem me_GrantServer_key : hm_meV y_GrantServer_key b_GrantServer_key 2 (some .boolean) 1 := ⟨⟨(TBm 614 rfl rfl), (TBm 40 (by decide +kernel) rfl), by decide +kernel⟩, (TBm 612 (by decide +kernel) rfl), (TBm 613 (by decide +kernel) rfl)⟩
set_option maxRecDepth 20000 in
theorem me_GrantServer_letter : hm_meV y_GrantServer_letter b_GrantServer_letter 3 (some .int) 2 := ⟨⟨(TBm 642 rfl rfl), (TBm 40 (by decide +kernel) rfl), by decide +kernel⟩, (TBm 640 (by decide +kernel) rfl), (TBm 641 (by decide +kernel) rfl)⟩
set_option maxRecDepth 20000 in
theorem me_GrantServer_login : hm_meV y_GrantServer_login b_GrantServer_login 5 (some .boolean) 2 := ⟨⟨(TBm 252 rfl rfl), (TBm 40 (by decide +kernel) rfl), by decide +kernel⟩, (TBm 250 (by decide +kernel) rfl), (TBm 251 (by decide +kernel) rfl)⟩
set_option maxRecDepth 20000 in
theorem me_GrantServer_sweep : hm_meV y_GrantServer_sweep b_GrantServer_sweep 1 (some .int) 0 := ⟨⟨(TBm 663 rfl rfl), (TBm 40 (by decide +kernel) rfl), by decide +kernel⟩, (TBm 661 (by decide +kernel) rfl), (TBm 662 (by decide +kernel) rfl)⟩
set_option maxRecDepth 20000 in
theorem me_GrantServer_take : hm_meV y_GrantServer_take b_GrantServer_take 2 (some .int) 1 := ⟨⟨(TBm 630 rfl rfl), (TBm 40 (by decide +kernel) rfl), by decide +kernel⟩, (TBm 628 (by decide +kernel) rfl), (TBm 629 (by decide +kernel) rfl)⟩
set_option maxRecDepth 20000 in
theorem me_GrantServer_tick : hm_meV y_GrantServer_tick b_GrantServer_tick 2 (some .boolean) 1 := ⟨⟨(TBm 659 rfl rfl), (TBm 40 (by decide +kernel) rfl), by decide +kernel⟩, (TBm 657 (by decide +kernel) rfl), (TBm 658 (by decide +kernel) rfl)⟩
set_option maxRecDepth 20000 in
theorem me_GrantServer_wrap : hm_meV y_GrantServer_wrap b_GrantServer_wrap 1 (some .int) 0 := ⟨⟨(TBm 651 rfl rfl), (TBm 40 (by decide +kernel) rfl), by decide +kernel⟩, (TBm 649 (by decide +kernel) rfl), (TBm 650 (by decide +kernel) rfl)⟩
set_option maxRecDepth 20000 in
theorem wl_GrantServerLaw_100 : Cond.methodLink R_GrantServerLaw 100 y_GrantServerModel_count ∈ TB := TBm 895 (by decide +kernel) rfl
set_option maxRecDepth 20000 in
theorem wl_GrantServerLaw_21 : Cond.methodLink R_GrantServerLaw 21 y_GrantServer_client ∈ TB := TBm 224 (by decide +kernel) rfl
set_option maxRecDepth 20000 in
theorem wl_GrantServerLaw_25 : Cond.methodLink R_GrantServerLaw 25 y_GrantServerModel_client ∈ TB := TBm 786 (by decide +kernel) rfl
set_option maxRecDepth 20000 in
theorem wl_GrantServerLaw_26 : Cond.methodLink R_GrantServerLaw 26 y_GrantServer_login ∈ TB := TBm 249 (by decide +kernel) rfl
set_option maxRecDepth 20000 in
theorem wl_GrantServerLaw_30 : Cond.methodLink R_GrantServerLaw 30 y_GrantServerModel_login ∈ TB := TBm 790 (by decide +kernel) rfl
set_option maxRecDepth 20000 in
theorem wl_GrantServerLaw_31 : Cond.methodLink R_GrantServerLaw 31 y_GrantServer_authorize ∈ TB := TBm 257 (by decide +kernel) rfl
set_option maxRecDepth 20000 in
theorem wl_GrantServerLaw_35 : Cond.methodLink R_GrantServerLaw 35 y_GrantServerModel_authorize ∈ TB := TBm 798 (by decide +kernel) rfl
set_option maxRecDepth 20000 in
theorem wl_GrantServerLaw_50 : Cond.methodLink R_GrantServerLaw 50 y_GrantServer_active ∈ TB := TBm 467 (by decide +kernel) rfl
set_option maxRecDepth 20000 in
theorem wl_GrantServerLaw_53 : Cond.methodLink R_GrantServerLaw 53 y_GrantServerModel_active ∈ TB := TBm 887 (by decide +kernel) rfl
set_option maxRecDepth 20000 in
theorem wl_GrantServerLaw_58 : Cond.methodLink R_GrantServerLaw 58 y_GrantServer_key ∈ TB := TBm 611 (by decide +kernel) rfl
set_option maxRecDepth 20000 in
theorem wl_GrantServerLaw_62 : Cond.methodLink R_GrantServerLaw 62 y_GrantServerModel_key ∈ TB := TBm 907 (by decide +kernel) rfl
set_option maxRecDepth 20000 in
theorem wl_GrantServerLaw_63 : Cond.methodLink R_GrantServerLaw 63 y_GrantServer_alter ∈ TB := TBm 619 (by decide +kernel) rfl
set_option maxRecDepth 20000 in
theorem wl_GrantServerLaw_67 : Cond.methodLink R_GrantServerLaw 67 y_GrantServerModel_alter ∈ TB := TBm 914 (by decide +kernel) rfl
set_option maxRecDepth 20000 in
theorem wl_GrantServerLaw_68 : Cond.methodLink R_GrantServerLaw 68 y_GrantServer_take ∈ TB := TBm 627 (by decide +kernel) rfl
set_option maxRecDepth 20000 in
theorem wl_GrantServerLaw_72 : Cond.methodLink R_GrantServerLaw 72 y_GrantServerModel_take ∈ TB := TBm 918 (by decide +kernel) rfl
set_option maxRecDepth 20000 in
theorem wl_GrantServerLaw_73 : Cond.methodLink R_GrantServerLaw 73 y_GrantServer_letter ∈ TB := TBm 639 (by decide +kernel) rfl
set_option maxRecDepth 20000 in
theorem wl_GrantServerLaw_77 : Cond.methodLink R_GrantServerLaw 77 y_GrantServerModel_letter ∈ TB := TBm 922 (by decide +kernel) rfl
set_option maxRecDepth 20000 in
theorem wl_GrantServerLaw_78 : Cond.methodLink R_GrantServerLaw 78 y_GrantServer_challenge ∈ TB := TBm 644 (by decide +kernel) rfl
set_option maxRecDepth 20000 in
theorem wl_GrantServerLaw_82 : Cond.methodLink R_GrantServerLaw 82 y_GrantServerModel_challenge ∈ TB := TBm 926 (by decide +kernel) rfl
set_option maxRecDepth 20000 in
theorem wl_GrantServerLaw_83 : Cond.methodLink R_GrantServerLaw 83 y_GrantServer_wrap ∈ TB := TBm 648 (by decide +kernel) rfl
set_option maxRecDepth 20000 in
theorem wl_GrantServerLaw_86 : Cond.methodLink R_GrantServerLaw 86 y_GrantServerModel_wrap ∈ TB := TBm 903 (by decide +kernel) rfl
set_option maxRecDepth 20000 in
theorem wl_GrantServerLaw_87 : Cond.methodLink R_GrantServerLaw 87 y_GrantServer_tick ∈ TB := TBm 656 (by decide +kernel) rfl
set_option maxRecDepth 20000 in
theorem wl_GrantServerLaw_91 : Cond.methodLink R_GrantServerLaw 91 y_GrantServerModel_tick ∈ TB := TBm 899 (by decide +kernel) rfl
set_option maxRecDepth 20000 in
theorem wl_GrantServerLaw_92 : Cond.methodLink R_GrantServerLaw 92 y_GrantServer_sweep ∈ TB := TBm 660 (by decide +kernel) rfl
set_option maxRecDepth 20000 in
theorem wl_GrantServerLaw_95 : Cond.methodLink R_GrantServerLaw 95 y_GrantServerModel_sweep ∈ TB := TBm 891 (by decide +kernel) rfl
set_option maxRecDepth 20000 in
theorem wl_GrantServerLaw_96 : Cond.methodLink R_GrantServerLaw 96 y_GrantServer_count ∈ TB := TBm 672 (by decide +kernel) rfl
set_option maxHeartbeats 40000000 in
set_option maxRecDepth 100000 in
theorem lw_c0 {p : Program} {e : Env} {s : State} {m : MethodId} {below : List Frame} {meth : Method} {cd : Code} {l : Launch} {b L : Nat} {xs : Nat → Int32} {D : va_G} {k : Nat → ClassId} {A : Nat → Prop} {sA sV : Nat → Nat} {h9 : Nat} {adM : Nat → Nat} {Q : State → Prop} {sk : Int64}
    (X : CallFix p m cd code 4 s #[Value.ref b] TB R_GrantServerLaw) (hX : va_X b L xs s s.heap) (hbl : b < s.heap.size) (hbA : ¬ A b) (hK : hm_K D vwCl (tyL k) s) (hA : ∀ q, s.heap.size ≤ q → A q) (hZ : hm_Z sA sV A s s.heap)
    {f : hm} {a : cA} {S : cS} {sg : Nat → Nat → Nat} {v : Nat → Int32} {c : Nat → Nat → Int32} {B C Sl : Nat} {H : Heap} {locs : List Loc} {ls : Array Slot} (hB : B < 512) (hi : 4 + 6 * B + 6 ≤ L) (hL : L ≤ 3076) (hC : C ≤ 10000) (hSl : Sl ≤ 20000)
    (hI : lw_I k f a S h9 adM sk v c sg B) (hM : hm_W D vwCl A f H) (hS : va_S A s.heap H locs) (hl : lv_has ls 4 [(3, .int (nI (4 + 6 * B))), (2, .ref h9), (1, .ref (aF a 0)), (0, .ref b)])
    (next : ∀ (f' : hm) (a' : cA) (S' : cS) (sg' : Nat → Nat → Nat) (v' : Nat → Int32) (c' : Nat → Nat → Int32) (H' : Heap) (locs' : List Loc), aF a' 0 = aF a 0 → lw_I k f' a' S' h9 adM sk v' c' sg' (B + 1) → hm_W D vwCl A f' H' → va_S A s.heap H' locs' → W p l e room_1 s m #[Value.ref b] below meth cd H' locs' (C + 1) (Sl + 3) Q (F0 m 749 ls [])) :
    W p l e room_1 s m #[Value.ref b] below meth cd H locs C Sl Q (F0 m 156 ls []) := by
  obtain ⟨hcs, hdj, hmo, hrl⟩ := hI
  have hx := X.1; have hb := X.2.1; have hml := X.2.2.1; have hown := X.2.2.2.1; have hts := X.2.2.2.2
  obtain ⟨x1, ex1⟩ : ∃ z, xs (4 + 6 * B + 1) = z := ⟨_, rfl⟩
  obtain ⟨x2, ex2⟩ : ∃ z, xs (4 + 6 * B + 2) = z := ⟨_, rfl⟩
  obtain ⟨x3, ex3⟩ : ∃ z, xs (4 + 6 * B + 3) = z := ⟨_, rfl⟩
  obtain ⟨x4, ex4⟩ : ∃ z, xs (4 + 6 * B + 4) = z := ⟨_, rfl⟩
  obtain ⟨x5, ex5⟩ : ∃ z, xs (4 + 6 * B + 5) = z := ⟨_, rfl⟩
  refine lv_aload_n hx hb d_law_156 rfl (lv_at hl 2 rfl) ?_
  refine lv_aload_n hx hb d_law_157 rfl (lv_at hl 3 rfl) ?_
  refine lv_iload_n hx hb d_law_158 rfl (lv_at hl 0 rfl) ?_
  refine lv_iconst (v := 1) hx hb d_law_159 (by decide) ?_
  refine lv_iadd hx hb d_law_160 ?_
  refine hm_top (z := nI (4 + 6 * B + 1)) (nI_add _ 1) ?_
  refine va_sld hx hb hX hbl hbA hS (vp_in_nI (n := 4 + 6 * B + 1) (N := L) (by omega) (by omega)) d_law_161 ?_
  refine hm_top (z := xs (4 + 6 * B + 1)) (by rw [nI_clamp (by omega)]) ?_
  refine hm_top (z := x1) ex1 ?_
  refine lv_aload_n hx hb d_law_162 rfl (lv_at hl 3 rfl) ?_
  refine lv_iload_n hx hb d_law_163 rfl (lv_at hl 0 rfl) ?_
  refine lv_iconst (v := 2) hx hb d_law_164 (by decide) ?_
  refine lv_iadd hx hb d_law_165 ?_
  refine hm_top (z := nI (4 + 6 * B + 2)) (nI_add _ 2) ?_
  refine va_sld hx hb hX hbl hbA hS (vp_in_nI (n := 4 + 6 * B + 2) (N := L) (by omega) (by omega)) d_law_166 ?_
  refine hm_top (z := xs (4 + 6 * B + 2)) (by rw [nI_clamp (by omega)]) ?_
  refine hm_top (z := x2) ex2 ?_
  refine lv_aload_n hx hb d_law_167 rfl (lv_at hl 3 rfl) ?_
  refine lv_iload_n hx hb d_law_168 rfl (lv_at hl 0 rfl) ?_
  refine lv_iconst (v := 3) hx hb d_law_169 (by decide) ?_
  refine lv_iadd hx hb d_law_170 ?_
  refine hm_top (z := nI (4 + 6 * B + 3)) (nI_add _ 3) ?_
  refine va_sld hx hb hX hbl hbA hS (vp_in_nI (n := 4 + 6 * B + 3) (N := L) (by omega) (by omega)) d_law_171 ?_
  refine hm_top (z := xs (4 + 6 * B + 3)) (by rw [nI_clamp (by omega)]) ?_
  refine hm_top (z := x3) ex3 ?_
  by_cases hz : 4 ≤ S.nc ∨ z_some x3 = 0
  · refine hm_calli hS hM hA (va_runV (As := [.int x1, .int x2, .int x3]) (rest := []) X (c_client_no l D k f (aF a 0) S.u (aF a) x1 x2 x3 S.nc (hcs.F 0 rfl) hrl.nc.1 (by have := hrl.nc.2.2; omega) hz H.size) (hm_cwV hts me_GrantServer_client wl_GrantServerLaw_21 rfl rfl ⟨Nat.le_of_ble_eq_true rfl, Nat.le_of_ble_eq_true rfl⟩) (hm_preV hM hK (hcs.F 0 rfl) rfl) rfl rfl hl.1 rfl (lv_room (Nat.le_of_ble_eq_true rfl)) d_law_172 ⟨(show C + 0 ≤ 600000 by omega), (show Sl + 0 ≤ 7302250 by omega)⟩) (fun r103 f101 H locs p102 hM hS => ?_)
    obtain ⟨rfl, rfl⟩ := p102
    refine lv_aload_n hx hb d_law_175 rfl (lv_at hl 1 rfl) ?_
    refine lv_aload_n hx hb d_law_176 rfl (lv_at hl 3 rfl) ?_
    refine lv_iload_n hx hb d_law_177 rfl (lv_at hl 0 rfl) ?_
    refine lv_iconst (v := 1) hx hb d_law_178 (by decide) ?_
    refine lv_iadd hx hb d_law_179 ?_
    refine hm_top (z := nI (4 + 6 * B + 1)) (nI_add _ 1) ?_
    refine va_sld hx hb hX hbl hbA hS (vp_in_nI (n := 4 + 6 * B + 1) (N := L) (by omega) (by omega)) d_law_180 ?_
    refine hm_top (z := xs (4 + 6 * B + 1)) (by rw [nI_clamp (by omega)]) ?_
    refine hm_top (z := x1) ex1 ?_
    refine lv_aload_n hx hb d_law_181 rfl (lv_at hl 3 rfl) ?_
    refine lv_iload_n hx hb d_law_182 rfl (lv_at hl 0 rfl) ?_
    refine lv_iconst (v := 2) hx hb d_law_183 (by decide) ?_
    refine lv_iadd hx hb d_law_184 ?_
    refine hm_top (z := nI (4 + 6 * B + 2)) (nI_add _ 2) ?_
    refine va_sld hx hb hX hbl hbA hS (vp_in_nI (n := 4 + 6 * B + 2) (N := L) (by omega) (by omega)) d_law_185 ?_
    refine hm_top (z := xs (4 + 6 * B + 2)) (by rw [nI_clamp (by omega)]) ?_
    refine hm_top (z := x2) ex2 ?_
    refine lv_aload_n hx hb d_law_186 rfl (lv_at hl 3 rfl) ?_
    refine lv_iload_n hx hb d_law_187 rfl (lv_at hl 0 rfl) ?_
    refine lv_iconst (v := 3) hx hb d_law_188 (by decide) ?_
    refine lv_iadd hx hb d_law_189 ?_
    refine hm_top (z := nI (4 + 6 * B + 3)) (nI_add _ 3) ?_
    refine va_sld hx hb hX hbl hbA hS (vp_in_nI (n := 4 + 6 * B + 3) (N := L) (by omega) (by omega)) d_law_190 ?_
    refine hm_top (z := xs (4 + 6 * B + 3)) (by rw [nI_clamp (by omega)]) ?_
    refine hm_top (z := x3) ex3 ?_
    refine hm_calli hS hM hA (va_runV (As := [.int x1, .int x2, .int x3]) (rest := [.int (-1)]) X (m_c_client_no l D k f h9 adM sk v c x1 x2 x3 S.nc hmo hrl.nc.2.1 hrl.nc.2.2 (hz.imp (fun z => by have := hrl.nc.2.2; omega) id) H.size) (hm_cwV hts me_GrantServerModel_client wl_GrantServerLaw_25 rfl rfl ⟨Nat.le_of_ble_eq_true rfl, Nat.le_of_ble_eq_true rfl⟩) (hm_preV hM hK hmo.1 rfl) rfl rfl hl.1 rfl (lv_room (Nat.le_of_ble_eq_true rfl)) d_law_191 ⟨(show C + 0 + 0 ≤ 600000 by omega), (show Sl + 0 + 0 ≤ 7302250 by omega)⟩) (fun r106 f104 H locs p105 hM hS => ?_)
    obtain ⟨rfl, rfl⟩ := p105
    refine lv_icmp_eq (tgt := 749) hx hb d_law_194 (by decide) (fun h107 => ?_) (fun h107 => ?_)
    · refine W.widen (k := C + 1) (n := Sl + 3) (by omega) (by omega) ?_
      exact next _ _ _ _ _ _ _ _ rfl ⟨hcs, hdj, hmo, hrl.same⟩ hM hS
    · exact absurd rfl h107
  · have hn4 : S.nc < 4 := Nat.lt_of_not_le (fun z => hz (Or.inl z))
    have hz2 : ¬ z_some x3 = 0 := fun z => hz (Or.inr z)
    have hdj0 := hdj
    refine hm_calli hS hM hA (va_runV (As := [.int x1, .int x2, .int x3]) (rest := []) X (c_client l D k f (aF a 0) S.u (aF a) a.cn S.nc x1 x2 x3 (hcs.F 0 rfl) (hcs.F 3 rfl) hrl.nc.1 hn4 hz2 H.size) (hm_cwV hts me_GrantServer_client wl_GrantServerLaw_21 rfl rfl ⟨Nat.le_of_ble_eq_true rfl, Nat.le_of_ble_eq_true rfl⟩) (hm_preV hM hK (hcs.F 0 rfl) rfl) rfl rfl hl.1 rfl (lv_room (Nat.le_of_ble_eq_true rfl)) d_law_172 ⟨(show C + 1 ≤ 600000 by omega), (show Sl + 3 ≤ 7302250 by omega)⟩) (fun r103 f101 H locs p102 hM hS => ?_)
    obtain ⟨q104, z105, rfl, g106, g107, g108, hfr109⟩ := p102
    have hcs9 : cs k f101 (cAm (c_new a (3, S.nc, 0) q104) a.g (va_up a.cn S.nc (some q104))) (cSm (upd S.u 12 (nI (S.nc + 1))) (S.nc + 1) (va_up S.cl S.nc (o_3 x1 x2 x3)) S.us S.w S.fm S.nf S.fa S.tn S.tx S.rd S.rs S.ra S.ky) := hcs.newC z105 (c_c_new g108) g106 g107 hfr109 rfl rfl (fun j hj => if_neg (by omega)) rfl rfl rfl (fun i h0 h3 => by unfold c_f; split <;> first | rfl | exact absurd rfl h0 | exact absurd rfl h3)
    have hfrc : ∀ (q : Nat) (x : va_E), (∀ n, n ∈ [((0, 0, 0) : cX), ((0, 3, 0) : cX)] → c_ok S n → q ≠ a.A n) → f q = some x → f101 q = some x := fun zq zx hh hq => hfr109 zq zx (hh (0, 0, 0) (by simp) ⟨rfl, rfl⟩) (hh (0, 3, 0) (by simp) ⟨rfl, rfl⟩) hq
    have hdj : ∀ n, c_ok (cSm (upd S.u 12 (nI (S.nc + 1))) (S.nc + 1) (va_up S.cl S.nc (o_3 x1 x2 x3)) S.us S.w S.fm S.nf S.fa S.tn S.tx S.rd S.rs S.ra S.ky) n → ¬ mo_own h9 adM ((cAm (c_new a (3, S.nc, 0) q104) a.g (va_up a.cn S.nc (some q104))).A n) := dj_C (S := S) (S' := cSm (upd S.u 12 (nI (S.nc + 1))) (S.nc + 1) (va_up S.cl S.nc (o_3 x1 x2 x3)) S.us S.w S.fm S.nf S.fa S.tn S.tx S.rd S.rs S.ra S.ky) rfl rfl hdj hmo z105
    have hcs := hcs9
    have hmo := cs.mo hdj0 hfrc hmo
    refine lv_aload_n hx hb d_law_175 rfl (lv_at hl 1 rfl) ?_
    refine lv_aload_n hx hb d_law_176 rfl (lv_at hl 3 rfl) ?_
    refine lv_iload_n hx hb d_law_177 rfl (lv_at hl 0 rfl) ?_
    refine lv_iconst (v := 1) hx hb d_law_178 (by decide) ?_
    refine lv_iadd hx hb d_law_179 ?_
    refine hm_top (z := nI (4 + 6 * B + 1)) (nI_add _ 1) ?_
    refine va_sld hx hb hX hbl hbA hS (vp_in_nI (n := 4 + 6 * B + 1) (N := L) (by omega) (by omega)) d_law_180 ?_
    refine hm_top (z := xs (4 + 6 * B + 1)) (by rw [nI_clamp (by omega)]) ?_
    refine hm_top (z := x1) ex1 ?_
    refine lv_aload_n hx hb d_law_181 rfl (lv_at hl 3 rfl) ?_
    refine lv_iload_n hx hb d_law_182 rfl (lv_at hl 0 rfl) ?_
    refine lv_iconst (v := 2) hx hb d_law_183 (by decide) ?_
    refine lv_iadd hx hb d_law_184 ?_
    refine hm_top (z := nI (4 + 6 * B + 2)) (nI_add _ 2) ?_
    refine va_sld hx hb hX hbl hbA hS (vp_in_nI (n := 4 + 6 * B + 2) (N := L) (by omega) (by omega)) d_law_185 ?_
    refine hm_top (z := xs (4 + 6 * B + 2)) (by rw [nI_clamp (by omega)]) ?_
    refine hm_top (z := x2) ex2 ?_
    refine lv_aload_n hx hb d_law_186 rfl (lv_at hl 3 rfl) ?_
    refine lv_iload_n hx hb d_law_187 rfl (lv_at hl 0 rfl) ?_
    refine lv_iconst (v := 3) hx hb d_law_188 (by decide) ?_
    refine lv_iadd hx hb d_law_189 ?_
    refine hm_top (z := nI (4 + 6 * B + 3)) (nI_add _ 3) ?_
    refine va_sld hx hb hX hbl hbA hS (vp_in_nI (n := 4 + 6 * B + 3) (N := L) (by omega) (by omega)) d_law_190 ?_
    refine hm_top (z := xs (4 + 6 * B + 3)) (by rw [nI_clamp (by omega)]) ?_
    refine hm_top (z := x3) ex3 ?_
    refine hm_calli hS hM hA (va_runV (As := [.int x1, .int x2, .int x3]) (rest := [.int (nI S.nc)]) X (m_c_client l D k f101 h9 adM sk v c x1 x2 x3 S.nc hmo hrl.nc.2.1 hn4 hz2 H.size) (hm_cwV hts me_GrantServerModel_client wl_GrantServerLaw_25 rfl rfl ⟨Nat.le_of_ble_eq_true rfl, Nat.le_of_ble_eq_true rfl⟩) (hm_preV hM hK hmo.1 rfl) rfl rfl hl.1 rfl (lv_room (Nat.le_of_ble_eq_true rfl)) d_law_191 ⟨(show C + 1 + 0 ≤ 600000 by omega), (show Sl + 3 + 0 ≤ 7302250 by omega)⟩) (fun r112 f110 H locs p111 hM hS => ?_)
    obtain ⟨rfl, hmo, hfr113⟩ := p111
    have hcs := hcs.keep hdj hfr113
    refine lv_icmp_eq (tgt := 749) hx hb d_law_194 (by decide) (fun h114 => ?_) (fun h114 => ?_)
    · refine W.widen (k := C + 1) (n := Sl + 3) (by omega) (by omega) ?_
      exact next _ _ _ _ _ _ _ _ (congrFun aF_newC 0) ⟨hcs, hdj, hmo, (hrl.client hn4 _ _ _)⟩ hM hS
    · exact absurd rfl h114
set_option maxHeartbeats 40000000 in
set_option maxRecDepth 100000 in
theorem lw_c1 {p : Program} {e : Env} {s : State} {m : MethodId} {below : List Frame} {meth : Method} {cd : Code} {l : Launch} {b L : Nat} {xs : Nat → Int32} {D : va_G} {k : Nat → ClassId} {A : Nat → Prop} {sA sV : Nat → Nat} {h9 : Nat} {adM : Nat → Nat} {Q : State → Prop} {sk : Int64}
    (X : CallFix p m cd code 4 s #[Value.ref b] TB R_GrantServerLaw) (hX : va_X b L xs s s.heap) (hbl : b < s.heap.size) (hbA : ¬ A b) (hK : hm_K D vwCl (tyL k) s) (hA : ∀ q, s.heap.size ≤ q → A q) (hZ : hm_Z sA sV A s s.heap)
    {f : hm} {a : cA} {S : cS} {sg : Nat → Nat → Nat} {v : Nat → Int32} {c : Nat → Nat → Int32} {B C Sl : Nat} {H : Heap} {locs : List Loc} {ls : Array Slot} (hB : B < 512) (hi : 4 + 6 * B + 6 ≤ L) (hL : L ≤ 3076) (hC : C ≤ 10000) (hSl : Sl ≤ 20000)
    (hI : lw_I k f a S h9 adM sk v c sg B) (hM : hm_W D vwCl A f H) (hS : va_S A s.heap H locs) (hl : lv_has ls 4 [(3, .int (nI (4 + 6 * B))), (2, .ref h9), (1, .ref (aF a 0)), (0, .ref b)])
    (next : ∀ (f' : hm) (a' : cA) (S' : cS) (sg' : Nat → Nat → Nat) (v' : Nat → Int32) (c' : Nat → Nat → Int32) (H' : Heap) (locs' : List Loc), aF a' 0 = aF a 0 → lw_I k f' a' S' h9 adM sk v' c' sg' (B + 1) → hm_W D vwCl A f' H' → va_S A s.heap H' locs' → W p l e room_1 s m #[Value.ref b] below meth cd H' locs' (C + 1) (Sl + 3) Q (F0 m 749 ls [])) :
    W p l e room_1 s m #[Value.ref b] below meth cd H locs C Sl Q (F0 m 199 ls []) := by
  obtain ⟨hcs, hdj, hmo, hrl⟩ := hI
  have hx := X.1; have hb := X.2.1; have hml := X.2.2.1; have hown := X.2.2.2.1; have hts := X.2.2.2.2
  obtain ⟨x1, ex1⟩ : ∃ z, xs (4 + 6 * B + 1) = z := ⟨_, rfl⟩
  obtain ⟨x2, ex2⟩ : ∃ z, xs (4 + 6 * B + 2) = z := ⟨_, rfl⟩
  obtain ⟨x3, ex3⟩ : ∃ z, xs (4 + 6 * B + 3) = z := ⟨_, rfl⟩
  obtain ⟨x4, ex4⟩ : ∃ z, xs (4 + 6 * B + 4) = z := ⟨_, rfl⟩
  obtain ⟨x5, ex5⟩ : ∃ z, xs (4 + 6 * B + 5) = z := ⟨_, rfl⟩
  refine lv_aload_n hx hb d_law_199 rfl (lv_at hl 2 rfl) ?_
  refine lv_aload_n hx hb d_law_200 rfl (lv_at hl 3 rfl) ?_
  refine lv_iload_n hx hb d_law_201 rfl (lv_at hl 0 rfl) ?_
  refine lv_iconst (v := 1) hx hb d_law_202 (by decide) ?_
  refine lv_iadd hx hb d_law_203 ?_
  refine hm_top (z := nI (4 + 6 * B + 1)) (nI_add _ 1) ?_
  refine va_sld hx hb hX hbl hbA hS (vp_in_nI (n := 4 + 6 * B + 1) (N := L) (by omega) (by omega)) d_law_204 ?_
  refine hm_top (z := xs (4 + 6 * B + 1)) (by rw [nI_clamp (by omega)]) ?_
  refine hm_top (z := x1) ex1 ?_
  refine lv_aload_n hx hb d_law_205 rfl (lv_at hl 3 rfl) ?_
  refine lv_iload_n hx hb d_law_206 rfl (lv_at hl 0 rfl) ?_
  refine lv_iconst (v := 2) hx hb d_law_207 (by decide) ?_
  refine lv_iadd hx hb d_law_208 ?_
  refine hm_top (z := nI (4 + 6 * B + 2)) (nI_add _ 2) ?_
  refine va_sld hx hb hX hbl hbA hS (vp_in_nI (n := 4 + 6 * B + 2) (N := L) (by omega) (by omega)) d_law_209 ?_
  refine hm_top (z := xs (4 + 6 * B + 2)) (by rw [nI_clamp (by omega)]) ?_
  refine hm_top (z := x2) ex2 ?_
  by_cases hz : x1 < 0 ∨ nI S.nc ≤ x1
  · refine hm_calli hS hM hA (va_runV (As := [.int x1, .int x2]) (rest := []) X (c_login_no l D k f (aF a 0) S.u (aF a) S.nc x1 x2 (hcs.F 0 rfl) hrl.nc.1 hz H.size) (hm_cwV hts me_GrantServer_login wl_GrantServerLaw_26 rfl rfl ⟨Nat.le_of_ble_eq_true rfl, Nat.le_of_ble_eq_true rfl⟩) (hm_preV hM hK (hcs.F 0 rfl) rfl) rfl rfl hl.1 rfl (lv_room (Nat.le_of_ble_eq_true rfl)) d_law_210 ⟨(show C + 0 ≤ 600000 by omega), (show Sl + 0 ≤ 7302250 by omega)⟩) (fun r103 f101 H locs p102 hM hS => ?_)
    obtain ⟨rfl, g104, hfr105⟩ := p102
    have hfrc : ∀ (q : Nat) (x : va_E), (∀ n, n ∈ [((0, 0, 0) : cX)] → c_ok S n → q ≠ a.A n) → f q = some x → f101 q = some x := fun zq zx hh hq => hfr105 zq zx (hh (0, 0, 0) (by simp) ⟨rfl, rfl⟩) hq
    have hcs : cs k f101 a (cSm (upd S.u 13 (-1)) S.nc S.cl S.us S.w S.fm S.nf S.fa S.tn S.tx S.rd S.rs S.ra S.ky) := by
      refine hcs.up [((0, 0, 0) : cX)] (fun n hn hok => ?_) hfrc (c_same (fun i hi hn => ?_) (fun s i _ _ _ => ⟨rfl, rfl⟩) (fun t _ => rfl) rfl) rfl rfl hcs.2.2.2.2
      · simp only [List.mem_cons, List.not_mem_nil, or_false] at hn
        rcases hn with hn
        · subst hn; exact g104
      · rcases c_ixs hi with r | r | r | r | r | r | r | r | r | r | r | r | r | r | r | r | r | r <;> subst r <;> first | rfl | exact absurd (by simp) hn
    have hmo := cs.mo hdj hfrc hmo
    have hdj := dj_cv (S' := cSm (upd S.u 13 (-1)) S.nc S.cl S.us S.w S.fm S.nf S.fa S.tn S.tx S.rd S.rs S.ra S.ky) rfl rfl hdj
    refine lv_aload_n hx hb d_law_213 rfl (lv_at hl 1 rfl) ?_
    refine lv_aload_n hx hb d_law_214 rfl (lv_at hl 3 rfl) ?_
    refine lv_iload_n hx hb d_law_215 rfl (lv_at hl 0 rfl) ?_
    refine lv_iconst (v := 1) hx hb d_law_216 (by decide) ?_
    refine lv_iadd hx hb d_law_217 ?_
    refine hm_top (z := nI (4 + 6 * B + 1)) (nI_add _ 1) ?_
    refine va_sld hx hb hX hbl hbA hS (vp_in_nI (n := 4 + 6 * B + 1) (N := L) (by omega) (by omega)) d_law_218 ?_
    refine hm_top (z := xs (4 + 6 * B + 1)) (by rw [nI_clamp (by omega)]) ?_
    refine hm_top (z := x1) ex1 ?_
    refine lv_aload_n hx hb d_law_219 rfl (lv_at hl 3 rfl) ?_
    refine lv_iload_n hx hb d_law_220 rfl (lv_at hl 0 rfl) ?_
    refine lv_iconst (v := 2) hx hb d_law_221 (by decide) ?_
    refine lv_iadd hx hb d_law_222 ?_
    refine hm_top (z := nI (4 + 6 * B + 2)) (nI_add _ 2) ?_
    refine va_sld hx hb hX hbl hbA hS (vp_in_nI (n := 4 + 6 * B + 2) (N := L) (by omega) (by omega)) d_law_223 ?_
    refine hm_top (z := xs (4 + 6 * B + 2)) (by rw [nI_clamp (by omega)]) ?_
    refine hm_top (z := x2) ex2 ?_
    refine hm_calli hS hM hA (va_runV (As := [.int x1, .int x2]) (rest := [.int 0]) X (m_c_login_no l D k f101 h9 adM sk v c x1 x2 hmo (by rw [hrl.nc.2.1]; exact m_isC_n hz) H.size) (hm_cwV hts me_GrantServerModel_login wl_GrantServerLaw_30 rfl rfl ⟨Nat.le_of_ble_eq_true rfl, Nat.le_of_ble_eq_true rfl⟩) (hm_preV hM hK hmo.1 rfl) rfl rfl hl.1 rfl (lv_room (Nat.le_of_ble_eq_true rfl)) d_law_224 ⟨(show C + 0 + 0 ≤ 600000 by omega), (show Sl + 0 + 0 ≤ 7302250 by omega)⟩) (fun r108 f106 H locs p107 hM hS => ?_)
    obtain ⟨rfl, hmo, hfr109⟩ := p107
    have hcs := hcs.keep hdj hfr109
    refine lv_icmp_eq (tgt := 749) hx hb d_law_227 (by decide) (fun h110 => ?_) (fun h110 => ?_)
    · refine W.widen (k := C + 1) (n := Sl + 3) (by omega) (by omega) ?_
      exact next _ _ _ _ _ _ _ _ rfl ⟨hcs, hdj, hmo, hrl.logout⟩ hM hS
    · exact absurd rfl h110
  · obtain ⟨j, hj, ej⟩ := hm_ix (n := S.nc) (fun z => hz (Or.inl z)) (fun z => hz (Or.inr z)) (by have := hrl.nc.2.2; omega)
    subst ej
    by_cases hs : S.cl j 0 = x2
    · refine hm_calli hS hM hA (va_runV (As := [.int (nI j), .int x2]) (rest := []) X (c_login l D k f (aF a 0) S.u (aF a) a.cn S.nc j (a.A (3, j, 0)) (S.cl j 0) (S.cl j 1) (S.cl j 2) x2 (hcs.F 0 rfl) (hcs.F 3 rfl) (hcs.C hj) hrl.nc.1 hrl.nc.2.2 hj (hcs.cn hj) hs H.size) (hm_cwV hts me_GrantServer_login wl_GrantServerLaw_26 rfl rfl ⟨Nat.le_of_ble_eq_true rfl, Nat.le_of_ble_eq_true rfl⟩) (hm_preV hM hK (hcs.F 0 rfl) rfl) rfl rfl hl.1 rfl (lv_room (Nat.le_of_ble_eq_true rfl)) d_law_210 ⟨(show C + 0 ≤ 600000 by omega), (show Sl + 0 ≤ 7302250 by omega)⟩) (fun r103 f101 H locs p102 hM hS => ?_)
      obtain ⟨rfl, g104, hfr105⟩ := p102
      have hfrc : ∀ (q : Nat) (x : va_E), (∀ n, n ∈ [((0, 0, 0) : cX)] → c_ok S n → q ≠ a.A n) → f q = some x → f101 q = some x := fun zq zx hh hq => hfr105 zq zx (hh (0, 0, 0) (by simp) ⟨rfl, rfl⟩) hq
      have hcs : cs k f101 a (cSm (upd S.u 13 (nI j)) S.nc S.cl S.us S.w S.fm S.nf S.fa S.tn S.tx S.rd S.rs S.ra S.ky) := by
        refine hcs.up [((0, 0, 0) : cX)] (fun n hn hok => ?_) hfrc (c_same (fun i hi hn => ?_) (fun s i _ _ _ => ⟨rfl, rfl⟩) (fun t _ => rfl) rfl) rfl rfl hcs.2.2.2.2
        · simp only [List.mem_cons, List.not_mem_nil, or_false] at hn
          rcases hn with hn
          · subst hn; exact g104
        · rcases c_ixs hi with r | r | r | r | r | r | r | r | r | r | r | r | r | r | r | r | r | r <;> subst r <;> first | rfl | exact absurd (by simp) hn
      have hmo := cs.mo hdj hfrc hmo
      have hdj := dj_cv (S' := cSm (upd S.u 13 (nI j)) S.nc S.cl S.us S.w S.fm S.nf S.fa S.tn S.tx S.rd S.rs S.ra S.ky) rfl rfl hdj
      refine lv_aload_n hx hb d_law_213 rfl (lv_at hl 1 rfl) ?_
      refine lv_aload_n hx hb d_law_214 rfl (lv_at hl 3 rfl) ?_
      refine lv_iload_n hx hb d_law_215 rfl (lv_at hl 0 rfl) ?_
      refine lv_iconst (v := 1) hx hb d_law_216 (by decide) ?_
      refine lv_iadd hx hb d_law_217 ?_
      refine hm_top (z := nI (4 + 6 * B + 1)) (nI_add _ 1) ?_
      refine va_sld hx hb hX hbl hbA hS (vp_in_nI (n := 4 + 6 * B + 1) (N := L) (by omega) (by omega)) d_law_218 ?_
      refine hm_top (z := xs (4 + 6 * B + 1)) (by rw [nI_clamp (by omega)]) ?_
      refine hm_top (z := nI j) ex1 ?_
      refine lv_aload_n hx hb d_law_219 rfl (lv_at hl 3 rfl) ?_
      refine lv_iload_n hx hb d_law_220 rfl (lv_at hl 0 rfl) ?_
      refine lv_iconst (v := 2) hx hb d_law_221 (by decide) ?_
      refine lv_iadd hx hb d_law_222 ?_
      refine hm_top (z := nI (4 + 6 * B + 2)) (nI_add _ 2) ?_
      refine va_sld hx hb hX hbl hbA hS (vp_in_nI (n := 4 + 6 * B + 2) (N := L) (by omega) (by omega)) d_law_223 ?_
      refine hm_top (z := xs (4 + 6 * B + 2)) (by rw [nI_clamp (by omega)]) ?_
      refine hm_top (z := x2) ex2 ?_
      refine hm_calli hS hM hA (va_runV (As := [.int (nI j), .int x2]) (rest := [.int 1]) X (m_c_login l D k f101 h9 adM sk v c j x2 hmo (by rw [hrl.nc.2.1]; exact m_isC_y hj hrl.nc.2.2) (by have := hrl.nc.2.2; omega) ((hrl.cl j hj).1.symm.trans hs) H.size) (hm_cwV hts me_GrantServerModel_login wl_GrantServerLaw_30 rfl rfl ⟨Nat.le_of_ble_eq_true rfl, Nat.le_of_ble_eq_true rfl⟩) (hm_preV hM hK hmo.1 rfl) rfl rfl hl.1 rfl (lv_room (Nat.le_of_ble_eq_true rfl)) d_law_224 ⟨(show C + 0 + 0 ≤ 600000 by omega), (show Sl + 0 + 0 ≤ 7302250 by omega)⟩) (fun r108 f106 H locs p107 hM hS => ?_)
      obtain ⟨rfl, hmo, hfr109⟩ := p107
      have hcs := hcs.keep hdj hfr109
      refine lv_icmp_eq (tgt := 749) hx hb d_law_227 (by decide) (fun h110 => ?_) (fun h110 => ?_)
      · refine W.widen (k := C + 1) (n := Sl + 3) (by omega) (by omega) ?_
        exact next _ _ _ _ _ _ _ _ rfl ⟨hcs, hdj, hmo, (hrl.login hj)⟩ hM hS
      · exact absurd rfl h110
    · refine hm_calli hS hM hA (va_runV (As := [.int (nI j), .int x2]) (rest := []) X (c_login_bad l D k f (aF a 0) S.u (aF a) a.cn S.nc j (a.A (3, j, 0)) (S.cl j 0) (S.cl j 1) (S.cl j 2) x2 (hcs.F 0 rfl) (hcs.F 3 rfl) (hcs.C hj) hrl.nc.1 hrl.nc.2.2 hj (hcs.cn hj) hs H.size) (hm_cwV hts me_GrantServer_login wl_GrantServerLaw_26 rfl rfl ⟨Nat.le_of_ble_eq_true rfl, Nat.le_of_ble_eq_true rfl⟩) (hm_preV hM hK (hcs.F 0 rfl) rfl) rfl rfl hl.1 rfl (lv_room (Nat.le_of_ble_eq_true rfl)) d_law_210 ⟨(show C + 0 ≤ 600000 by omega), (show Sl + 0 ≤ 7302250 by omega)⟩) (fun r103 f101 H locs p102 hM hS => ?_)
      obtain ⟨rfl, g104, hfr105⟩ := p102
      have hfrc : ∀ (q : Nat) (x : va_E), (∀ n, n ∈ [((0, 0, 0) : cX)] → c_ok S n → q ≠ a.A n) → f q = some x → f101 q = some x := fun zq zx hh hq => hfr105 zq zx (hh (0, 0, 0) (by simp) ⟨rfl, rfl⟩) hq
      have hcs : cs k f101 a (cSm (upd S.u 13 (-1)) S.nc S.cl S.us S.w S.fm S.nf S.fa S.tn S.tx S.rd S.rs S.ra S.ky) := by
        refine hcs.up [((0, 0, 0) : cX)] (fun n hn hok => ?_) hfrc (c_same (fun i hi hn => ?_) (fun s i _ _ _ => ⟨rfl, rfl⟩) (fun t _ => rfl) rfl) rfl rfl hcs.2.2.2.2
        · simp only [List.mem_cons, List.not_mem_nil, or_false] at hn
          rcases hn with hn
          · subst hn; exact g104
        · rcases c_ixs hi with r | r | r | r | r | r | r | r | r | r | r | r | r | r | r | r | r | r <;> subst r <;> first | rfl | exact absurd (by simp) hn
      have hmo := cs.mo hdj hfrc hmo
      have hdj := dj_cv (S' := cSm (upd S.u 13 (-1)) S.nc S.cl S.us S.w S.fm S.nf S.fa S.tn S.tx S.rd S.rs S.ra S.ky) rfl rfl hdj
      refine lv_aload_n hx hb d_law_213 rfl (lv_at hl 1 rfl) ?_
      refine lv_aload_n hx hb d_law_214 rfl (lv_at hl 3 rfl) ?_
      refine lv_iload_n hx hb d_law_215 rfl (lv_at hl 0 rfl) ?_
      refine lv_iconst (v := 1) hx hb d_law_216 (by decide) ?_
      refine lv_iadd hx hb d_law_217 ?_
      refine hm_top (z := nI (4 + 6 * B + 1)) (nI_add _ 1) ?_
      refine va_sld hx hb hX hbl hbA hS (vp_in_nI (n := 4 + 6 * B + 1) (N := L) (by omega) (by omega)) d_law_218 ?_
      refine hm_top (z := xs (4 + 6 * B + 1)) (by rw [nI_clamp (by omega)]) ?_
      refine hm_top (z := nI j) ex1 ?_
      refine lv_aload_n hx hb d_law_219 rfl (lv_at hl 3 rfl) ?_
      refine lv_iload_n hx hb d_law_220 rfl (lv_at hl 0 rfl) ?_
      refine lv_iconst (v := 2) hx hb d_law_221 (by decide) ?_
      refine lv_iadd hx hb d_law_222 ?_
      refine hm_top (z := nI (4 + 6 * B + 2)) (nI_add _ 2) ?_
      refine va_sld hx hb hX hbl hbA hS (vp_in_nI (n := 4 + 6 * B + 2) (N := L) (by omega) (by omega)) d_law_223 ?_
      refine hm_top (z := xs (4 + 6 * B + 2)) (by rw [nI_clamp (by omega)]) ?_
      refine hm_top (z := x2) ex2 ?_
      refine hm_calli hS hM hA (va_runV (As := [.int (nI j), .int x2]) (rest := [.int 0]) X (m_c_login_bad l D k f101 h9 adM sk v c j x2 hmo (by rw [hrl.nc.2.1]; exact m_isC_y hj hrl.nc.2.2) (by have := hrl.nc.2.2; omega) (fun z => hs ((hrl.cl j hj).1.trans z)) H.size) (hm_cwV hts me_GrantServerModel_login wl_GrantServerLaw_30 rfl rfl ⟨Nat.le_of_ble_eq_true rfl, Nat.le_of_ble_eq_true rfl⟩) (hm_preV hM hK hmo.1 rfl) rfl rfl hl.1 rfl (lv_room (Nat.le_of_ble_eq_true rfl)) d_law_224 ⟨(show C + 0 + 0 ≤ 600000 by omega), (show Sl + 0 + 0 ≤ 7302250 by omega)⟩) (fun r108 f106 H locs p107 hM hS => ?_)
      obtain ⟨rfl, hmo, hfr109⟩ := p107
      have hcs := hcs.keep hdj hfr109
      refine lv_icmp_eq (tgt := 749) hx hb d_law_227 (by decide) (fun h110 => ?_) (fun h110 => ?_)
      · refine W.widen (k := C + 1) (n := Sl + 3) (by omega) (by omega) ?_
        exact next _ _ _ _ _ _ _ _ rfl ⟨hcs, hdj, hmo, hrl.logout⟩ hM hS
      · exact absurd rfl h110
set_option maxHeartbeats 40000000 in
set_option maxRecDepth 100000 in
theorem lw_c2 {p : Program} {e : Env} {s : State} {m : MethodId} {below : List Frame} {meth : Method} {cd : Code} {l : Launch} {b L : Nat} {xs : Nat → Int32} {D : va_G} {k : Nat → ClassId} {A : Nat → Prop} {sA sV : Nat → Nat} {h9 : Nat} {adM : Nat → Nat} {Q : State → Prop} {sk : Int64}
    (X : CallFix p m cd code 4 s #[Value.ref b] TB R_GrantServerLaw) (hX : va_X b L xs s s.heap) (hbl : b < s.heap.size) (hbA : ¬ A b) (hK : hm_K D vwCl (tyL k) s) (hA : ∀ q, s.heap.size ≤ q → A q) (hZ : hm_Z sA sV A s s.heap)
    {f : hm} {a : cA} {S : cS} {sg : Nat → Nat → Nat} {v : Nat → Int32} {c : Nat → Nat → Int32} {B C Sl : Nat} {H : Heap} {locs : List Loc} {ls : Array Slot} (hB : B < 512) (hi : 4 + 6 * B + 6 ≤ L) (hL : L ≤ 3076) (hC : C ≤ 10000) (hSl : Sl ≤ 20000)
    (hI : lw_I k f a S h9 adM sk v c sg B) (hM : hm_W D vwCl A f H) (hS : va_S A s.heap H locs) (hl : lv_has ls 4 [(3, .int (nI (4 + 6 * B))), (2, .ref h9), (1, .ref (aF a 0)), (0, .ref b)])
    (next : ∀ (f' : hm) (a' : cA) (S' : cS) (sg' : Nat → Nat → Nat) (v' : Nat → Int32) (c' : Nat → Nat → Int32) (H' : Heap) (locs' : List Loc), aF a' 0 = aF a 0 → lw_I k f' a' S' h9 adM sk v' c' sg' (B + 1) → hm_W D vwCl A f' H' → va_S A s.heap H' locs' → W p l e room_1 s m #[Value.ref b] below meth cd H' locs' (C + 1) (Sl + 3) Q (F0 m 749 ls [])) :
    W p l e room_1 s m #[Value.ref b] below meth cd H locs C Sl Q (F0 m 232 ls []) := by
  obtain ⟨hcs, hdj, hmo, hrl⟩ := hI
  have hx := X.1; have hb := X.2.1; have hml := X.2.2.1; have hown := X.2.2.2.1; have hts := X.2.2.2.2
  obtain ⟨x1, ex1⟩ : ∃ z, xs (4 + 6 * B + 1) = z := ⟨_, rfl⟩
  obtain ⟨x2, ex2⟩ : ∃ z, xs (4 + 6 * B + 2) = z := ⟨_, rfl⟩
  obtain ⟨x3, ex3⟩ : ∃ z, xs (4 + 6 * B + 3) = z := ⟨_, rfl⟩
  obtain ⟨x4, ex4⟩ : ∃ z, xs (4 + 6 * B + 4) = z := ⟨_, rfl⟩
  obtain ⟨x5, ex5⟩ : ∃ z, xs (4 + 6 * B + 5) = z := ⟨_, rfl⟩
  refine lv_aload_n hx hb d_law_232 rfl (lv_at hl 2 rfl) ?_
  refine lv_aload_n hx hb d_law_233 rfl (lv_at hl 3 rfl) ?_
  refine lv_iload_n hx hb d_law_234 rfl (lv_at hl 0 rfl) ?_
  refine lv_iconst (v := 1) hx hb d_law_235 (by decide) ?_
  refine lv_iadd hx hb d_law_236 ?_
  refine hm_top (z := nI (4 + 6 * B + 1)) (nI_add _ 1) ?_
  refine va_sld hx hb hX hbl hbA hS (vp_in_nI (n := 4 + 6 * B + 1) (N := L) (by omega) (by omega)) d_law_237 ?_
  refine hm_top (z := xs (4 + 6 * B + 1)) (by rw [nI_clamp (by omega)]) ?_
  refine hm_top (z := x1) ex1 ?_
  refine lv_aload_n hx hb d_law_238 rfl (lv_at hl 3 rfl) ?_
  refine lv_iload_n hx hb d_law_239 rfl (lv_at hl 0 rfl) ?_
  refine lv_iconst (v := 2) hx hb d_law_240 (by decide) ?_
  refine lv_iadd hx hb d_law_241 ?_
  refine hm_top (z := nI (4 + 6 * B + 2)) (nI_add _ 2) ?_
  refine va_sld hx hb hX hbl hbA hS (vp_in_nI (n := 4 + 6 * B + 2) (N := L) (by omega) (by omega)) d_law_242 ?_
  refine hm_top (z := xs (4 + 6 * B + 2)) (by rw [nI_clamp (by omega)]) ?_
  refine hm_top (z := x2) ex2 ?_
  refine lv_aload_n hx hb d_law_243 rfl (lv_at hl 3 rfl) ?_
  refine lv_iload_n hx hb d_law_244 rfl (lv_at hl 0 rfl) ?_
  refine lv_iconst (v := 3) hx hb d_law_245 (by decide) ?_
  refine lv_iadd hx hb d_law_246 ?_
  refine hm_top (z := nI (4 + 6 * B + 3)) (nI_add _ 3) ?_
  refine va_sld hx hb hX hbl hbA hS (vp_in_nI (n := 4 + 6 * B + 3) (N := L) (by omega) (by omega)) d_law_247 ?_
  refine hm_top (z := xs (4 + 6 * B + 3)) (by rw [nI_clamp (by omega)]) ?_
  refine hm_top (z := x3) ex3 ?_
  refine lv_aload_n hx hb d_law_248 rfl (lv_at hl 3 rfl) ?_
  refine lv_iload_n hx hb d_law_249 rfl (lv_at hl 0 rfl) ?_
  refine lv_iconst (v := 4) hx hb d_law_250 (by decide) ?_
  refine lv_iadd hx hb d_law_251 ?_
  refine hm_top (z := nI (4 + 6 * B + 4)) (nI_add _ 4) ?_
  refine va_sld hx hb hX hbl hbA hS (vp_in_nI (n := 4 + 6 * B + 4) (N := L) (by omega) (by omega)) d_law_252 ?_
  refine hm_top (z := xs (4 + 6 * B + 4)) (by rw [nI_clamp (by omega)]) ?_
  refine hm_top (z := x4) ex4 ?_
  refine lv_aload_n hx hb d_law_253 rfl (lv_at hl 3 rfl) ?_
  refine lv_iload_n hx hb d_law_254 rfl (lv_at hl 0 rfl) ?_
  refine lv_iconst (v := 5) hx hb d_law_255 (by decide) ?_
  refine lv_iadd hx hb d_law_256 ?_
  refine hm_top (z := nI (4 + 6 * B + 5)) (nI_add _ 5) ?_
  refine va_sld hx hb hX hbl hbA hS (vp_in_nI (n := 4 + 6 * B + 5) (N := L) (by omega) (by omega)) d_law_257 ?_
  refine hm_top (z := xs (4 + 6 * B + 5)) (by rw [nI_clamp (by omega)]) ?_
  refine hm_top (z := x5) ex5 ?_
  by_cases hz : x1 < 0 ∨ nI S.nc ≤ x1
  · refine hm_calli hS hM hA (va_runV (As := [.int x1, .int x2, .int x3, .int x4, .int x5]) (rest := []) X (c_authorize_no l D k f (aF a 0) S.u (aF a) S.nc x1 x2 x3 x4 x5 (hcs.F 0 rfl) hrl.nc.1 hz H.size) (hm_cwV hts me_GrantServer_authorize wl_GrantServerLaw_31 rfl rfl ⟨Nat.le_of_ble_eq_true rfl, Nat.le_of_ble_eq_true rfl⟩) (hm_preV hM hK (hcs.F 0 rfl) rfl) rfl rfl hl.1 rfl (lv_room (Nat.le_of_ble_eq_true rfl)) d_law_258 ⟨(show C + 0 ≤ 600000 by omega), (show Sl + 0 ≤ 7302250 by omega)⟩) (fun r103 f101 H locs p102 hM hS => ?_)
    obtain ⟨rfl, rfl⟩ := p102
    refine lv_aload_n hx hb d_law_261 rfl (lv_at hl 1 rfl) ?_
    refine lv_aload_n hx hb d_law_262 rfl (lv_at hl 3 rfl) ?_
    refine lv_iload_n hx hb d_law_263 rfl (lv_at hl 0 rfl) ?_
    refine lv_iconst (v := 1) hx hb d_law_264 (by decide) ?_
    refine lv_iadd hx hb d_law_265 ?_
    refine hm_top (z := nI (4 + 6 * B + 1)) (nI_add _ 1) ?_
    refine va_sld hx hb hX hbl hbA hS (vp_in_nI (n := 4 + 6 * B + 1) (N := L) (by omega) (by omega)) d_law_266 ?_
    refine hm_top (z := xs (4 + 6 * B + 1)) (by rw [nI_clamp (by omega)]) ?_
    refine hm_top (z := x1) ex1 ?_
    refine lv_aload_n hx hb d_law_267 rfl (lv_at hl 3 rfl) ?_
    refine lv_iload_n hx hb d_law_268 rfl (lv_at hl 0 rfl) ?_
    refine lv_iconst (v := 2) hx hb d_law_269 (by decide) ?_
    refine lv_iadd hx hb d_law_270 ?_
    refine hm_top (z := nI (4 + 6 * B + 2)) (nI_add _ 2) ?_
    refine va_sld hx hb hX hbl hbA hS (vp_in_nI (n := 4 + 6 * B + 2) (N := L) (by omega) (by omega)) d_law_271 ?_
    refine hm_top (z := xs (4 + 6 * B + 2)) (by rw [nI_clamp (by omega)]) ?_
    refine hm_top (z := x2) ex2 ?_
    refine lv_aload_n hx hb d_law_272 rfl (lv_at hl 3 rfl) ?_
    refine lv_iload_n hx hb d_law_273 rfl (lv_at hl 0 rfl) ?_
    refine lv_iconst (v := 3) hx hb d_law_274 (by decide) ?_
    refine lv_iadd hx hb d_law_275 ?_
    refine hm_top (z := nI (4 + 6 * B + 3)) (nI_add _ 3) ?_
    refine va_sld hx hb hX hbl hbA hS (vp_in_nI (n := 4 + 6 * B + 3) (N := L) (by omega) (by omega)) d_law_276 ?_
    refine hm_top (z := xs (4 + 6 * B + 3)) (by rw [nI_clamp (by omega)]) ?_
    refine hm_top (z := x3) ex3 ?_
    refine lv_aload_n hx hb d_law_277 rfl (lv_at hl 3 rfl) ?_
    refine lv_iload_n hx hb d_law_278 rfl (lv_at hl 0 rfl) ?_
    refine lv_iconst (v := 4) hx hb d_law_279 (by decide) ?_
    refine lv_iadd hx hb d_law_280 ?_
    refine hm_top (z := nI (4 + 6 * B + 4)) (nI_add _ 4) ?_
    refine va_sld hx hb hX hbl hbA hS (vp_in_nI (n := 4 + 6 * B + 4) (N := L) (by omega) (by omega)) d_law_281 ?_
    refine hm_top (z := xs (4 + 6 * B + 4)) (by rw [nI_clamp (by omega)]) ?_
    refine hm_top (z := x4) ex4 ?_
    refine lv_aload_n hx hb d_law_282 rfl (lv_at hl 3 rfl) ?_
    refine lv_iload_n hx hb d_law_283 rfl (lv_at hl 0 rfl) ?_
    refine lv_iconst (v := 5) hx hb d_law_284 (by decide) ?_
    refine lv_iadd hx hb d_law_285 ?_
    refine hm_top (z := nI (4 + 6 * B + 5)) (nI_add _ 5) ?_
    refine va_sld hx hb hX hbl hbA hS (vp_in_nI (n := 4 + 6 * B + 5) (N := L) (by omega) (by omega)) d_law_286 ?_
    refine hm_top (z := xs (4 + 6 * B + 5)) (by rw [nI_clamp (by omega)]) ?_
    refine hm_top (z := x5) ex5 ?_
    refine hm_calli hS hM hA (va_runV (As := [.int x1, .int x2, .int x3, .int x4, .int x5]) (rest := [.int (-1)]) X (m_c_authorize_no l D k f h9 adM sk v c x1 x2 x3 x4 x5 hmo (by rw [hrl.nc.2.1]; exact m_isC_n hz) H.size) (hm_cwV hts me_GrantServerModel_authorize wl_GrantServerLaw_35 rfl rfl ⟨Nat.le_of_ble_eq_true rfl, Nat.le_of_ble_eq_true rfl⟩) (hm_preV hM hK hmo.1 rfl) rfl rfl hl.1 rfl (lv_room (Nat.le_of_ble_eq_true rfl)) d_law_287 ⟨(show C + 0 + 0 ≤ 600000 by omega), (show Sl + 0 + 0 ≤ 7302250 by omega)⟩) (fun r106 f104 H locs p105 hM hS => ?_)
    obtain ⟨rfl, rfl⟩ := p105
    refine lv_icmp_eq (tgt := 749) hx hb d_law_290 (by decide) (fun h107 => ?_) (fun h107 => ?_)
    · refine W.widen (k := C + 1) (n := Sl + 3) (by omega) (by omega) ?_
      exact next _ _ _ _ _ _ _ _ rfl ⟨hcs, hdj, hmo, hrl.same⟩ hM hS
    · exact absurd rfl h107
  · obtain ⟨j, hj, ej⟩ := hm_ix (n := S.nc) (fun z => hz (Or.inl z)) (fun z => hz (Or.inr z)) (by have := hrl.nc.2.2; omega)
    subst ej
    have eA : a_auth (S.cl j 1) (S.cl j 2) x2 x3 x4 (z_free ((z_fi (S.w 0) x5 (S.us 0) 0).bind (a.g 0)) ((z_fi (S.w 1) x5 (S.us 1) 0).bind (a.g 1)) x5) (z_full (S.us 0) 16) = a_auth (c 6 j) (c 7 j) x2 x3 x4 (m_free (c 10) x5) (m_fu (m_roomF (c 10) 16 0)) := by rw [(hrl.cl j hj).2.1, (hrl.cl j hj).2.2, hrl.free hcs.gx x5, show z_full (S.us 0) 16 = m_fu (m_roomF (c 10) 16 0) from hrl.s0.fl (by decide)]
    by_cases h0 : a_auth (S.cl j 1) (S.cl j 2) x2 x3 x4 (z_free ((z_fi (S.w 0) x5 (S.us 0) 0).bind (a.g 0)) ((z_fi (S.w 1) x5 (S.us 1) 0).bind (a.g 1)) x5) (z_full (S.us 0) 16) = 0
    · obtain ⟨k1, k2, k3, k4, k5, k6, k7, k8⟩ := a_auth_ok h0
      obtain ⟨f1, f2, f3⟩ := z_free_ok k7
      have huL : S.us 0 < 16 := Nat.lt_of_not_le (fun z => k8 (z_full_ge (Nat.not_lt.mpr z)))
      obtain ⟨jr, er, r1, r2, r3⟩ := o_room_s hrl.s0.pm huL
      have r2 : jr < 0 + 16 := r2
      have hn0 : z_fi (S.w 0) x5 (S.us 0) 0 = none := (o_bind (u := S.us 0) (fun i h => (hrl.s0.fs h).1) (fun i h => hcs.gx 0 (by decide) i (Nat.lt_trans h huL))).mp f2
      obtain ⟨sp, hsp, hsc⟩ := o_15 (o_lt1 k4) k5
      refine hm_calli hS hM hA (va_runV (As := [.int (nI j), .int x2, .int x3, .int x4, .int x5]) (rest := []) X (c_auth l D k f (aF a 0) S.u (aF a) a.cn S.nc j (a.A (3, j, 0)) (S.cl j 0) (S.cl j 1) (S.cl j 2) S.us a.g S.w (cm a S) x2 x3 x4 x5 (a.A (1, 0, S.us 0)) (S.w 0 (S.us 0)) (cm a S 0 (S.us 0)) (hcs.F 0 rfl) (hcs.F 3 rfl) (hcs.C hj) (hcs.F 4 rfl) (hcs.F 14 rfl) (hcs.F 5 rfl) (hcs.F 15 rfl) (hcs.R (s := 0) (by decide) huL) hcs.ap hrl.nc.1 hrl.nc.2.2 hj (hcs.cn hj) (o_pm_le hrl.s0.pm) (hcs.rows (by decide) (o_pm_le hrl.s0.pm)) (o_pm_le hrl.s1.pm) (hcs.rows (by decide) (o_pm_le hrl.s1.pm)) h0 (hcs.g (s := 0) (by decide) huL) huL H.size) (hm_cwV hts me_GrantServer_authorize wl_GrantServerLaw_31 rfl rfl ⟨Nat.le_of_ble_eq_true rfl, Nat.le_of_ble_eq_true rfl⟩) (hm_preV hM hK (hcs.F 0 rfl) rfl) rfl rfl hl.1 rfl (lv_room (Nat.le_of_ble_eq_true rfl)) d_law_258 ⟨(show C + 0 ≤ 600000 by omega), (show Sl + 0 ≤ 7302250 by omega)⟩) (fun r103 f101 H locs p102 hM hS => ?_)
      obtain ⟨rfl, g104, g105, g106, hfr107⟩ := p102
      have hfrc : ∀ (q : Nat) (x : va_E), (∀ n, n ∈ [((0, 4, 0) : cX), ((0, 14, 0) : cX), ((1, 0, S.us 0) : cX)] → c_ok S n → q ≠ a.A n) → f q = some x → f101 q = some x := fun zq zx hh hq => hfr107 zq zx (hh (0, 4, 0) (by simp) ⟨rfl, rfl⟩) (hh (0, 14, 0) (by simp) ⟨rfl, rfl⟩) (hh (1, 0, S.us 0) (by simp) ⟨by decide, huL⟩) hq
      have hcs : cs k f101 a (cSm S.u S.nc S.cl (va_up S.us 0 (S.us 0 + 1)) (va_up S.w 0 (va_up (S.w 0) (S.us 0) (upd (upd (upd (upd (upd (upd (upd (upd (S.w 0 (S.us 0)) 0 x5) 1 (nI j)) 2 x3) 3 (S.u 15 + S.u 0)) 6 0) 7 0) 4 x2) 5 x4))) (va_up S.fm 0 (va_up (S.fm 0) (S.us 0) none)) S.nf S.fa S.tn S.tx S.rd S.rs S.ra S.ky) := by
        refine hcs.up [((0, 4, 0) : cX), ((0, 14, 0) : cX), ((1, 0, S.us 0) : cX)] (fun n hn hok => ?_) hfrc (c_same (fun i hi hn => ?_) (fun s i _ _ hn => ⟨rw2_ne (fun z => hn (by simp [z.1, z.2])), rw2_ne (fun z => hn (by simp [z.1, z.2]))⟩) (fun t _ => rfl) rfl) rfl rfl (fun s i t h1 h2 h3 => rw2_fm h3 (fun z => by cases z) (hcs.2.2.2.2 s i t h1 h2))
        · simp only [List.mem_cons, List.not_mem_nil, or_false] at hn
          rcases hn with hn | hn | hn
          · subst hn; exact g104
          · subst hn; exact g105
          · subst hn; exact c_r_at rfl (show va_up (S.w 0) (S.us 0) (upd (upd (upd (upd (upd (upd (upd (upd (S.w 0 (S.us 0)) 0 x5) 1 (nI j)) 2 x3) 3 (S.u 15 + S.u 0)) 6 0) 7 0) 4 x2) 5 x4) (S.us 0) = upd (upd (upd (upd (upd (upd (upd (upd (S.w 0 (S.us 0)) 0 x5) 1 (nI j)) 2 x3) 3 (S.u 15 + S.u 0)) 6 0) 7 0) 4 x2) 5 x4 from va_up_s) (show va_up (S.fm 0) (S.us 0) none (S.us 0) = none from va_up_s) rfl g106
        · rcases c_ixs hi with r | r | r | r | r | r | r | r | r | r | r | r | r | r | r | r | r | r <;> subst r <;> first | rfl | exact absurd (by simp) hn
      have hmo := cs.mo hdj hfrc hmo
      have hdj := dj_cv (S' := cSm S.u S.nc S.cl (va_up S.us 0 (S.us 0 + 1)) (va_up S.w 0 (va_up (S.w 0) (S.us 0) (upd (upd (upd (upd (upd (upd (upd (upd (S.w 0 (S.us 0)) 0 x5) 1 (nI j)) 2 x3) 3 (S.u 15 + S.u 0)) 6 0) 7 0) 4 x2) 5 x4))) (va_up S.fm 0 (va_up (S.fm 0) (S.us 0) none)) S.nf S.fa S.tn S.tx S.rd S.rs S.ra S.ky) rfl rfl hdj
      refine lv_aload_n hx hb d_law_261 rfl (lv_at hl 1 rfl) ?_
      refine lv_aload_n hx hb d_law_262 rfl (lv_at hl 3 rfl) ?_
      refine lv_iload_n hx hb d_law_263 rfl (lv_at hl 0 rfl) ?_
      refine lv_iconst (v := 1) hx hb d_law_264 (by decide) ?_
      refine lv_iadd hx hb d_law_265 ?_
      refine hm_top (z := nI (4 + 6 * B + 1)) (nI_add _ 1) ?_
      refine va_sld hx hb hX hbl hbA hS (vp_in_nI (n := 4 + 6 * B + 1) (N := L) (by omega) (by omega)) d_law_266 ?_
      refine hm_top (z := xs (4 + 6 * B + 1)) (by rw [nI_clamp (by omega)]) ?_
      refine hm_top (z := nI j) ex1 ?_
      refine lv_aload_n hx hb d_law_267 rfl (lv_at hl 3 rfl) ?_
      refine lv_iload_n hx hb d_law_268 rfl (lv_at hl 0 rfl) ?_
      refine lv_iconst (v := 2) hx hb d_law_269 (by decide) ?_
      refine lv_iadd hx hb d_law_270 ?_
      refine hm_top (z := nI (4 + 6 * B + 2)) (nI_add _ 2) ?_
      refine va_sld hx hb hX hbl hbA hS (vp_in_nI (n := 4 + 6 * B + 2) (N := L) (by omega) (by omega)) d_law_271 ?_
      refine hm_top (z := xs (4 + 6 * B + 2)) (by rw [nI_clamp (by omega)]) ?_
      refine hm_top (z := x2) ex2 ?_
      refine lv_aload_n hx hb d_law_272 rfl (lv_at hl 3 rfl) ?_
      refine lv_iload_n hx hb d_law_273 rfl (lv_at hl 0 rfl) ?_
      refine lv_iconst (v := 3) hx hb d_law_274 (by decide) ?_
      refine lv_iadd hx hb d_law_275 ?_
      refine hm_top (z := nI (4 + 6 * B + 3)) (nI_add _ 3) ?_
      refine va_sld hx hb hX hbl hbA hS (vp_in_nI (n := 4 + 6 * B + 3) (N := L) (by omega) (by omega)) d_law_276 ?_
      refine hm_top (z := xs (4 + 6 * B + 3)) (by rw [nI_clamp (by omega)]) ?_
      refine hm_top (z := x3) ex3 ?_
      refine lv_aload_n hx hb d_law_277 rfl (lv_at hl 3 rfl) ?_
      refine lv_iload_n hx hb d_law_278 rfl (lv_at hl 0 rfl) ?_
      refine lv_iconst (v := 4) hx hb d_law_279 (by decide) ?_
      refine lv_iadd hx hb d_law_280 ?_
      refine hm_top (z := nI (4 + 6 * B + 4)) (nI_add _ 4) ?_
      refine va_sld hx hb hX hbl hbA hS (vp_in_nI (n := 4 + 6 * B + 4) (N := L) (by omega) (by omega)) d_law_281 ?_
      refine hm_top (z := xs (4 + 6 * B + 4)) (by rw [nI_clamp (by omega)]) ?_
      refine hm_top (z := x4) ex4 ?_
      refine lv_aload_n hx hb d_law_282 rfl (lv_at hl 3 rfl) ?_
      refine lv_iload_n hx hb d_law_283 rfl (lv_at hl 0 rfl) ?_
      refine lv_iconst (v := 5) hx hb d_law_284 (by decide) ?_
      refine lv_iadd hx hb d_law_285 ?_
      refine hm_top (z := nI (4 + 6 * B + 5)) (nI_add _ 5) ?_
      refine va_sld hx hb hX hbl hbA hS (vp_in_nI (n := 4 + 6 * B + 5) (N := L) (by omega) (by omega)) d_law_286 ?_
      refine hm_top (z := xs (4 + 6 * B + 5)) (by rw [nI_clamp (by omega)]) ?_
      refine hm_top (z := x5) ex5 ?_
      refine hm_calli hS hM hA (va_runV (As := [.int (nI j), .int x2, .int x3, .int x4, .int x5]) (rest := [.int 0]) X (m_c_auth l D k f101 h9 adM sk v c j x2 x3 x4 x5 jr hmo (by rw [hrl.nc.2.1]; exact m_isC_y hj hrl.nc.2.2) (by have := hrl.nc.2.2; omega) (eA.symm.trans h0) er (by omega) H.size) (hm_cwV hts me_GrantServerModel_authorize wl_GrantServerLaw_35 rfl rfl ⟨Nat.le_of_ble_eq_true rfl, Nat.le_of_ble_eq_true rfl⟩) (hm_preV hM hK hmo.1 rfl) rfl rfl hl.1 rfl (lv_room (Nat.le_of_ble_eq_true rfl)) d_law_287 ⟨(show C + 0 + 0 ≤ 600000 by omega), (show Sl + 0 + 0 ≤ 7302250 by omega)⟩) (fun r110 f108 H locs p109 hM hS => ?_)
      obtain ⟨rfl, hmo, hfr111⟩ := p109
      have hcs := hcs.keep hdj hfr111
      refine lv_icmp_eq (tgt := 749) hx hb d_law_290 (by decide) (fun h112 => ?_) (fun h112 => ?_)
      · refine W.widen (k := C + 1) (n := Sl + 3) (by omega) (by omega) ?_
        exact next _ _ _ _ _ _ _ _ rfl ⟨hcs, hdj, hmo, (by subst hsc; exact hrl.auth (by omega) r3 (o_one f1) hn0 hsp rfl rfl rfl rfl rfl rfl rfl rfl)⟩ hM hS
      · exact absurd rfl h112
    · refine hm_calli hS hM hA (va_runV (As := [.int (nI j), .int x2, .int x3, .int x4, .int x5]) (rest := []) X (c_auth_no l D k f (aF a 0) S.u (aF a) a.cn S.nc j (a.A (3, j, 0)) (S.cl j 0) (S.cl j 1) (S.cl j 2) S.us a.g S.w (cm a S) x2 x3 x4 x5 (hcs.F 0 rfl) (hcs.F 3 rfl) (hcs.C hj) (hcs.F 4 rfl) (hcs.F 14 rfl) (hcs.F 5 rfl) (hcs.F 15 rfl) hrl.nc.1 hrl.nc.2.2 hj (hcs.cn hj) (o_pm_le hrl.s0.pm) (hcs.rows (by decide) (o_pm_le hrl.s0.pm)) (o_pm_le hrl.s1.pm) (hcs.rows (by decide) (o_pm_le hrl.s1.pm)) h0 H.size) (hm_cwV hts me_GrantServer_authorize wl_GrantServerLaw_31 rfl rfl ⟨Nat.le_of_ble_eq_true rfl, Nat.le_of_ble_eq_true rfl⟩) (hm_preV hM hK (hcs.F 0 rfl) rfl) rfl rfl hl.1 rfl (lv_room (Nat.le_of_ble_eq_true rfl)) d_law_258 ⟨(show C + 0 ≤ 600000 by omega), (show Sl + 0 ≤ 7302250 by omega)⟩) (fun r103 f101 H locs p102 hM hS => ?_)
      obtain ⟨rfl, rfl⟩ := p102
      refine lv_aload_n hx hb d_law_261 rfl (lv_at hl 1 rfl) ?_
      refine lv_aload_n hx hb d_law_262 rfl (lv_at hl 3 rfl) ?_
      refine lv_iload_n hx hb d_law_263 rfl (lv_at hl 0 rfl) ?_
      refine lv_iconst (v := 1) hx hb d_law_264 (by decide) ?_
      refine lv_iadd hx hb d_law_265 ?_
      refine hm_top (z := nI (4 + 6 * B + 1)) (nI_add _ 1) ?_
      refine va_sld hx hb hX hbl hbA hS (vp_in_nI (n := 4 + 6 * B + 1) (N := L) (by omega) (by omega)) d_law_266 ?_
      refine hm_top (z := xs (4 + 6 * B + 1)) (by rw [nI_clamp (by omega)]) ?_
      refine hm_top (z := nI j) ex1 ?_
      refine lv_aload_n hx hb d_law_267 rfl (lv_at hl 3 rfl) ?_
      refine lv_iload_n hx hb d_law_268 rfl (lv_at hl 0 rfl) ?_
      refine lv_iconst (v := 2) hx hb d_law_269 (by decide) ?_
      refine lv_iadd hx hb d_law_270 ?_
      refine hm_top (z := nI (4 + 6 * B + 2)) (nI_add _ 2) ?_
      refine va_sld hx hb hX hbl hbA hS (vp_in_nI (n := 4 + 6 * B + 2) (N := L) (by omega) (by omega)) d_law_271 ?_
      refine hm_top (z := xs (4 + 6 * B + 2)) (by rw [nI_clamp (by omega)]) ?_
      refine hm_top (z := x2) ex2 ?_
      refine lv_aload_n hx hb d_law_272 rfl (lv_at hl 3 rfl) ?_
      refine lv_iload_n hx hb d_law_273 rfl (lv_at hl 0 rfl) ?_
      refine lv_iconst (v := 3) hx hb d_law_274 (by decide) ?_
      refine lv_iadd hx hb d_law_275 ?_
      refine hm_top (z := nI (4 + 6 * B + 3)) (nI_add _ 3) ?_
      refine va_sld hx hb hX hbl hbA hS (vp_in_nI (n := 4 + 6 * B + 3) (N := L) (by omega) (by omega)) d_law_276 ?_
      refine hm_top (z := xs (4 + 6 * B + 3)) (by rw [nI_clamp (by omega)]) ?_
      refine hm_top (z := x3) ex3 ?_
      refine lv_aload_n hx hb d_law_277 rfl (lv_at hl 3 rfl) ?_
      refine lv_iload_n hx hb d_law_278 rfl (lv_at hl 0 rfl) ?_
      refine lv_iconst (v := 4) hx hb d_law_279 (by decide) ?_
      refine lv_iadd hx hb d_law_280 ?_
      refine hm_top (z := nI (4 + 6 * B + 4)) (nI_add _ 4) ?_
      refine va_sld hx hb hX hbl hbA hS (vp_in_nI (n := 4 + 6 * B + 4) (N := L) (by omega) (by omega)) d_law_281 ?_
      refine hm_top (z := xs (4 + 6 * B + 4)) (by rw [nI_clamp (by omega)]) ?_
      refine hm_top (z := x4) ex4 ?_
      refine lv_aload_n hx hb d_law_282 rfl (lv_at hl 3 rfl) ?_
      refine lv_iload_n hx hb d_law_283 rfl (lv_at hl 0 rfl) ?_
      refine lv_iconst (v := 5) hx hb d_law_284 (by decide) ?_
      refine lv_iadd hx hb d_law_285 ?_
      refine hm_top (z := nI (4 + 6 * B + 5)) (nI_add _ 5) ?_
      refine va_sld hx hb hX hbl hbA hS (vp_in_nI (n := 4 + 6 * B + 5) (N := L) (by omega) (by omega)) d_law_286 ?_
      refine hm_top (z := xs (4 + 6 * B + 5)) (by rw [nI_clamp (by omega)]) ?_
      refine hm_top (z := x5) ex5 ?_
      refine hm_calli hS hM hA (va_runV (As := [.int (nI j), .int x2, .int x3, .int x4, .int x5]) (rest := [.int (a_auth (S.cl j 1) (S.cl j 2) x2 x3 x4 (z_free ((z_fi (S.w 0) x5 (S.us 0) 0).bind (a.g 0)) ((z_fi (S.w 1) x5 (S.us 1) 0).bind (a.g 1)) x5) (z_full (S.us 0) 16))]) X (m_c_auth_no l D k f h9 adM sk v c j x2 x3 x4 x5 hmo (by rw [hrl.nc.2.1]; exact m_isC_y hj hrl.nc.2.2) (by have := hrl.nc.2.2; omega) (fun z => h0 (eA.trans z)) H.size) (hm_cwV hts me_GrantServerModel_authorize wl_GrantServerLaw_35 rfl rfl ⟨Nat.le_of_ble_eq_true rfl, Nat.le_of_ble_eq_true rfl⟩) (hm_preV hM hK hmo.1 rfl) rfl rfl hl.1 rfl (lv_room (Nat.le_of_ble_eq_true rfl)) d_law_287 ⟨(show C + 0 + 0 ≤ 600000 by omega), (show Sl + 0 + 0 ≤ 7302250 by omega)⟩) (fun r106 f104 H locs p105 hM hS => ?_)
      obtain ⟨rfl, rfl⟩ := p105
      refine lv_icmp_eq (tgt := 749) hx hb d_law_290 (by decide) (fun h107 => ?_) (fun h107 => ?_)
      · refine W.widen (k := C + 1) (n := Sl + 3) (by omega) (by omega) ?_
        exact next _ _ _ _ _ _ _ _ rfl ⟨hcs, hdj, hmo, hrl.same⟩ hM hS
      · exact absurd eA h107
set_option maxHeartbeats 40000000 in
set_option maxRecDepth 100000 in
theorem lw_c6 {p : Program} {e : Env} {s : State} {m : MethodId} {below : List Frame} {meth : Method} {cd : Code} {l : Launch} {b L : Nat} {xs : Nat → Int32} {D : va_G} {k : Nat → ClassId} {A : Nat → Prop} {sA sV : Nat → Nat} {h9 : Nat} {adM : Nat → Nat} {Q : State → Prop} {sk : Int64}
    (X : CallFix p m cd code 4 s #[Value.ref b] TB R_GrantServerLaw) (hX : va_X b L xs s s.heap) (hbl : b < s.heap.size) (hbA : ¬ A b) (hK : hm_K D vwCl (tyL k) s) (hA : ∀ q, s.heap.size ≤ q → A q) (hZ : hm_Z sA sV A s s.heap)
    {f : hm} {a : cA} {S : cS} {sg : Nat → Nat → Nat} {v : Nat → Int32} {c : Nat → Nat → Int32} {B C Sl : Nat} {H : Heap} {locs : List Loc} {ls : Array Slot} (hB : B < 512) (hi : 4 + 6 * B + 6 ≤ L) (hL : L ≤ 3076) (hC : C ≤ 10000) (hSl : Sl ≤ 20000)
    (hI : lw_I k f a S h9 adM sk v c sg B) (hM : hm_W D vwCl A f H) (hS : va_S A s.heap H locs) (hl : lv_has ls 4 [(3, .int (nI (4 + 6 * B))), (2, .ref h9), (1, .ref (aF a 0)), (0, .ref b)])
    (next : ∀ (f' : hm) (a' : cA) (S' : cS) (sg' : Nat → Nat → Nat) (v' : Nat → Int32) (c' : Nat → Nat → Int32) (H' : Heap) (locs' : List Loc), aF a' 0 = aF a 0 → lw_I k f' a' S' h9 adM sk v' c' sg' (B + 1) → hm_W D vwCl A f' H' → va_S A s.heap H' locs' → W p l e room_1 s m #[Value.ref b] below meth cd H' locs' (C + 1) (Sl + 3) Q (F0 m 749 ls [])) :
    W p l e room_1 s m #[Value.ref b] below meth cd H locs C Sl Q (F0 m 424 ls []) := by
  obtain ⟨hcs, hdj, hmo, hrl⟩ := hI
  have hx := X.1; have hb := X.2.1; have hml := X.2.2.1; have hown := X.2.2.2.1; have hts := X.2.2.2.2
  obtain ⟨x1, ex1⟩ : ∃ z, xs (4 + 6 * B + 1) = z := ⟨_, rfl⟩
  obtain ⟨x2, ex2⟩ : ∃ z, xs (4 + 6 * B + 2) = z := ⟨_, rfl⟩
  obtain ⟨x3, ex3⟩ : ∃ z, xs (4 + 6 * B + 3) = z := ⟨_, rfl⟩
  obtain ⟨x4, ex4⟩ : ∃ z, xs (4 + 6 * B + 4) = z := ⟨_, rfl⟩
  obtain ⟨x5, ex5⟩ : ∃ z, xs (4 + 6 * B + 5) = z := ⟨_, rfl⟩
  refine lv_aload_n hx hb d_law_424 rfl (lv_at hl 2 rfl) ?_
  refine lv_aload_n hx hb d_law_425 rfl (lv_at hl 3 rfl) ?_
  refine lv_iload_n hx hb d_law_426 rfl (lv_at hl 0 rfl) ?_
  refine lv_iconst (v := 1) hx hb d_law_427 (by decide) ?_
  refine lv_iadd hx hb d_law_428 ?_
  refine hm_top (z := nI (4 + 6 * B + 1)) (nI_add _ 1) ?_
  refine va_sld hx hb hX hbl hbA hS (vp_in_nI (n := 4 + 6 * B + 1) (N := L) (by omega) (by omega)) d_law_429 ?_
  refine hm_top (z := xs (4 + 6 * B + 1)) (by rw [nI_clamp (by omega)]) ?_
  refine hm_top (z := x1) ex1 ?_
  refine lv_aload_n hx hb d_law_430 rfl (lv_at hl 3 rfl) ?_
  refine lv_iload_n hx hb d_law_431 rfl (lv_at hl 0 rfl) ?_
  refine lv_iconst (v := 2) hx hb d_law_432 (by decide) ?_
  refine lv_iadd hx hb d_law_433 ?_
  refine hm_top (z := nI (4 + 6 * B + 2)) (nI_add _ 2) ?_
  refine va_sld hx hb hX hbl hbA hS (vp_in_nI (n := 4 + 6 * B + 2) (N := L) (by omega) (by omega)) d_law_434 ?_
  refine hm_top (z := xs (4 + 6 * B + 2)) (by rw [nI_clamp (by omega)]) ?_
  refine hm_top (z := x2) ex2 ?_
  by_cases hk0 : x1 = 0
  · subst hk0
    cases hfi : z_fi (S.w 0) x2 (S.us 0) 0 with
    | none =>
      have hf : m_findF (c 10) x2 16 0 < 0 := by rw [show m_findF (c 10) x2 16 0 = -1 from hrl.s0.fn hfi]; decide
      refine hm_calli hS hM hA (va_runV (As := [.int 0, .int x2]) (rest := []) X (c_active_no0 l D k f (aF a 0) S.u (aF a) S.us a.g S.w (cm a S) 0 x2 (hcs.F 0 rfl) (hcs.F 4 rfl) (hcs.F 14 rfl) rfl (o_pm_le hrl.s0.pm) (hcs.rows (by decide) (o_pm_le hrl.s0.pm)) hfi H.size) (hm_cwV hts me_GrantServer_active wl_GrantServerLaw_50 rfl rfl ⟨Nat.le_of_ble_eq_true rfl, Nat.le_of_ble_eq_true rfl⟩) (hm_preV hM hK (hcs.F 0 rfl) rfl) rfl rfl hl.1 rfl (lv_room (Nat.le_of_ble_eq_true rfl)) d_law_435 ⟨(show C + 0 ≤ 600000 by omega), (show Sl + 0 ≤ 7302250 by omega)⟩) (fun r103 f101 H locs p102 hM hS => ?_)
      obtain ⟨rfl, rfl⟩ := p102
      refine lv_aload_n hx hb d_law_438 rfl (lv_at hl 1 rfl) ?_
      refine lv_aload_n hx hb d_law_439 rfl (lv_at hl 3 rfl) ?_
      refine lv_iload_n hx hb d_law_440 rfl (lv_at hl 0 rfl) ?_
      refine lv_iconst (v := 1) hx hb d_law_441 (by decide) ?_
      refine lv_iadd hx hb d_law_442 ?_
      refine hm_top (z := nI (4 + 6 * B + 1)) (nI_add _ 1) ?_
      refine va_sld hx hb hX hbl hbA hS (vp_in_nI (n := 4 + 6 * B + 1) (N := L) (by omega) (by omega)) d_law_443 ?_
      refine hm_top (z := xs (4 + 6 * B + 1)) (by rw [nI_clamp (by omega)]) ?_
      refine hm_top (z := 0) ex1 ?_
      refine lv_aload_n hx hb d_law_444 rfl (lv_at hl 3 rfl) ?_
      refine lv_iload_n hx hb d_law_445 rfl (lv_at hl 0 rfl) ?_
      refine lv_iconst (v := 2) hx hb d_law_446 (by decide) ?_
      refine lv_iadd hx hb d_law_447 ?_
      refine hm_top (z := nI (4 + 6 * B + 2)) (nI_add _ 2) ?_
      refine va_sld hx hb hX hbl hbA hS (vp_in_nI (n := 4 + 6 * B + 2) (N := L) (by omega) (by omega)) d_law_448 ?_
      refine hm_top (z := xs (4 + 6 * B + 2)) (by rw [nI_clamp (by omega)]) ?_
      refine hm_top (z := x2) ex2 ?_
      refine hm_calli hS hM hA (va_runV (As := [.int 0, .int x2]) (rest := [.int 0]) X (m_c_active_no l D k f h9 adM sk v c 0 x2 hmo (by decide) (by decide) hf H.size) (hm_cwV hts me_GrantServerModel_active wl_GrantServerLaw_53 rfl rfl ⟨Nat.le_of_ble_eq_true rfl, Nat.le_of_ble_eq_true rfl⟩) (hm_preV hM hK hmo.1 rfl) rfl rfl hl.1 rfl (lv_room (Nat.le_of_ble_eq_true rfl)) d_law_449 ⟨(show C + 0 + 0 ≤ 600000 by omega), (show Sl + 0 + 0 ≤ 7302250 by omega)⟩) (fun r106 f104 H locs p105 hM hS => ?_)
      obtain ⟨rfl, rfl⟩ := p105
      refine lv_icmp_eq (tgt := 749) hx hb d_law_452 (by decide) (fun h107 => ?_) (fun h107 => ?_)
      · refine W.widen (k := C + 1) (n := Sl + 3) (by omega) (by omega) ?_
        exact next _ _ _ _ _ _ _ _ rfl ⟨hcs, hdj, hmo, hrl.same⟩ hM hS
      · exact absurd rfl h107
    | some i =>
      obtain ⟨hi9, hf⟩ := hrl.s0.fs hfi
      have hf : m_findF (c 10) x2 16 0 = nI (sg 0 i) := hf
      have hiN : i < gs_N 0 := Nat.lt_of_lt_of_le hi9 (o_pm_le hrl.s0.pm)
      have Rw := hrl.s0.row i hi9
      have Lk := hrl.s0.lt (by decide) hi9
      have Lk2 : sg 0 i < 0 + 16 := Lk.2.1
      refine hm_calli hS hM hA (va_runV (As := [.int 0, .int x2]) (rest := []) X (c_active0 l D k f (aF a 0) S.u (aF a) S.us a.g S.w (cm a S) i (a.A (1, 0, i)) (o_fv S 0 0 i) (o_fv S 1 0 i) (o_fv S 2 0 i) 0 x2 (hcs.F 0 rfl) (hcs.F 4 rfl) (hcs.F 14 rfl) (hcs.R (s := 0) (by decide) hiN) rfl (o_pm_le hrl.s0.pm) (hcs.rows (by decide) (o_pm_le hrl.s0.pm)) hfi (hcs.g (s := 0) (by decide) hiN) (hcs.fam (s := 0) (u := S.us 0) (by decide) (o_pm_le hrl.s0.pm) i hi9) H.size) (hm_cwV hts me_GrantServer_active wl_GrantServerLaw_50 rfl rfl ⟨Nat.le_of_ble_eq_true rfl, Nat.le_of_ble_eq_true rfl⟩) (hm_preV hM hK (hcs.F 0 rfl) rfl) rfl rfl hl.1 rfl (lv_room (Nat.le_of_ble_eq_true rfl)) d_law_435 ⟨(show C + 0 ≤ 600000 by omega), (show Sl + 0 ≤ 7302250 by omega)⟩) (fun r103 f101 H locs p102 hM hS => ?_)
      obtain ⟨rfl, rfl⟩ := p102
      refine lv_aload_n hx hb d_law_438 rfl (lv_at hl 1 rfl) ?_
      refine lv_aload_n hx hb d_law_439 rfl (lv_at hl 3 rfl) ?_
      refine lv_iload_n hx hb d_law_440 rfl (lv_at hl 0 rfl) ?_
      refine lv_iconst (v := 1) hx hb d_law_441 (by decide) ?_
      refine lv_iadd hx hb d_law_442 ?_
      refine hm_top (z := nI (4 + 6 * B + 1)) (nI_add _ 1) ?_
      refine va_sld hx hb hX hbl hbA hS (vp_in_nI (n := 4 + 6 * B + 1) (N := L) (by omega) (by omega)) d_law_443 ?_
      refine hm_top (z := xs (4 + 6 * B + 1)) (by rw [nI_clamp (by omega)]) ?_
      refine hm_top (z := 0) ex1 ?_
      refine lv_aload_n hx hb d_law_444 rfl (lv_at hl 3 rfl) ?_
      refine lv_iload_n hx hb d_law_445 rfl (lv_at hl 0 rfl) ?_
      refine lv_iconst (v := 2) hx hb d_law_446 (by decide) ?_
      refine lv_iadd hx hb d_law_447 ?_
      refine hm_top (z := nI (4 + 6 * B + 2)) (nI_add _ 2) ?_
      refine va_sld hx hb hX hbl hbA hS (vp_in_nI (n := 4 + 6 * B + 2) (N := L) (by omega) (by omega)) d_law_448 ?_
      refine hm_top (z := xs (4 + 6 * B + 2)) (by rw [nI_clamp (by omega)]) ?_
      refine hm_top (z := x2) ex2 ?_
      refine hm_calli hS hM hA (va_runV (As := [.int 0, .int x2]) (rest := [.int (z_act (S.w 0 i) ((cm a S) 0 i) (o_fv S 2 0 i) (S.u 15))]) X (m_c_active l D k f h9 adM sk v c 0 x2 (sg 0 i) hmo (by decide) (by decide) hf (by omega) (hrl.fm _ (by omega)) H.size) (hm_cwV hts me_GrantServerModel_active wl_GrantServerLaw_53 rfl rfl ⟨Nat.le_of_ble_eq_true rfl, Nat.le_of_ble_eq_true rfl⟩) (hm_preV hM hK hmo.1 rfl) rfl rfl hl.1 rfl (lv_room (Nat.le_of_ble_eq_true rfl)) d_law_449 ⟨(show C + 0 + 0 ≤ 600000 by omega), (show Sl + 0 + 0 ≤ 7302250 by omega)⟩) (fun r106 f104 H locs p105 hM hS => ?_)
      obtain ⟨rfl, rfl⟩ := p105
      refine lv_icmp_eq (tgt := 749) hx hb d_law_452 (by decide) (fun h107 => ?_) (fun h107 => ?_)
      · refine W.widen (k := C + 1) (n := Sl + 3) (by omega) (by omega) ?_
        exact next _ _ _ _ _ _ _ _ rfl ⟨hcs, hdj, hmo, hrl.same⟩ hM hS
      · exact absurd (hrl.act (by omega) (by decide) hi9 (cm_n 0 i)) h107
  · by_cases hk1 : x1 = 1
    · subst hk1
      cases hfi : z_fi (S.w 1) x2 (S.us 1) 0 with
      | none =>
        have hf : m_findF (c 10) x2 24 16 < 0 := by rw [show m_findF (c 10) x2 24 16 = -1 from hrl.s1.fn hfi]; decide
        refine hm_calli hS hM hA (va_runV (As := [.int 1, .int x2]) (rest := []) X (c_active_no1 l D k f (aF a 0) S.u (aF a) S.us a.g S.w (cm a S) 1 x2 (hcs.F 0 rfl) (hcs.F 5 rfl) (hcs.F 15 rfl) rfl (o_pm_le hrl.s1.pm) (hcs.rows (by decide) (o_pm_le hrl.s1.pm)) hfi H.size) (hm_cwV hts me_GrantServer_active wl_GrantServerLaw_50 rfl rfl ⟨Nat.le_of_ble_eq_true rfl, Nat.le_of_ble_eq_true rfl⟩) (hm_preV hM hK (hcs.F 0 rfl) rfl) rfl rfl hl.1 rfl (lv_room (Nat.le_of_ble_eq_true rfl)) d_law_435 ⟨(show C + 0 ≤ 600000 by omega), (show Sl + 0 ≤ 7302250 by omega)⟩) (fun r103 f101 H locs p102 hM hS => ?_)
        obtain ⟨rfl, rfl⟩ := p102
        refine lv_aload_n hx hb d_law_438 rfl (lv_at hl 1 rfl) ?_
        refine lv_aload_n hx hb d_law_439 rfl (lv_at hl 3 rfl) ?_
        refine lv_iload_n hx hb d_law_440 rfl (lv_at hl 0 rfl) ?_
        refine lv_iconst (v := 1) hx hb d_law_441 (by decide) ?_
        refine lv_iadd hx hb d_law_442 ?_
        refine hm_top (z := nI (4 + 6 * B + 1)) (nI_add _ 1) ?_
        refine va_sld hx hb hX hbl hbA hS (vp_in_nI (n := 4 + 6 * B + 1) (N := L) (by omega) (by omega)) d_law_443 ?_
        refine hm_top (z := xs (4 + 6 * B + 1)) (by rw [nI_clamp (by omega)]) ?_
        refine hm_top (z := 1) ex1 ?_
        refine lv_aload_n hx hb d_law_444 rfl (lv_at hl 3 rfl) ?_
        refine lv_iload_n hx hb d_law_445 rfl (lv_at hl 0 rfl) ?_
        refine lv_iconst (v := 2) hx hb d_law_446 (by decide) ?_
        refine lv_iadd hx hb d_law_447 ?_
        refine hm_top (z := nI (4 + 6 * B + 2)) (nI_add _ 2) ?_
        refine va_sld hx hb hX hbl hbA hS (vp_in_nI (n := 4 + 6 * B + 2) (N := L) (by omega) (by omega)) d_law_448 ?_
        refine hm_top (z := xs (4 + 6 * B + 2)) (by rw [nI_clamp (by omega)]) ?_
        refine hm_top (z := x2) ex2 ?_
        refine hm_calli hS hM hA (va_runV (As := [.int 1, .int x2]) (rest := [.int 0]) X (m_c_active_no l D k f h9 adM sk v c 1 x2 hmo (by decide) (by decide) hf H.size) (hm_cwV hts me_GrantServerModel_active wl_GrantServerLaw_53 rfl rfl ⟨Nat.le_of_ble_eq_true rfl, Nat.le_of_ble_eq_true rfl⟩) (hm_preV hM hK hmo.1 rfl) rfl rfl hl.1 rfl (lv_room (Nat.le_of_ble_eq_true rfl)) d_law_449 ⟨(show C + 0 + 0 ≤ 600000 by omega), (show Sl + 0 + 0 ≤ 7302250 by omega)⟩) (fun r106 f104 H locs p105 hM hS => ?_)
        obtain ⟨rfl, rfl⟩ := p105
        refine lv_icmp_eq (tgt := 749) hx hb d_law_452 (by decide) (fun h107 => ?_) (fun h107 => ?_)
        · refine W.widen (k := C + 1) (n := Sl + 3) (by omega) (by omega) ?_
          exact next _ _ _ _ _ _ _ _ rfl ⟨hcs, hdj, hmo, hrl.same⟩ hM hS
        · exact absurd rfl h107
      | some i =>
        obtain ⟨hi9, hf⟩ := hrl.s1.fs hfi
        have hf : m_findF (c 10) x2 24 16 = nI (sg 1 i) := hf
        have hiN : i < gs_N 1 := Nat.lt_of_lt_of_le hi9 (o_pm_le hrl.s1.pm)
        have Rw := hrl.s1.row i hi9
        have Lk := hrl.s1.lt (by decide) hi9
        have Lk2 : sg 1 i < 16 + 24 := Lk.2.1
        refine hm_calli hS hM hA (va_runV (As := [.int 1, .int x2]) (rest := []) X (c_active1 l D k f (aF a 0) S.u (aF a) S.us a.g S.w (cm a S) i (a.A (1, 1, i)) (o_fv S 0 1 i) (o_fv S 1 1 i) (o_fv S 2 1 i) 1 x2 (hcs.F 0 rfl) (hcs.F 5 rfl) (hcs.F 15 rfl) (hcs.R (s := 1) (by decide) hiN) rfl (o_pm_le hrl.s1.pm) (hcs.rows (by decide) (o_pm_le hrl.s1.pm)) hfi (hcs.g (s := 1) (by decide) hiN) (hcs.fam (s := 1) (u := S.us 1) (by decide) (o_pm_le hrl.s1.pm) i hi9) H.size) (hm_cwV hts me_GrantServer_active wl_GrantServerLaw_50 rfl rfl ⟨Nat.le_of_ble_eq_true rfl, Nat.le_of_ble_eq_true rfl⟩) (hm_preV hM hK (hcs.F 0 rfl) rfl) rfl rfl hl.1 rfl (lv_room (Nat.le_of_ble_eq_true rfl)) d_law_435 ⟨(show C + 0 ≤ 600000 by omega), (show Sl + 0 ≤ 7302250 by omega)⟩) (fun r103 f101 H locs p102 hM hS => ?_)
        obtain ⟨rfl, rfl⟩ := p102
        refine lv_aload_n hx hb d_law_438 rfl (lv_at hl 1 rfl) ?_
        refine lv_aload_n hx hb d_law_439 rfl (lv_at hl 3 rfl) ?_
        refine lv_iload_n hx hb d_law_440 rfl (lv_at hl 0 rfl) ?_
        refine lv_iconst (v := 1) hx hb d_law_441 (by decide) ?_
        refine lv_iadd hx hb d_law_442 ?_
        refine hm_top (z := nI (4 + 6 * B + 1)) (nI_add _ 1) ?_
        refine va_sld hx hb hX hbl hbA hS (vp_in_nI (n := 4 + 6 * B + 1) (N := L) (by omega) (by omega)) d_law_443 ?_
        refine hm_top (z := xs (4 + 6 * B + 1)) (by rw [nI_clamp (by omega)]) ?_
        refine hm_top (z := 1) ex1 ?_
        refine lv_aload_n hx hb d_law_444 rfl (lv_at hl 3 rfl) ?_
        refine lv_iload_n hx hb d_law_445 rfl (lv_at hl 0 rfl) ?_
        refine lv_iconst (v := 2) hx hb d_law_446 (by decide) ?_
        refine lv_iadd hx hb d_law_447 ?_
        refine hm_top (z := nI (4 + 6 * B + 2)) (nI_add _ 2) ?_
        refine va_sld hx hb hX hbl hbA hS (vp_in_nI (n := 4 + 6 * B + 2) (N := L) (by omega) (by omega)) d_law_448 ?_
        refine hm_top (z := xs (4 + 6 * B + 2)) (by rw [nI_clamp (by omega)]) ?_
        refine hm_top (z := x2) ex2 ?_
        refine hm_calli hS hM hA (va_runV (As := [.int 1, .int x2]) (rest := [.int (z_act (S.w 1 i) ((cm a S) 1 i) (o_fv S 2 1 i) (S.u 15))]) X (m_c_active l D k f h9 adM sk v c 1 x2 (sg 1 i) hmo (by decide) (by decide) hf (by omega) (hrl.fm _ (by omega)) H.size) (hm_cwV hts me_GrantServerModel_active wl_GrantServerLaw_53 rfl rfl ⟨Nat.le_of_ble_eq_true rfl, Nat.le_of_ble_eq_true rfl⟩) (hm_preV hM hK hmo.1 rfl) rfl rfl hl.1 rfl (lv_room (Nat.le_of_ble_eq_true rfl)) d_law_449 ⟨(show C + 0 + 0 ≤ 600000 by omega), (show Sl + 0 + 0 ≤ 7302250 by omega)⟩) (fun r106 f104 H locs p105 hM hS => ?_)
        obtain ⟨rfl, rfl⟩ := p105
        refine lv_icmp_eq (tgt := 749) hx hb d_law_452 (by decide) (fun h107 => ?_) (fun h107 => ?_)
        · refine W.widen (k := C + 1) (n := Sl + 3) (by omega) (by omega) ?_
          exact next _ _ _ _ _ _ _ _ rfl ⟨hcs, hdj, hmo, hrl.same⟩ hM hS
        · exact absurd (hrl.act (by omega) (by decide) hi9 (cm_n 1 i)) h107
    · by_cases hk2 : x1 = 2
      · subst hk2
        cases hfi : z_fi (S.w 2) x2 (S.us 2) 0 with
        | none =>
          have hf : m_findF (c 10) x2 24 40 < 0 := by rw [show m_findF (c 10) x2 24 40 = -1 from hrl.s2.fn hfi]; decide
          refine hm_calli hS hM hA (va_runV (As := [.int 2, .int x2]) (rest := []) X (c_active_no2 l D k f (aF a 0) S.u (aF a) S.us a.g S.w (cm a S) 2 x2 (hcs.F 0 rfl) (hcs.F 6 rfl) (hcs.F 16 rfl) rfl (o_pm_le hrl.s2.pm) (hcs.rows (by decide) (o_pm_le hrl.s2.pm)) hfi H.size) (hm_cwV hts me_GrantServer_active wl_GrantServerLaw_50 rfl rfl ⟨Nat.le_of_ble_eq_true rfl, Nat.le_of_ble_eq_true rfl⟩) (hm_preV hM hK (hcs.F 0 rfl) rfl) rfl rfl hl.1 rfl (lv_room (Nat.le_of_ble_eq_true rfl)) d_law_435 ⟨(show C + 0 ≤ 600000 by omega), (show Sl + 0 ≤ 7302250 by omega)⟩) (fun r103 f101 H locs p102 hM hS => ?_)
          obtain ⟨rfl, rfl⟩ := p102
          refine lv_aload_n hx hb d_law_438 rfl (lv_at hl 1 rfl) ?_
          refine lv_aload_n hx hb d_law_439 rfl (lv_at hl 3 rfl) ?_
          refine lv_iload_n hx hb d_law_440 rfl (lv_at hl 0 rfl) ?_
          refine lv_iconst (v := 1) hx hb d_law_441 (by decide) ?_
          refine lv_iadd hx hb d_law_442 ?_
          refine hm_top (z := nI (4 + 6 * B + 1)) (nI_add _ 1) ?_
          refine va_sld hx hb hX hbl hbA hS (vp_in_nI (n := 4 + 6 * B + 1) (N := L) (by omega) (by omega)) d_law_443 ?_
          refine hm_top (z := xs (4 + 6 * B + 1)) (by rw [nI_clamp (by omega)]) ?_
          refine hm_top (z := 2) ex1 ?_
          refine lv_aload_n hx hb d_law_444 rfl (lv_at hl 3 rfl) ?_
          refine lv_iload_n hx hb d_law_445 rfl (lv_at hl 0 rfl) ?_
          refine lv_iconst (v := 2) hx hb d_law_446 (by decide) ?_
          refine lv_iadd hx hb d_law_447 ?_
          refine hm_top (z := nI (4 + 6 * B + 2)) (nI_add _ 2) ?_
          refine va_sld hx hb hX hbl hbA hS (vp_in_nI (n := 4 + 6 * B + 2) (N := L) (by omega) (by omega)) d_law_448 ?_
          refine hm_top (z := xs (4 + 6 * B + 2)) (by rw [nI_clamp (by omega)]) ?_
          refine hm_top (z := x2) ex2 ?_
          refine hm_calli hS hM hA (va_runV (As := [.int 2, .int x2]) (rest := [.int 0]) X (m_c_active_no l D k f h9 adM sk v c 2 x2 hmo (by decide) (by decide) hf H.size) (hm_cwV hts me_GrantServerModel_active wl_GrantServerLaw_53 rfl rfl ⟨Nat.le_of_ble_eq_true rfl, Nat.le_of_ble_eq_true rfl⟩) (hm_preV hM hK hmo.1 rfl) rfl rfl hl.1 rfl (lv_room (Nat.le_of_ble_eq_true rfl)) d_law_449 ⟨(show C + 0 + 0 ≤ 600000 by omega), (show Sl + 0 + 0 ≤ 7302250 by omega)⟩) (fun r106 f104 H locs p105 hM hS => ?_)
          obtain ⟨rfl, rfl⟩ := p105
          refine lv_icmp_eq (tgt := 749) hx hb d_law_452 (by decide) (fun h107 => ?_) (fun h107 => ?_)
          · refine W.widen (k := C + 1) (n := Sl + 3) (by omega) (by omega) ?_
            exact next _ _ _ _ _ _ _ _ rfl ⟨hcs, hdj, hmo, hrl.same⟩ hM hS
          · exact absurd rfl h107
        | some i =>
          obtain ⟨hi9, hf⟩ := hrl.s2.fs hfi
          have hf : m_findF (c 10) x2 24 40 = nI (sg 2 i) := hf
          have hiN : i < gs_N 2 := Nat.lt_of_lt_of_le hi9 (o_pm_le hrl.s2.pm)
          have Rw := hrl.s2.row i hi9
          have Lk := hrl.s2.lt (by decide) hi9
          have Lk2 : sg 2 i < 40 + 24 := Lk.2.1
          refine hm_calli hS hM hA (va_runV (As := [.int 2, .int x2]) (rest := []) X (c_active2 l D k f (aF a 0) S.u (aF a) S.us a.g S.w (cm a S) i (a.A (1, 2, i)) (o_fv S 0 2 i) (o_fv S 1 2 i) (o_fv S 2 2 i) 2 x2 (hcs.F 0 rfl) (hcs.F 6 rfl) (hcs.F 16 rfl) (hcs.R (s := 2) (by decide) hiN) rfl (o_pm_le hrl.s2.pm) (hcs.rows (by decide) (o_pm_le hrl.s2.pm)) hfi (hcs.g (s := 2) (by decide) hiN) (hcs.fam (s := 2) (u := S.us 2) (by decide) (o_pm_le hrl.s2.pm) i hi9) H.size) (hm_cwV hts me_GrantServer_active wl_GrantServerLaw_50 rfl rfl ⟨Nat.le_of_ble_eq_true rfl, Nat.le_of_ble_eq_true rfl⟩) (hm_preV hM hK (hcs.F 0 rfl) rfl) rfl rfl hl.1 rfl (lv_room (Nat.le_of_ble_eq_true rfl)) d_law_435 ⟨(show C + 0 ≤ 600000 by omega), (show Sl + 0 ≤ 7302250 by omega)⟩) (fun r103 f101 H locs p102 hM hS => ?_)
          obtain ⟨rfl, rfl⟩ := p102
          refine lv_aload_n hx hb d_law_438 rfl (lv_at hl 1 rfl) ?_
          refine lv_aload_n hx hb d_law_439 rfl (lv_at hl 3 rfl) ?_
          refine lv_iload_n hx hb d_law_440 rfl (lv_at hl 0 rfl) ?_
          refine lv_iconst (v := 1) hx hb d_law_441 (by decide) ?_
          refine lv_iadd hx hb d_law_442 ?_
          refine hm_top (z := nI (4 + 6 * B + 1)) (nI_add _ 1) ?_
          refine va_sld hx hb hX hbl hbA hS (vp_in_nI (n := 4 + 6 * B + 1) (N := L) (by omega) (by omega)) d_law_443 ?_
          refine hm_top (z := xs (4 + 6 * B + 1)) (by rw [nI_clamp (by omega)]) ?_
          refine hm_top (z := 2) ex1 ?_
          refine lv_aload_n hx hb d_law_444 rfl (lv_at hl 3 rfl) ?_
          refine lv_iload_n hx hb d_law_445 rfl (lv_at hl 0 rfl) ?_
          refine lv_iconst (v := 2) hx hb d_law_446 (by decide) ?_
          refine lv_iadd hx hb d_law_447 ?_
          refine hm_top (z := nI (4 + 6 * B + 2)) (nI_add _ 2) ?_
          refine va_sld hx hb hX hbl hbA hS (vp_in_nI (n := 4 + 6 * B + 2) (N := L) (by omega) (by omega)) d_law_448 ?_
          refine hm_top (z := xs (4 + 6 * B + 2)) (by rw [nI_clamp (by omega)]) ?_
          refine hm_top (z := x2) ex2 ?_
          refine hm_calli hS hM hA (va_runV (As := [.int 2, .int x2]) (rest := [.int (z_act (S.w 2 i) ((cm a S) 2 i) (o_fv S 2 2 i) (S.u 15))]) X (m_c_active l D k f h9 adM sk v c 2 x2 (sg 2 i) hmo (by decide) (by decide) hf (by omega) (hrl.fm _ (by omega)) H.size) (hm_cwV hts me_GrantServerModel_active wl_GrantServerLaw_53 rfl rfl ⟨Nat.le_of_ble_eq_true rfl, Nat.le_of_ble_eq_true rfl⟩) (hm_preV hM hK hmo.1 rfl) rfl rfl hl.1 rfl (lv_room (Nat.le_of_ble_eq_true rfl)) d_law_449 ⟨(show C + 0 + 0 ≤ 600000 by omega), (show Sl + 0 + 0 ≤ 7302250 by omega)⟩) (fun r106 f104 H locs p105 hM hS => ?_)
          obtain ⟨rfl, rfl⟩ := p105
          refine lv_icmp_eq (tgt := 749) hx hb d_law_452 (by decide) (fun h107 => ?_) (fun h107 => ?_)
          · refine W.widen (k := C + 1) (n := Sl + 3) (by omega) (by omega) ?_
            exact next _ _ _ _ _ _ _ _ rfl ⟨hcs, hdj, hmo, hrl.same⟩ hM hS
          · exact absurd (hrl.act (by omega) (by decide) hi9 (cm_n 2 i)) h107
      · refine hm_calli hS hM hA (va_runV (As := [.int x1, .int x2]) (rest := []) X (c_active_out l D k f (aF a 0) S.u (aF a) x1 x2 (hcs.F 0 rfl) ⟨hk0, hk1, hk2⟩ H.size) (hm_cwV hts me_GrantServer_active wl_GrantServerLaw_50 rfl rfl ⟨Nat.le_of_ble_eq_true rfl, Nat.le_of_ble_eq_true rfl⟩) (hm_preV hM hK (hcs.F 0 rfl) rfl) rfl rfl hl.1 rfl (lv_room (Nat.le_of_ble_eq_true rfl)) d_law_435 ⟨(show C + 0 ≤ 600000 by omega), (show Sl + 0 ≤ 7302250 by omega)⟩) (fun r103 f101 H locs p102 hM hS => ?_)
        obtain ⟨rfl, rfl⟩ := p102
        refine lv_aload_n hx hb d_law_438 rfl (lv_at hl 1 rfl) ?_
        refine lv_aload_n hx hb d_law_439 rfl (lv_at hl 3 rfl) ?_
        refine lv_iload_n hx hb d_law_440 rfl (lv_at hl 0 rfl) ?_
        refine lv_iconst (v := 1) hx hb d_law_441 (by decide) ?_
        refine lv_iadd hx hb d_law_442 ?_
        refine hm_top (z := nI (4 + 6 * B + 1)) (nI_add _ 1) ?_
        refine va_sld hx hb hX hbl hbA hS (vp_in_nI (n := 4 + 6 * B + 1) (N := L) (by omega) (by omega)) d_law_443 ?_
        refine hm_top (z := xs (4 + 6 * B + 1)) (by rw [nI_clamp (by omega)]) ?_
        refine hm_top (z := x1) ex1 ?_
        refine lv_aload_n hx hb d_law_444 rfl (lv_at hl 3 rfl) ?_
        refine lv_iload_n hx hb d_law_445 rfl (lv_at hl 0 rfl) ?_
        refine lv_iconst (v := 2) hx hb d_law_446 (by decide) ?_
        refine lv_iadd hx hb d_law_447 ?_
        refine hm_top (z := nI (4 + 6 * B + 2)) (nI_add _ 2) ?_
        refine va_sld hx hb hX hbl hbA hS (vp_in_nI (n := 4 + 6 * B + 2) (N := L) (by omega) (by omega)) d_law_448 ?_
        refine hm_top (z := xs (4 + 6 * B + 2)) (by rw [nI_clamp (by omega)]) ?_
        refine hm_top (z := x2) ex2 ?_
        refine hm_calli hS hM hA (va_runV (As := [.int x1, .int x2]) (rest := [.int 0]) X (m_c_active_out l D k f h9 adM sk v c x1 x2 hmo (lw_out hk0 hk1 hk2) H.size) (hm_cwV hts me_GrantServerModel_active wl_GrantServerLaw_53 rfl rfl ⟨Nat.le_of_ble_eq_true rfl, Nat.le_of_ble_eq_true rfl⟩) (hm_preV hM hK hmo.1 rfl) rfl rfl hl.1 rfl (lv_room (Nat.le_of_ble_eq_true rfl)) d_law_449 ⟨(show C + 0 + 0 ≤ 600000 by omega), (show Sl + 0 + 0 ≤ 7302250 by omega)⟩) (fun r106 f104 H locs p105 hM hS => ?_)
        obtain ⟨rfl, rfl⟩ := p105
        refine lv_icmp_eq (tgt := 749) hx hb d_law_452 (by decide) (fun h107 => ?_) (fun h107 => ?_)
        · refine W.widen (k := C + 1) (n := Sl + 3) (by omega) (by omega) ?_
          exact next _ _ _ _ _ _ _ _ rfl ⟨hcs, hdj, hmo, hrl.same⟩ hM hS
        · exact absurd rfl h107
set_option maxHeartbeats 40000000 in
set_option maxRecDepth 100000 in
theorem lw_c8 {p : Program} {e : Env} {s : State} {m : MethodId} {below : List Frame} {meth : Method} {cd : Code} {l : Launch} {b L : Nat} {xs : Nat → Int32} {D : va_G} {k : Nat → ClassId} {A : Nat → Prop} {sA sV : Nat → Nat} {h9 : Nat} {adM : Nat → Nat} {Q : State → Prop} {sk : Int64}
    (X : CallFix p m cd code 4 s #[Value.ref b] TB R_GrantServerLaw) (hX : va_X b L xs s s.heap) (hbl : b < s.heap.size) (hbA : ¬ A b) (hK : hm_K D vwCl (tyL k) s) (hA : ∀ q, s.heap.size ≤ q → A q) (hZ : hm_Z sA sV A s s.heap)
    {f : hm} {a : cA} {S : cS} {sg : Nat → Nat → Nat} {v : Nat → Int32} {c : Nat → Nat → Int32} {B C Sl : Nat} {H : Heap} {locs : List Loc} {ls : Array Slot} (hB : B < 512) (hi : 4 + 6 * B + 6 ≤ L) (hL : L ≤ 3076) (hC : C ≤ 10000) (hSl : Sl ≤ 20000)
    (hI : lw_I k f a S h9 adM sk v c sg B) (hM : hm_W D vwCl A f H) (hS : va_S A s.heap H locs) (hl : lv_has ls 4 [(3, .int (nI (4 + 6 * B))), (2, .ref h9), (1, .ref (aF a 0)), (0, .ref b)])
    (next : ∀ (f' : hm) (a' : cA) (S' : cS) (sg' : Nat → Nat → Nat) (v' : Nat → Int32) (c' : Nat → Nat → Int32) (H' : Heap) (locs' : List Loc), aF a' 0 = aF a 0 → lw_I k f' a' S' h9 adM sk v' c' sg' (B + 1) → hm_W D vwCl A f' H' → va_S A s.heap H' locs' → W p l e room_1 s m #[Value.ref b] below meth cd H' locs' (C + 1) (Sl + 3) Q (F0 m 749 ls [])) :
    W p l e room_1 s m #[Value.ref b] below meth cd H locs C Sl Q (F0 m 490 ls []) := by
  obtain ⟨hcs, hdj, hmo, hrl⟩ := hI
  have hx := X.1; have hb := X.2.1; have hml := X.2.2.1; have hown := X.2.2.2.1; have hts := X.2.2.2.2
  obtain ⟨x1, ex1⟩ : ∃ z, xs (4 + 6 * B + 1) = z := ⟨_, rfl⟩
  obtain ⟨x2, ex2⟩ : ∃ z, xs (4 + 6 * B + 2) = z := ⟨_, rfl⟩
  obtain ⟨x3, ex3⟩ : ∃ z, xs (4 + 6 * B + 3) = z := ⟨_, rfl⟩
  obtain ⟨x4, ex4⟩ : ∃ z, xs (4 + 6 * B + 4) = z := ⟨_, rfl⟩
  obtain ⟨x5, ex5⟩ : ∃ z, xs (4 + 6 * B + 5) = z := ⟨_, rfl⟩
  refine lv_aload_n hx hb d_law_490 rfl (lv_at hl 2 rfl) ?_
  refine lv_aload_n hx hb d_law_491 rfl (lv_at hl 3 rfl) ?_
  refine lv_iload_n hx hb d_law_492 rfl (lv_at hl 0 rfl) ?_
  refine lv_iconst (v := 1) hx hb d_law_493 (by decide) ?_
  refine lv_iadd hx hb d_law_494 ?_
  refine hm_top (z := nI (4 + 6 * B + 1)) (nI_add _ 1) ?_
  refine va_sld hx hb hX hbl hbA hS (vp_in_nI (n := 4 + 6 * B + 1) (N := L) (by omega) (by omega)) d_law_495 ?_
  refine hm_top (z := xs (4 + 6 * B + 1)) (by rw [nI_clamp (by omega)]) ?_
  refine hm_top (z := x1) ex1 ?_
  refine lv_i2c hx hb d_law_496 rfl ?_
  by_cases hz : z_text ((x1.toUInt32 % 65536).toInt32) = 0
  · refine hm_calli hS hM hA (va_runV (As := [.int ((x1.toUInt32 % 65536).toInt32)]) (rest := []) X (c_key_no l D k f (aF a 0) S.u (aF a) ((x1.toUInt32 % 65536).toInt32)  hz H.size) (hm_cwV hts me_GrantServer_key wl_GrantServerLaw_58 rfl rfl ⟨Nat.le_of_ble_eq_true rfl, Nat.le_of_ble_eq_true rfl⟩) (hm_preV hM hK (hcs.F 0 rfl) rfl) rfl rfl hl.1 rfl (lv_room (Nat.le_of_ble_eq_true rfl)) d_law_497 ⟨(show C + 0 ≤ 600000 by omega), (show Sl + 0 ≤ 7302250 by omega)⟩) (fun r103 f101 H locs p102 hM hS => ?_)
    obtain ⟨rfl, rfl⟩ := p102
    refine lv_aload_n hx hb d_law_500 rfl (lv_at hl 1 rfl) ?_
    refine lv_aload_n hx hb d_law_501 rfl (lv_at hl 3 rfl) ?_
    refine lv_iload_n hx hb d_law_502 rfl (lv_at hl 0 rfl) ?_
    refine lv_iconst (v := 1) hx hb d_law_503 (by decide) ?_
    refine lv_iadd hx hb d_law_504 ?_
    refine hm_top (z := nI (4 + 6 * B + 1)) (nI_add _ 1) ?_
    refine va_sld hx hb hX hbl hbA hS (vp_in_nI (n := 4 + 6 * B + 1) (N := L) (by omega) (by omega)) d_law_505 ?_
    refine hm_top (z := xs (4 + 6 * B + 1)) (by rw [nI_clamp (by omega)]) ?_
    refine hm_top (z := x1) ex1 ?_
    refine lv_i2c hx hb d_law_506 rfl ?_
    refine hm_calli hS hM hA (va_runV (As := [.int ((x1.toUInt32 % 65536).toInt32)]) (rest := [.int 0]) X (m_c_key_no l D k f h9 adM sk v c ((x1.toUInt32 % 65536).toInt32) (S.tn 0) hmo hrl.t0.vn hrl.t0.le (Or.inl hz) H.size) (hm_cwV hts me_GrantServerModel_key wl_GrantServerLaw_62 rfl rfl ⟨Nat.le_of_ble_eq_true rfl, Nat.le_of_ble_eq_true rfl⟩) (hm_preV hM hK hmo.1 rfl) rfl rfl hl.1 rfl (lv_room (Nat.le_of_ble_eq_true rfl)) d_law_507 ⟨(show C + 0 + 0 ≤ 600000 by omega), (show Sl + 0 + 0 ≤ 7302250 by omega)⟩) (fun r106 f104 H locs p105 hM hS => ?_)
    obtain ⟨rfl, rfl⟩ := p105
    refine lv_icmp_eq (tgt := 749) hx hb d_law_510 (by decide) (fun h107 => ?_) (fun h107 => ?_)
    · refine W.widen (k := C + 1) (n := Sl + 3) (by omega) (by omega) ?_
      exact next _ _ _ _ _ _ _ _ rfl ⟨hcs, hdj, hmo, hrl.same⟩ hM hS
    · exact absurd rfl h107
  · by_cases hfu : 120 ≤ S.tn 0
    · refine hm_calli hS hM hA (va_runV (As := [.int ((x1.toUInt32 % 65536).toInt32)]) (rest := []) X (c_key_full l D k f (aF a 0) S.u (aF a) (S.tn 0) (S.tx 0) ((x1.toUInt32 % 65536).toInt32) (hcs.F 0 rfl) (hcs.F 7 rfl) (hcs.F 17 rfl) (Nat.not_lt.mpr hfu) (by have := hrl.t0.le; omega) H.size) (hm_cwV hts me_GrantServer_key wl_GrantServerLaw_58 rfl rfl ⟨Nat.le_of_ble_eq_true rfl, Nat.le_of_ble_eq_true rfl⟩) (hm_preV hM hK (hcs.F 0 rfl) rfl) rfl rfl hl.1 rfl (lv_room (Nat.le_of_ble_eq_true rfl)) d_law_497 ⟨(show C + 0 ≤ 600000 by omega), (show Sl + 0 ≤ 7302250 by omega)⟩) (fun r103 f101 H locs p102 hM hS => ?_)
      obtain ⟨rfl, rfl⟩ := p102
      refine lv_aload_n hx hb d_law_500 rfl (lv_at hl 1 rfl) ?_
      refine lv_aload_n hx hb d_law_501 rfl (lv_at hl 3 rfl) ?_
      refine lv_iload_n hx hb d_law_502 rfl (lv_at hl 0 rfl) ?_
      refine lv_iconst (v := 1) hx hb d_law_503 (by decide) ?_
      refine lv_iadd hx hb d_law_504 ?_
      refine hm_top (z := nI (4 + 6 * B + 1)) (nI_add _ 1) ?_
      refine va_sld hx hb hX hbl hbA hS (vp_in_nI (n := 4 + 6 * B + 1) (N := L) (by omega) (by omega)) d_law_505 ?_
      refine hm_top (z := xs (4 + 6 * B + 1)) (by rw [nI_clamp (by omega)]) ?_
      refine hm_top (z := x1) ex1 ?_
      refine lv_i2c hx hb d_law_506 rfl ?_
      refine hm_calli hS hM hA (va_runV (As := [.int ((x1.toUInt32 % 65536).toInt32)]) (rest := [.int 0]) X (m_c_key_no l D k f h9 adM sk v c ((x1.toUInt32 % 65536).toInt32) (S.tn 0) hmo hrl.t0.vn hrl.t0.le (Or.inr (Nat.not_lt.mpr hfu)) H.size) (hm_cwV hts me_GrantServerModel_key wl_GrantServerLaw_62 rfl rfl ⟨Nat.le_of_ble_eq_true rfl, Nat.le_of_ble_eq_true rfl⟩) (hm_preV hM hK hmo.1 rfl) rfl rfl hl.1 rfl (lv_room (Nat.le_of_ble_eq_true rfl)) d_law_507 ⟨(show C + 0 + 0 ≤ 600000 by omega), (show Sl + 0 + 0 ≤ 7302250 by omega)⟩) (fun r106 f104 H locs p105 hM hS => ?_)
      obtain ⟨rfl, rfl⟩ := p105
      refine lv_icmp_eq (tgt := 749) hx hb d_law_510 (by decide) (fun h107 => ?_) (fun h107 => ?_)
      · refine W.widen (k := C + 1) (n := Sl + 3) (by omega) (by omega) ?_
        exact next _ _ _ _ _ _ _ _ rfl ⟨hcs, hdj, hmo, hrl.same⟩ hM hS
      · exact absurd rfl h107
    · have hlt : S.tn 0 < 120 := Nat.lt_of_not_le hfu
      refine hm_calli hS hM hA (va_runV (As := [.int ((x1.toUInt32 % 65536).toInt32)]) (rest := []) X (c_key l D k f (aF a 0) S.u (aF a) (S.tn 0) (S.tx 0) ((x1.toUInt32 % 65536).toInt32) (hcs.F 0 rfl) (hcs.F 7 rfl) (hcs.F 17 rfl) hz hlt (pk_vc _) H.size) (hm_cwV hts me_GrantServer_key wl_GrantServerLaw_58 rfl rfl ⟨Nat.le_of_ble_eq_true rfl, Nat.le_of_ble_eq_true rfl⟩) (hm_preV hM hK (hcs.F 0 rfl) rfl) rfl rfl hl.1 rfl (lv_room (Nat.le_of_ble_eq_true rfl)) d_law_497 ⟨(show C + 0 ≤ 600000 by omega), (show Sl + 0 ≤ 7302250 by omega)⟩) (fun r103 f101 H locs p102 hM hS => ?_)
      obtain ⟨rfl, g104, g105, hfr106⟩ := p102
      have hfrc : ∀ (q : Nat) (x : va_E), (∀ n, n ∈ [((0, 7, 0) : cX), ((0, 17, 0) : cX)] → c_ok S n → q ≠ a.A n) → f q = some x → f101 q = some x := fun zq zx hh hq => hfr106 zq zx (hh (0, 7, 0) (by simp) ⟨rfl, rfl⟩) (hh (0, 17, 0) (by simp) ⟨rfl, rfl⟩) hq
      have hcs : cs k f101 a (cSm S.u S.nc S.cl S.us S.w S.fm S.nf S.fa (va_up S.tn 0 (S.tn 0 + 1)) (va_up S.tx 0 (upd (S.tx 0) (S.tn 0) ((x1.toUInt32 % 65536).toInt32))) S.rd S.rs S.ra S.ky) := by
        refine hcs.up [((0, 7, 0) : cX), ((0, 17, 0) : cX)] (fun n hn hok => ?_) hfrc (c_same (fun i hi hn => ?_) (fun s i _ _ _ => ⟨rfl, rfl⟩) (fun t _ => rfl) rfl) rfl rfl hcs.2.2.2.2
        · simp only [List.mem_cons, List.not_mem_nil, or_false] at hn
          rcases hn with hn | hn
          · subst hn; exact g104
          · subst hn; exact g105
        · rcases c_ixs hi with r | r | r | r | r | r | r | r | r | r | r | r | r | r | r | r | r | r <;> subst r <;> first | rfl | exact absurd (by simp) hn
      have hmo := cs.mo hdj hfrc hmo
      have hdj := dj_cv (S' := cSm S.u S.nc S.cl S.us S.w S.fm S.nf S.fa (va_up S.tn 0 (S.tn 0 + 1)) (va_up S.tx 0 (upd (S.tx 0) (S.tn 0) ((x1.toUInt32 % 65536).toInt32))) S.rd S.rs S.ra S.ky) rfl rfl hdj
      refine lv_aload_n hx hb d_law_500 rfl (lv_at hl 1 rfl) ?_
      refine lv_aload_n hx hb d_law_501 rfl (lv_at hl 3 rfl) ?_
      refine lv_iload_n hx hb d_law_502 rfl (lv_at hl 0 rfl) ?_
      refine lv_iconst (v := 1) hx hb d_law_503 (by decide) ?_
      refine lv_iadd hx hb d_law_504 ?_
      refine hm_top (z := nI (4 + 6 * B + 1)) (nI_add _ 1) ?_
      refine va_sld hx hb hX hbl hbA hS (vp_in_nI (n := 4 + 6 * B + 1) (N := L) (by omega) (by omega)) d_law_505 ?_
      refine hm_top (z := xs (4 + 6 * B + 1)) (by rw [nI_clamp (by omega)]) ?_
      refine hm_top (z := x1) ex1 ?_
      refine lv_i2c hx hb d_law_506 rfl ?_
      refine hm_calli hS hM hA (va_runV (As := [.int ((x1.toUInt32 % 65536).toInt32)]) (rest := [.int 1]) X (m_c_key l D k f101 h9 adM sk v c ((x1.toUInt32 % 65536).toInt32) (S.tn 0) hmo hrl.t0.vn hlt hz H.size) (hm_cwV hts me_GrantServerModel_key wl_GrantServerLaw_62 rfl rfl ⟨Nat.le_of_ble_eq_true rfl, Nat.le_of_ble_eq_true rfl⟩) (hm_preV hM hK hmo.1 rfl) rfl rfl hl.1 rfl (lv_room (Nat.le_of_ble_eq_true rfl)) d_law_507 ⟨(show C + 0 + 0 ≤ 600000 by omega), (show Sl + 0 + 0 ≤ 7302250 by omega)⟩) (fun r109 f107 H locs p108 hM hS => ?_)
      obtain ⟨rfl, hmo, hfr110⟩ := p108
      have hcs := hcs.keep hdj hfr110
      refine lv_icmp_eq (tgt := 749) hx hb d_law_510 (by decide) (fun h111 => ?_) (fun h111 => ?_)
      · refine W.widen (k := C + 1) (n := Sl + 3) (by omega) (by omega) ?_
        exact next _ _ _ _ _ _ _ _ rfl ⟨hcs, hdj, hmo, (hrl.key hlt hz)⟩ hM hS
      · exact absurd rfl h111
set_option maxHeartbeats 40000000 in
set_option maxRecDepth 100000 in
theorem lw_c9 {p : Program} {e : Env} {s : State} {m : MethodId} {below : List Frame} {meth : Method} {cd : Code} {l : Launch} {b L : Nat} {xs : Nat → Int32} {D : va_G} {k : Nat → ClassId} {A : Nat → Prop} {sA sV : Nat → Nat} {h9 : Nat} {adM : Nat → Nat} {Q : State → Prop} {sk : Int64}
    (X : CallFix p m cd code 4 s #[Value.ref b] TB R_GrantServerLaw) (hX : va_X b L xs s s.heap) (hbl : b < s.heap.size) (hbA : ¬ A b) (hK : hm_K D vwCl (tyL k) s) (hA : ∀ q, s.heap.size ≤ q → A q) (hZ : hm_Z sA sV A s s.heap)
    {f : hm} {a : cA} {S : cS} {sg : Nat → Nat → Nat} {v : Nat → Int32} {c : Nat → Nat → Int32} {B C Sl : Nat} {H : Heap} {locs : List Loc} {ls : Array Slot} (hB : B < 512) (hi : 4 + 6 * B + 6 ≤ L) (hL : L ≤ 3076) (hC : C ≤ 10000) (hSl : Sl ≤ 20000)
    (hI : lw_I k f a S h9 adM sk v c sg B) (hM : hm_W D vwCl A f H) (hS : va_S A s.heap H locs) (hl : lv_has ls 4 [(3, .int (nI (4 + 6 * B))), (2, .ref h9), (1, .ref (aF a 0)), (0, .ref b)])
    (next : ∀ (f' : hm) (a' : cA) (S' : cS) (sg' : Nat → Nat → Nat) (v' : Nat → Int32) (c' : Nat → Nat → Int32) (H' : Heap) (locs' : List Loc), aF a' 0 = aF a 0 → lw_I k f' a' S' h9 adM sk v' c' sg' (B + 1) → hm_W D vwCl A f' H' → va_S A s.heap H' locs' → W p l e room_1 s m #[Value.ref b] below meth cd H' locs' (C + 1) (Sl + 3) Q (F0 m 749 ls [])) :
    W p l e room_1 s m #[Value.ref b] below meth cd H locs C Sl Q (F0 m 515 ls []) := by
  obtain ⟨hcs, hdj, hmo, hrl⟩ := hI
  have hx := X.1; have hb := X.2.1; have hml := X.2.2.1; have hown := X.2.2.2.1; have hts := X.2.2.2.2
  obtain ⟨x1, ex1⟩ : ∃ z, xs (4 + 6 * B + 1) = z := ⟨_, rfl⟩
  obtain ⟨x2, ex2⟩ : ∃ z, xs (4 + 6 * B + 2) = z := ⟨_, rfl⟩
  obtain ⟨x3, ex3⟩ : ∃ z, xs (4 + 6 * B + 3) = z := ⟨_, rfl⟩
  obtain ⟨x4, ex4⟩ : ∃ z, xs (4 + 6 * B + 4) = z := ⟨_, rfl⟩
  obtain ⟨x5, ex5⟩ : ∃ z, xs (4 + 6 * B + 5) = z := ⟨_, rfl⟩
  refine lv_aload_n hx hb d_law_515 rfl (lv_at hl 2 rfl) ?_
  refine lv_aload_n hx hb d_law_516 rfl (lv_at hl 3 rfl) ?_
  refine lv_iload_n hx hb d_law_517 rfl (lv_at hl 0 rfl) ?_
  refine lv_iconst (v := 1) hx hb d_law_518 (by decide) ?_
  refine lv_iadd hx hb d_law_519 ?_
  refine hm_top (z := nI (4 + 6 * B + 1)) (nI_add _ 1) ?_
  refine va_sld hx hb hX hbl hbA hS (vp_in_nI (n := 4 + 6 * B + 1) (N := L) (by omega) (by omega)) d_law_520 ?_
  refine hm_top (z := xs (4 + 6 * B + 1)) (by rw [nI_clamp (by omega)]) ?_
  refine hm_top (z := x1) ex1 ?_
  refine lv_aload_n hx hb d_law_521 rfl (lv_at hl 3 rfl) ?_
  refine lv_iload_n hx hb d_law_522 rfl (lv_at hl 0 rfl) ?_
  refine lv_iconst (v := 2) hx hb d_law_523 (by decide) ?_
  refine lv_iadd hx hb d_law_524 ?_
  refine hm_top (z := nI (4 + 6 * B + 2)) (nI_add _ 2) ?_
  refine va_sld hx hb hX hbl hbA hS (vp_in_nI (n := 4 + 6 * B + 2) (N := L) (by omega) (by omega)) d_law_525 ?_
  refine hm_top (z := xs (4 + 6 * B + 2)) (by rw [nI_clamp (by omega)]) ?_
  refine hm_top (z := x2) ex2 ?_
  refine lv_i2c hx hb d_law_526 rfl ?_
  by_cases hz : z_text ((x2.toUInt32 % 65536).toInt32) = 0
  · refine hm_calli hS hM hA (va_runV (As := [.int x1, .int ((x2.toUInt32 % 65536).toInt32)]) (rest := []) X (c_alter_no l D k f (aF a 0) S.u (aF a) x1 ((x2.toUInt32 % 65536).toInt32)  hz H.size) (hm_cwV hts me_GrantServer_alter wl_GrantServerLaw_63 rfl rfl ⟨Nat.le_of_ble_eq_true rfl, Nat.le_of_ble_eq_true rfl⟩) (hm_preV hM hK (hcs.F 0 rfl) rfl) rfl rfl hl.1 rfl (lv_room (Nat.le_of_ble_eq_true rfl)) d_law_527 ⟨(show C + 0 ≤ 600000 by omega), (show Sl + 0 ≤ 7302250 by omega)⟩) (fun r103 f101 H locs p102 hM hS => ?_)
    obtain ⟨rfl, rfl⟩ := p102
    refine lv_aload_n hx hb d_law_530 rfl (lv_at hl 1 rfl) ?_
    refine lv_aload_n hx hb d_law_531 rfl (lv_at hl 3 rfl) ?_
    refine lv_iload_n hx hb d_law_532 rfl (lv_at hl 0 rfl) ?_
    refine lv_iconst (v := 1) hx hb d_law_533 (by decide) ?_
    refine lv_iadd hx hb d_law_534 ?_
    refine hm_top (z := nI (4 + 6 * B + 1)) (nI_add _ 1) ?_
    refine va_sld hx hb hX hbl hbA hS (vp_in_nI (n := 4 + 6 * B + 1) (N := L) (by omega) (by omega)) d_law_535 ?_
    refine hm_top (z := xs (4 + 6 * B + 1)) (by rw [nI_clamp (by omega)]) ?_
    refine hm_top (z := x1) ex1 ?_
    refine lv_aload_n hx hb d_law_536 rfl (lv_at hl 3 rfl) ?_
    refine lv_iload_n hx hb d_law_537 rfl (lv_at hl 0 rfl) ?_
    refine lv_iconst (v := 2) hx hb d_law_538 (by decide) ?_
    refine lv_iadd hx hb d_law_539 ?_
    refine hm_top (z := nI (4 + 6 * B + 2)) (nI_add _ 2) ?_
    refine va_sld hx hb hX hbl hbA hS (vp_in_nI (n := 4 + 6 * B + 2) (N := L) (by omega) (by omega)) d_law_540 ?_
    refine hm_top (z := xs (4 + 6 * B + 2)) (by rw [nI_clamp (by omega)]) ?_
    refine hm_top (z := x2) ex2 ?_
    refine lv_i2c hx hb d_law_541 rfl ?_
    refine hm_calli hS hM hA (va_runV (As := [.int x1, .int ((x2.toUInt32 % 65536).toInt32)]) (rest := [.int 0]) X (m_c_alter_no l D k f h9 adM sk v c x1 ((x2.toUInt32 % 65536).toInt32) (S.tn 0) hmo hrl.t0.vn (Or.inl hz) H.size) (hm_cwV hts me_GrantServerModel_alter wl_GrantServerLaw_67 rfl rfl ⟨Nat.le_of_ble_eq_true rfl, Nat.le_of_ble_eq_true rfl⟩) (hm_preV hM hK hmo.1 rfl) rfl rfl hl.1 rfl (lv_room (Nat.le_of_ble_eq_true rfl)) d_law_542 ⟨(show C + 0 + 0 ≤ 600000 by omega), (show Sl + 0 + 0 ≤ 7302250 by omega)⟩) (fun r106 f104 H locs p105 hM hS => ?_)
    obtain ⟨rfl, rfl⟩ := p105
    refine lv_icmp_eq (tgt := 749) hx hb d_law_545 (by decide) (fun h107 => ?_) (fun h107 => ?_)
    · refine W.widen (k := C + 1) (n := Sl + 3) (by omega) (by omega) ?_
      exact next _ _ _ _ _ _ _ _ rfl ⟨hcs, hdj, hmo, hrl.same⟩ hM hS
    · exact absurd rfl h107
  · by_cases ho : x1 < 0 ∨ nI (S.tn 0) ≤ x1
    · refine hm_calli hS hM hA (va_runV (As := [.int x1, .int ((x2.toUInt32 % 65536).toInt32)]) (rest := []) X (c_alter_out l D k f (aF a 0) S.u (aF a) (S.tn 0) (S.tx 0) x1 ((x2.toUInt32 % 65536).toInt32) (hcs.F 0 rfl) (hcs.F 7 rfl) (hcs.F 17 rfl) ho H.size) (hm_cwV hts me_GrantServer_alter wl_GrantServerLaw_63 rfl rfl ⟨Nat.le_of_ble_eq_true rfl, Nat.le_of_ble_eq_true rfl⟩) (hm_preV hM hK (hcs.F 0 rfl) rfl) rfl rfl hl.1 rfl (lv_room (Nat.le_of_ble_eq_true rfl)) d_law_527 ⟨(show C + 0 ≤ 600000 by omega), (show Sl + 0 ≤ 7302250 by omega)⟩) (fun r103 f101 H locs p102 hM hS => ?_)
      obtain ⟨rfl, rfl⟩ := p102
      refine lv_aload_n hx hb d_law_530 rfl (lv_at hl 1 rfl) ?_
      refine lv_aload_n hx hb d_law_531 rfl (lv_at hl 3 rfl) ?_
      refine lv_iload_n hx hb d_law_532 rfl (lv_at hl 0 rfl) ?_
      refine lv_iconst (v := 1) hx hb d_law_533 (by decide) ?_
      refine lv_iadd hx hb d_law_534 ?_
      refine hm_top (z := nI (4 + 6 * B + 1)) (nI_add _ 1) ?_
      refine va_sld hx hb hX hbl hbA hS (vp_in_nI (n := 4 + 6 * B + 1) (N := L) (by omega) (by omega)) d_law_535 ?_
      refine hm_top (z := xs (4 + 6 * B + 1)) (by rw [nI_clamp (by omega)]) ?_
      refine hm_top (z := x1) ex1 ?_
      refine lv_aload_n hx hb d_law_536 rfl (lv_at hl 3 rfl) ?_
      refine lv_iload_n hx hb d_law_537 rfl (lv_at hl 0 rfl) ?_
      refine lv_iconst (v := 2) hx hb d_law_538 (by decide) ?_
      refine lv_iadd hx hb d_law_539 ?_
      refine hm_top (z := nI (4 + 6 * B + 2)) (nI_add _ 2) ?_
      refine va_sld hx hb hX hbl hbA hS (vp_in_nI (n := 4 + 6 * B + 2) (N := L) (by omega) (by omega)) d_law_540 ?_
      refine hm_top (z := xs (4 + 6 * B + 2)) (by rw [nI_clamp (by omega)]) ?_
      refine hm_top (z := x2) ex2 ?_
      refine lv_i2c hx hb d_law_541 rfl ?_
      refine hm_calli hS hM hA (va_runV (As := [.int x1, .int ((x2.toUInt32 % 65536).toInt32)]) (rest := [.int 0]) X (m_c_alter_no l D k f h9 adM sk v c x1 ((x2.toUInt32 % 65536).toInt32) (S.tn 0) hmo hrl.t0.vn (Or.inr ho) H.size) (hm_cwV hts me_GrantServerModel_alter wl_GrantServerLaw_67 rfl rfl ⟨Nat.le_of_ble_eq_true rfl, Nat.le_of_ble_eq_true rfl⟩) (hm_preV hM hK hmo.1 rfl) rfl rfl hl.1 rfl (lv_room (Nat.le_of_ble_eq_true rfl)) d_law_542 ⟨(show C + 0 + 0 ≤ 600000 by omega), (show Sl + 0 + 0 ≤ 7302250 by omega)⟩) (fun r106 f104 H locs p105 hM hS => ?_)
      obtain ⟨rfl, rfl⟩ := p105
      refine lv_icmp_eq (tgt := 749) hx hb d_law_545 (by decide) (fun h107 => ?_) (fun h107 => ?_)
      · refine W.widen (k := C + 1) (n := Sl + 3) (by omega) (by omega) ?_
        exact next _ _ _ _ _ _ _ _ rfl ⟨hcs, hdj, hmo, hrl.same⟩ hM hS
      · exact absurd rfl h107
    · obtain ⟨j, hj, ej⟩ := hm_ix (n := S.tn 0) (fun z => ho (Or.inl z)) (fun z => ho (Or.inr z)) (by have := hrl.t0.le; omega)
      subst ej
      refine hm_calli hS hM hA (va_runV (As := [.int (nI j), .int ((x2.toUInt32 % 65536).toInt32)]) (rest := []) X (c_alter l D k f (aF a 0) S.u (aF a) (S.tn 0) (S.tx 0) j ((x2.toUInt32 % 65536).toInt32) (hcs.F 0 rfl) (hcs.F 7 rfl) (hcs.F 17 rfl) hz hrl.t0.le hj (pk_vc _) H.size) (hm_cwV hts me_GrantServer_alter wl_GrantServerLaw_63 rfl rfl ⟨Nat.le_of_ble_eq_true rfl, Nat.le_of_ble_eq_true rfl⟩) (hm_preV hM hK (hcs.F 0 rfl) rfl) rfl rfl hl.1 rfl (lv_room (Nat.le_of_ble_eq_true rfl)) d_law_527 ⟨(show C + 0 ≤ 600000 by omega), (show Sl + 0 ≤ 7302250 by omega)⟩) (fun r103 f101 H locs p102 hM hS => ?_)
      obtain ⟨rfl, g104, g105, hfr106⟩ := p102
      have hfrc : ∀ (q : Nat) (x : va_E), (∀ n, n ∈ [((0, 7, 0) : cX), ((0, 17, 0) : cX)] → c_ok S n → q ≠ a.A n) → f q = some x → f101 q = some x := fun zq zx hh hq => hfr106 zq zx (hh (0, 7, 0) (by simp) ⟨rfl, rfl⟩) (hh (0, 17, 0) (by simp) ⟨rfl, rfl⟩) hq
      have hcs : cs k f101 a (cSm S.u S.nc S.cl S.us S.w S.fm S.nf S.fa S.tn (va_up S.tx 0 (upd (S.tx 0) j ((x2.toUInt32 % 65536).toInt32))) S.rd S.rs S.ra S.ky) := by
        refine hcs.up [((0, 7, 0) : cX), ((0, 17, 0) : cX)] (fun n hn hok => ?_) hfrc (c_same (fun i hi hn => ?_) (fun s i _ _ _ => ⟨rfl, rfl⟩) (fun t _ => rfl) rfl) rfl rfl hcs.2.2.2.2
        · simp only [List.mem_cons, List.not_mem_nil, or_false] at hn
          rcases hn with hn | hn
          · subst hn; exact g104
          · subst hn; exact g105
        · rcases c_ixs hi with r | r | r | r | r | r | r | r | r | r | r | r | r | r | r | r | r | r <;> subst r <;> first | rfl | exact absurd (by simp) hn
      have hmo := cs.mo hdj hfrc hmo
      have hdj := dj_cv (S' := cSm S.u S.nc S.cl S.us S.w S.fm S.nf S.fa S.tn (va_up S.tx 0 (upd (S.tx 0) j ((x2.toUInt32 % 65536).toInt32))) S.rd S.rs S.ra S.ky) rfl rfl hdj
      refine lv_aload_n hx hb d_law_530 rfl (lv_at hl 1 rfl) ?_
      refine lv_aload_n hx hb d_law_531 rfl (lv_at hl 3 rfl) ?_
      refine lv_iload_n hx hb d_law_532 rfl (lv_at hl 0 rfl) ?_
      refine lv_iconst (v := 1) hx hb d_law_533 (by decide) ?_
      refine lv_iadd hx hb d_law_534 ?_
      refine hm_top (z := nI (4 + 6 * B + 1)) (nI_add _ 1) ?_
      refine va_sld hx hb hX hbl hbA hS (vp_in_nI (n := 4 + 6 * B + 1) (N := L) (by omega) (by omega)) d_law_535 ?_
      refine hm_top (z := xs (4 + 6 * B + 1)) (by rw [nI_clamp (by omega)]) ?_
      refine hm_top (z := nI j) ex1 ?_
      refine lv_aload_n hx hb d_law_536 rfl (lv_at hl 3 rfl) ?_
      refine lv_iload_n hx hb d_law_537 rfl (lv_at hl 0 rfl) ?_
      refine lv_iconst (v := 2) hx hb d_law_538 (by decide) ?_
      refine lv_iadd hx hb d_law_539 ?_
      refine hm_top (z := nI (4 + 6 * B + 2)) (nI_add _ 2) ?_
      refine va_sld hx hb hX hbl hbA hS (vp_in_nI (n := 4 + 6 * B + 2) (N := L) (by omega) (by omega)) d_law_540 ?_
      refine hm_top (z := xs (4 + 6 * B + 2)) (by rw [nI_clamp (by omega)]) ?_
      refine hm_top (z := x2) ex2 ?_
      refine lv_i2c hx hb d_law_541 rfl ?_
      refine hm_calli hS hM hA (va_runV (As := [.int (nI j), .int ((x2.toUInt32 % 65536).toInt32)]) (rest := [.int 1]) X (m_c_alter l D k f101 h9 adM sk v c j ((x2.toUInt32 % 65536).toInt32) (S.tn 0) hmo hrl.t0.vn hrl.t0.le hj hz H.size) (hm_cwV hts me_GrantServerModel_alter wl_GrantServerLaw_67 rfl rfl ⟨Nat.le_of_ble_eq_true rfl, Nat.le_of_ble_eq_true rfl⟩) (hm_preV hM hK hmo.1 rfl) rfl rfl hl.1 rfl (lv_room (Nat.le_of_ble_eq_true rfl)) d_law_542 ⟨(show C + 0 + 0 ≤ 600000 by omega), (show Sl + 0 + 0 ≤ 7302250 by omega)⟩) (fun r109 f107 H locs p108 hM hS => ?_)
      obtain ⟨rfl, hmo, hfr110⟩ := p108
      have hcs := hcs.keep hdj hfr110
      refine lv_icmp_eq (tgt := 749) hx hb d_law_545 (by decide) (fun h111 => ?_) (fun h111 => ?_)
      · refine W.widen (k := C + 1) (n := Sl + 3) (by omega) (by omega) ?_
        exact next _ _ _ _ _ _ _ _ rfl ⟨hcs, hdj, hmo, (hrl.alter hz)⟩ hM hS
      · exact absurd rfl h111
set_option maxHeartbeats 40000000 in
set_option maxRecDepth 100000 in
theorem lw_c10 {p : Program} {e : Env} {s : State} {m : MethodId} {below : List Frame} {meth : Method} {cd : Code} {l : Launch} {b L : Nat} {xs : Nat → Int32} {D : va_G} {k : Nat → ClassId} {A : Nat → Prop} {sA sV : Nat → Nat} {h9 : Nat} {adM : Nat → Nat} {Q : State → Prop} {sk : Int64}
    (X : CallFix p m cd code 4 s #[Value.ref b] TB R_GrantServerLaw) (hX : va_X b L xs s s.heap) (hbl : b < s.heap.size) (hbA : ¬ A b) (hK : hm_K D vwCl (tyL k) s) (hA : ∀ q, s.heap.size ≤ q → A q) (hZ : hm_Z sA sV A s s.heap)
    {f : hm} {a : cA} {S : cS} {sg : Nat → Nat → Nat} {v : Nat → Int32} {c : Nat → Nat → Int32} {B C Sl : Nat} {H : Heap} {locs : List Loc} {ls : Array Slot} (hB : B < 512) (hi : 4 + 6 * B + 6 ≤ L) (hL : L ≤ 3076) (hC : C ≤ 10000) (hSl : Sl ≤ 20000)
    (hI : lw_I k f a S h9 adM sk v c sg B) (hM : hm_W D vwCl A f H) (hS : va_S A s.heap H locs) (hl : lv_has ls 4 [(3, .int (nI (4 + 6 * B))), (2, .ref h9), (1, .ref (aF a 0)), (0, .ref b)])
    (next : ∀ (f' : hm) (a' : cA) (S' : cS) (sg' : Nat → Nat → Nat) (v' : Nat → Int32) (c' : Nat → Nat → Int32) (H' : Heap) (locs' : List Loc), aF a' 0 = aF a 0 → lw_I k f' a' S' h9 adM sk v' c' sg' (B + 1) → hm_W D vwCl A f' H' → va_S A s.heap H' locs' → W p l e room_1 s m #[Value.ref b] below meth cd H' locs' (C + 1) (Sl + 3) Q (F0 m 749 ls [])) :
    W p l e room_1 s m #[Value.ref b] below meth cd H locs C Sl Q (F0 m 550 ls []) := by
  obtain ⟨hcs, hdj, hmo, hrl⟩ := hI
  have hx := X.1; have hb := X.2.1; have hml := X.2.2.1; have hown := X.2.2.2.1; have hts := X.2.2.2.2
  obtain ⟨x1, ex1⟩ : ∃ z, xs (4 + 6 * B + 1) = z := ⟨_, rfl⟩
  obtain ⟨x2, ex2⟩ : ∃ z, xs (4 + 6 * B + 2) = z := ⟨_, rfl⟩
  obtain ⟨x3, ex3⟩ : ∃ z, xs (4 + 6 * B + 3) = z := ⟨_, rfl⟩
  obtain ⟨x4, ex4⟩ : ∃ z, xs (4 + 6 * B + 4) = z := ⟨_, rfl⟩
  obtain ⟨x5, ex5⟩ : ∃ z, xs (4 + 6 * B + 5) = z := ⟨_, rfl⟩
  refine lv_aload_n hx hb d_law_550 rfl (lv_at hl 2 rfl) ?_
  refine lv_aload_n hx hb d_law_551 rfl (lv_at hl 3 rfl) ?_
  refine lv_iload_n hx hb d_law_552 rfl (lv_at hl 0 rfl) ?_
  refine lv_iconst (v := 1) hx hb d_law_553 (by decide) ?_
  refine lv_iadd hx hb d_law_554 ?_
  refine hm_top (z := nI (4 + 6 * B + 1)) (nI_add _ 1) ?_
  refine va_sld hx hb hX hbl hbA hS (vp_in_nI (n := 4 + 6 * B + 1) (N := L) (by omega) (by omega)) d_law_555 ?_
  refine hm_top (z := xs (4 + 6 * B + 1)) (by rw [nI_clamp (by omega)]) ?_
  refine hm_top (z := x1) ex1 ?_
  refine lv_if_eq (tgt := 563) hx hb d_law_556 (by decide) (fun h101 => ?_) (fun h101 => ?_)
  · refine lv_iconst (v := 0) hx hb d_law_563 (by decide) ?_
    refine hm_calli hS hM hA (va_runV (As := [.int 0]) (rest := []) X (c_take_no l D k f (aF a 0) S.u (aF a) (S.tn 0) (S.tx 0) 0 (hcs.F 0 rfl) (hcs.F 7 rfl) (hcs.F 17 rfl) rfl H.size) (hm_cwV hts me_GrantServer_take wl_GrantServerLaw_68 rfl rfl ⟨Nat.le_of_ble_eq_true rfl, Nat.le_of_ble_eq_true rfl⟩) (hm_preV hM hK (hcs.F 0 rfl) rfl) rfl rfl hl.1 rfl (lv_room (Nat.le_of_ble_eq_true rfl)) d_law_564 ⟨(show C + 0 ≤ 600000 by omega), (show Sl + 0 ≤ 7302250 by omega)⟩) (fun r104 f102 H locs p103 hM hS => ?_)
    obtain ⟨rfl, g105, hfr106⟩ := p103
    have hfrc : ∀ (q : Nat) (x : va_E), (∀ n, n ∈ [((0, 7, 0) : cX)] → c_ok S n → q ≠ a.A n) → f q = some x → f102 q = some x := fun zq zx hh hq => hfr106 zq zx (hh (0, 7, 0) (by simp) ⟨rfl, rfl⟩) hq
    have hcs : cs k f102 a (cSm S.u S.nc S.cl S.us S.w S.fm S.nf S.fa (va_up S.tn 0 0) S.tx S.rd S.rs S.ra S.ky) := by
      refine hcs.up [((0, 7, 0) : cX)] (fun n hn hok => ?_) hfrc (c_same (fun i hi hn => ?_) (fun s i _ _ _ => ⟨rfl, rfl⟩) (fun t _ => rfl) rfl) rfl rfl hcs.2.2.2.2
      · simp only [List.mem_cons, List.not_mem_nil, or_false] at hn
        rcases hn with hn
        · subst hn; exact g105
      · rcases c_ixs hi with r | r | r | r | r | r | r | r | r | r | r | r | r | r | r | r | r | r <;> subst r <;> first | rfl | exact absurd (by simp) hn
    have hmo := cs.mo hdj hfrc hmo
    have hdj := dj_cv (S' := cSm S.u S.nc S.cl S.us S.w S.fm S.nf S.fa (va_up S.tn 0 0) S.tx S.rd S.rs S.ra S.ky) rfl rfl hdj
    refine lv_aload_n hx hb d_law_567 rfl (lv_at hl 1 rfl) ?_
    refine lv_aload_n hx hb d_law_568 rfl (lv_at hl 3 rfl) ?_
    refine lv_iload_n hx hb d_law_569 rfl (lv_at hl 0 rfl) ?_
    refine lv_iconst (v := 1) hx hb d_law_570 (by decide) ?_
    refine lv_iadd hx hb d_law_571 ?_
    refine hm_top (z := nI (4 + 6 * B + 1)) (nI_add _ 1) ?_
    refine va_sld hx hb hX hbl hbA hS (vp_in_nI (n := 4 + 6 * B + 1) (N := L) (by omega) (by omega)) d_law_572 ?_
    refine hm_top (z := xs (4 + 6 * B + 1)) (by rw [nI_clamp (by omega)]) ?_
    refine hm_top (z := x1) ex1 ?_
    refine lv_if_eq (tgt := 580) hx hb d_law_573 (by decide) (fun h107 => ?_) (fun h107 => ?_)
    · refine lv_iconst (v := 0) hx hb d_law_580 (by decide) ?_
      refine hm_calli hS hM hA (va_runV (As := [.int 0]) (rest := [.int 0]) X (m_c_take_no l D k f102 h9 adM sk v c 0 0 hmo rfl rfl (by decide) H.size) (hm_cwV hts me_GrantServerModel_take wl_GrantServerLaw_72 rfl rfl ⟨Nat.le_of_ble_eq_true rfl, Nat.le_of_ble_eq_true rfl⟩) (hm_preV hM hK hmo.1 rfl) rfl rfl hl.1 rfl (lv_room (Nat.le_of_ble_eq_true rfl)) d_law_581 ⟨(show C + 0 + 0 ≤ 600000 by omega), (show Sl + 0 + 0 ≤ 7302250 by omega)⟩) (fun r110 f108 H locs p109 hM hS => ?_)
      obtain ⟨x111, rfl, h112, hmo, hfr113⟩ := p109
      have hcs := hcs.keep hdj hfr113
      refine lv_icmp_eq (tgt := 749) hx hb d_law_584 (by decide) (fun h114 => ?_) (fun h114 => ?_)
      · refine W.widen (k := C + 1) (n := Sl + 3) (by omega) (by omega) ?_
        exact next _ _ _ _ _ _ _ _ rfl ⟨hcs, hdj, hmo, hrl.take0⟩ hM hS
      · exact absurd rfl h114
    · exact absurd h101 h107
  · refine lv_iconst (v := 1) hx hb d_law_559 (by decide) ?_
    refine lv_goto (tgt := 564) hx hb d_law_560 (by decide) ?_
    have hft : ∀ i, i < S.tn 1 → fits .char (.int (S.tx 1 i)) = true := fun i hi => by rw [(hrl.t1.cx i hi).1]; exact (pk_charN (by have := (hrl.t1.cx i hi).2; omega)).2
    refine hm_calli hS hM hA (va_runV (As := [.int 1]) (rest := []) X (c_take l D k f (aF a 0) S.u (aF a) (S.tn 0) (S.tx 0) (S.tn 1) (S.tx 1) 1 (hcs.F 0 rfl) (hcs.F 7 rfl) (hcs.F 17 rfl) (hcs.F 8 rfl) (hcs.F 18 rfl) hcs.ap (by decide) hrl.t1.le hft H.size) (hm_cwV hts me_GrantServer_take wl_GrantServerLaw_68 rfl rfl ⟨Nat.le_of_ble_eq_true rfl, Nat.le_of_ble_eq_true rfl⟩) (hm_preV hM hK (hcs.F 0 rfl) rfl) rfl rfl hl.1 rfl (lv_room (Nat.le_of_ble_eq_true rfl)) d_law_564 ⟨(show C + 0 ≤ 600000 by omega), (show Sl + 0 ≤ 7302250 by omega)⟩) (fun r104 f102 H locs p103 hM hS => ?_)
    obtain ⟨rfl, g105, g106, hfr107⟩ := p103
    have hfrc : ∀ (q : Nat) (x : va_E), (∀ n, n ∈ [((0, 7, 0) : cX), ((0, 17, 0) : cX)] → c_ok S n → q ≠ a.A n) → f q = some x → f102 q = some x := fun zq zx hh hq => hfr107 zq zx (hh (0, 7, 0) (by simp) ⟨rfl, rfl⟩) (hh (0, 17, 0) (by simp) ⟨rfl, rfl⟩) hq
    have hcs : cs k f102 a (cSm S.u S.nc S.cl S.us S.w S.fm S.nf S.fa (va_up S.tn 0 (S.tn 1)) (va_up S.tx 0 (va_cpy (S.tx 1) (S.tx 0) 0 0 (S.tn 1))) S.rd S.rs S.ra S.ky) := by
      refine hcs.up [((0, 7, 0) : cX), ((0, 17, 0) : cX)] (fun n hn hok => ?_) hfrc (c_same (fun i hi hn => ?_) (fun s i _ _ _ => ⟨rfl, rfl⟩) (fun t _ => rfl) rfl) rfl rfl hcs.2.2.2.2
      · simp only [List.mem_cons, List.not_mem_nil, or_false] at hn
        rcases hn with hn | hn
        · subst hn; exact g105
        · subst hn; exact g106
      · rcases c_ixs hi with r | r | r | r | r | r | r | r | r | r | r | r | r | r | r | r | r | r <;> subst r <;> first | rfl | exact absurd (by simp) hn
    have hmo := cs.mo hdj hfrc hmo
    have hdj := dj_cv (S' := cSm S.u S.nc S.cl S.us S.w S.fm S.nf S.fa (va_up S.tn 0 (S.tn 1)) (va_up S.tx 0 (va_cpy (S.tx 1) (S.tx 0) 0 0 (S.tn 1))) S.rd S.rs S.ra S.ky) rfl rfl hdj
    refine lv_aload_n hx hb d_law_567 rfl (lv_at hl 1 rfl) ?_
    refine lv_aload_n hx hb d_law_568 rfl (lv_at hl 3 rfl) ?_
    refine lv_iload_n hx hb d_law_569 rfl (lv_at hl 0 rfl) ?_
    refine lv_iconst (v := 1) hx hb d_law_570 (by decide) ?_
    refine lv_iadd hx hb d_law_571 ?_
    refine hm_top (z := nI (4 + 6 * B + 1)) (nI_add _ 1) ?_
    refine va_sld hx hb hX hbl hbA hS (vp_in_nI (n := 4 + 6 * B + 1) (N := L) (by omega) (by omega)) d_law_572 ?_
    refine hm_top (z := xs (4 + 6 * B + 1)) (by rw [nI_clamp (by omega)]) ?_
    refine hm_top (z := x1) ex1 ?_
    refine lv_if_eq (tgt := 580) hx hb d_law_573 (by decide) (fun h108 => ?_) (fun h108 => ?_)
    · exact absurd h108 h101
    · refine lv_iconst (v := 1) hx hb d_law_576 (by decide) ?_
      refine lv_goto (tgt := 581) hx hb d_law_577 (by decide) ?_
      refine hm_calli hS hM hA (va_runV (As := [.int 1]) (rest := [.int (nI (S.tn 1))]) X (m_c_take l D k f102 h9 adM sk v c 1 (S.tn 1) hmo (by decide) hrl.t1.vn hrl.t1.le H.size) (hm_cwV hts me_GrantServerModel_take wl_GrantServerLaw_72 rfl rfl ⟨Nat.le_of_ble_eq_true rfl, Nat.le_of_ble_eq_true rfl⟩) (hm_preV hM hK hmo.1 rfl) rfl rfl hl.1 rfl (lv_room (Nat.le_of_ble_eq_true rfl)) d_law_581 ⟨(show C + 0 + 0 ≤ 600000 by omega), (show Sl + 0 + 0 ≤ 7302250 by omega)⟩) (fun r111 f109 H locs p110 hM hS => ?_)
      obtain ⟨x112, rfl, h113, hmo, hfr114⟩ := p110
      have hcs := hcs.keep hdj hfr114
      refine lv_icmp_eq (tgt := 749) hx hb d_law_584 (by decide) (fun h115 => ?_) (fun h115 => ?_)
      · refine W.widen (k := C + 1) (n := Sl + 3) (by omega) (by omega) ?_
        exact next _ _ _ _ _ _ _ _ rfl ⟨hcs, hdj, hmo, (hrl.take (fun j hj => va_cpy_in hj) h113)⟩ hM hS
      · exact absurd rfl h115
set_option maxHeartbeats 40000000 in
set_option maxRecDepth 100000 in
theorem lw_c11 {p : Program} {e : Env} {s : State} {m : MethodId} {below : List Frame} {meth : Method} {cd : Code} {l : Launch} {b L : Nat} {xs : Nat → Int32} {D : va_G} {k : Nat → ClassId} {A : Nat → Prop} {sA sV : Nat → Nat} {h9 : Nat} {adM : Nat → Nat} {Q : State → Prop} {sk : Int64}
    (X : CallFix p m cd code 4 s #[Value.ref b] TB R_GrantServerLaw) (hX : va_X b L xs s s.heap) (hbl : b < s.heap.size) (hbA : ¬ A b) (hK : hm_K D vwCl (tyL k) s) (hA : ∀ q, s.heap.size ≤ q → A q) (hZ : hm_Z sA sV A s s.heap)
    {f : hm} {a : cA} {S : cS} {sg : Nat → Nat → Nat} {v : Nat → Int32} {c : Nat → Nat → Int32} {B C Sl : Nat} {H : Heap} {locs : List Loc} {ls : Array Slot} (hB : B < 512) (hi : 4 + 6 * B + 6 ≤ L) (hL : L ≤ 3076) (hC : C ≤ 10000) (hSl : Sl ≤ 20000)
    (hI : lw_I k f a S h9 adM sk v c sg B) (hM : hm_W D vwCl A f H) (hS : va_S A s.heap H locs) (hl : lv_has ls 4 [(3, .int (nI (4 + 6 * B))), (2, .ref h9), (1, .ref (aF a 0)), (0, .ref b)])
    (next : ∀ (f' : hm) (a' : cA) (S' : cS) (sg' : Nat → Nat → Nat) (v' : Nat → Int32) (c' : Nat → Nat → Int32) (H' : Heap) (locs' : List Loc), aF a' 0 = aF a 0 → lw_I k f' a' S' h9 adM sk v' c' sg' (B + 1) → hm_W D vwCl A f' H' → va_S A s.heap H' locs' → W p l e room_1 s m #[Value.ref b] below meth cd H' locs' (C + 1) (Sl + 3) Q (F0 m 749 ls [])) :
    W p l e room_1 s m #[Value.ref b] below meth cd H locs C Sl Q (F0 m 589 ls []) := by
  obtain ⟨hcs, hdj, hmo, hrl⟩ := hI
  have hx := X.1; have hb := X.2.1; have hml := X.2.2.1; have hown := X.2.2.2.1; have hts := X.2.2.2.2
  obtain ⟨x1, ex1⟩ : ∃ z, xs (4 + 6 * B + 1) = z := ⟨_, rfl⟩
  obtain ⟨x2, ex2⟩ : ∃ z, xs (4 + 6 * B + 2) = z := ⟨_, rfl⟩
  obtain ⟨x3, ex3⟩ : ∃ z, xs (4 + 6 * B + 3) = z := ⟨_, rfl⟩
  obtain ⟨x4, ex4⟩ : ∃ z, xs (4 + 6 * B + 4) = z := ⟨_, rfl⟩
  obtain ⟨x5, ex5⟩ : ∃ z, xs (4 + 6 * B + 5) = z := ⟨_, rfl⟩
  refine lv_aload_n hx hb d_law_589 rfl (lv_at hl 2 rfl) ?_
  refine lv_aload_n hx hb d_law_590 rfl (lv_at hl 3 rfl) ?_
  refine lv_iload_n hx hb d_law_591 rfl (lv_at hl 0 rfl) ?_
  refine lv_iconst (v := 1) hx hb d_law_592 (by decide) ?_
  refine lv_iadd hx hb d_law_593 ?_
  refine hm_top (z := nI (4 + 6 * B + 1)) (nI_add _ 1) ?_
  refine va_sld hx hb hX hbl hbA hS (vp_in_nI (n := 4 + 6 * B + 1) (N := L) (by omega) (by omega)) d_law_594 ?_
  refine hm_top (z := xs (4 + 6 * B + 1)) (by rw [nI_clamp (by omega)]) ?_
  refine hm_top (z := x1) ex1 ?_
  refine lv_if_eq (tgt := 602) hx hb d_law_595 (by decide) (fun h101 => ?_) (fun h101 => ?_)
  · refine lv_iconst (v := 0) hx hb d_law_602 (by decide) ?_
    refine lv_aload_n hx hb d_law_603 rfl (lv_at hl 3 rfl) ?_
    refine lv_iload_n hx hb d_law_604 rfl (lv_at hl 0 rfl) ?_
    refine lv_iconst (v := 2) hx hb d_law_605 (by decide) ?_
    refine lv_iadd hx hb d_law_606 ?_
    refine hm_top (z := nI (4 + 6 * B + 2)) (nI_add _ 2) ?_
    refine va_sld hx hb hX hbl hbA hS (vp_in_nI (n := 4 + 6 * B + 2) (N := L) (by omega) (by omega)) d_law_607 ?_
    refine hm_top (z := xs (4 + 6 * B + 2)) (by rw [nI_clamp (by omega)]) ?_
    refine hm_top (z := x2) ex2 ?_
    refine hm_calli hS hM hA (va_runV (As := [.int 0, .int x2]) (rest := []) X (c_letter_in l D k f (aF a 0) S.u (aF a) (S.tn 0) (S.tx 0) 0 x2 (hcs.F 0 rfl) (hcs.F 7 rfl) (hcs.F 17 rfl) rfl hrl.t0.le H.size) (hm_cwV hts me_GrantServer_letter wl_GrantServerLaw_73 rfl rfl ⟨Nat.le_of_ble_eq_true rfl, Nat.le_of_ble_eq_true rfl⟩) (hm_preV hM hK (hcs.F 0 rfl) rfl) rfl rfl hl.1 rfl (lv_room (Nat.le_of_ble_eq_true rfl)) d_law_608 ⟨(show C + 0 ≤ 600000 by omega), (show Sl + 0 ≤ 7302250 by omega)⟩) (fun r104 f102 H locs p103 hM hS => ?_)
    obtain ⟨rfl, rfl⟩ := p103
    refine lv_aload_n hx hb d_law_611 rfl (lv_at hl 1 rfl) ?_
    refine lv_aload_n hx hb d_law_612 rfl (lv_at hl 3 rfl) ?_
    refine lv_iload_n hx hb d_law_613 rfl (lv_at hl 0 rfl) ?_
    refine lv_iconst (v := 1) hx hb d_law_614 (by decide) ?_
    refine lv_iadd hx hb d_law_615 ?_
    refine hm_top (z := nI (4 + 6 * B + 1)) (nI_add _ 1) ?_
    refine va_sld hx hb hX hbl hbA hS (vp_in_nI (n := 4 + 6 * B + 1) (N := L) (by omega) (by omega)) d_law_616 ?_
    refine hm_top (z := xs (4 + 6 * B + 1)) (by rw [nI_clamp (by omega)]) ?_
    refine hm_top (z := x1) ex1 ?_
    refine lv_if_eq (tgt := 624) hx hb d_law_617 (by decide) (fun h105 => ?_) (fun h105 => ?_)
    · refine lv_iconst (v := 0) hx hb d_law_624 (by decide) ?_
      refine lv_aload_n hx hb d_law_625 rfl (lv_at hl 3 rfl) ?_
      refine lv_iload_n hx hb d_law_626 rfl (lv_at hl 0 rfl) ?_
      refine lv_iconst (v := 2) hx hb d_law_627 (by decide) ?_
      refine lv_iadd hx hb d_law_628 ?_
      refine hm_top (z := nI (4 + 6 * B + 2)) (nI_add _ 2) ?_
      refine va_sld hx hb hX hbl hbA hS (vp_in_nI (n := 4 + 6 * B + 2) (N := L) (by omega) (by omega)) d_law_629 ?_
      refine hm_top (z := xs (4 + 6 * B + 2)) (by rw [nI_clamp (by omega)]) ?_
      refine hm_top (z := x2) ex2 ?_
      refine hm_calli hS hM hA (va_runV (As := [.int 0, .int x2]) (rest := [.int (z_at (S.tn 0) (S.tx 0) x2)]) X (m_c_letter l D k f h9 adM sk v c 0 x2 (S.tn 0) hmo ((if_pos rfl).trans hrl.t0.vn) hrl.t0.le H.size) (hm_cwV hts me_GrantServerModel_letter wl_GrantServerLaw_77 rfl rfl ⟨Nat.le_of_ble_eq_true rfl, Nat.le_of_ble_eq_true rfl⟩) (hm_preV hM hK hmo.1 rfl) rfl rfl hl.1 rfl (lv_room (Nat.le_of_ble_eq_true rfl)) d_law_630 ⟨(show C + 0 + 0 ≤ 600000 by omega), (show Sl + 0 + 0 ≤ 7302250 by omega)⟩) (fun r108 f106 H locs p107 hM hS => ?_)
      obtain ⟨rfl, rfl⟩ := p107
      refine lv_icmp_eq (tgt := 749) hx hb d_law_633 (by decide) (fun h109 => ?_) (fun h109 => ?_)
      · refine W.widen (k := C + 1) (n := Sl + 3) (by omega) (by omega) ?_
        exact next _ _ _ _ _ _ _ _ rfl ⟨hcs, hdj, hmo, hrl.same⟩ hM hS
      · exact absurd (hrl.let0 rfl) h109
    · exact absurd h101 h105
  · refine lv_iconst (v := 1) hx hb d_law_598 (by decide) ?_
    refine lv_goto (tgt := 603) hx hb d_law_599 (by decide) ?_
    refine lv_aload_n hx hb d_law_603 rfl (lv_at hl 3 rfl) ?_
    refine lv_iload_n hx hb d_law_604 rfl (lv_at hl 0 rfl) ?_
    refine lv_iconst (v := 2) hx hb d_law_605 (by decide) ?_
    refine lv_iadd hx hb d_law_606 ?_
    refine hm_top (z := nI (4 + 6 * B + 2)) (nI_add _ 2) ?_
    refine va_sld hx hb hX hbl hbA hS (vp_in_nI (n := 4 + 6 * B + 2) (N := L) (by omega) (by omega)) d_law_607 ?_
    refine hm_top (z := xs (4 + 6 * B + 2)) (by rw [nI_clamp (by omega)]) ?_
    refine hm_top (z := x2) ex2 ?_
    refine hm_calli hS hM hA (va_runV (As := [.int 1, .int x2]) (rest := []) X (c_letter_out l D k f (aF a 0) S.u (aF a) (S.tn 1) (S.tx 1) 1 x2 (hcs.F 0 rfl) (hcs.F 8 rfl) (hcs.F 18 rfl) (by decide) hrl.t1.le H.size) (hm_cwV hts me_GrantServer_letter wl_GrantServerLaw_73 rfl rfl ⟨Nat.le_of_ble_eq_true rfl, Nat.le_of_ble_eq_true rfl⟩) (hm_preV hM hK (hcs.F 0 rfl) rfl) rfl rfl hl.1 rfl (lv_room (Nat.le_of_ble_eq_true rfl)) d_law_608 ⟨(show C + 0 ≤ 600000 by omega), (show Sl + 0 ≤ 7302250 by omega)⟩) (fun r104 f102 H locs p103 hM hS => ?_)
    obtain ⟨rfl, rfl⟩ := p103
    refine lv_aload_n hx hb d_law_611 rfl (lv_at hl 1 rfl) ?_
    refine lv_aload_n hx hb d_law_612 rfl (lv_at hl 3 rfl) ?_
    refine lv_iload_n hx hb d_law_613 rfl (lv_at hl 0 rfl) ?_
    refine lv_iconst (v := 1) hx hb d_law_614 (by decide) ?_
    refine lv_iadd hx hb d_law_615 ?_
    refine hm_top (z := nI (4 + 6 * B + 1)) (nI_add _ 1) ?_
    refine va_sld hx hb hX hbl hbA hS (vp_in_nI (n := 4 + 6 * B + 1) (N := L) (by omega) (by omega)) d_law_616 ?_
    refine hm_top (z := xs (4 + 6 * B + 1)) (by rw [nI_clamp (by omega)]) ?_
    refine hm_top (z := x1) ex1 ?_
    refine lv_if_eq (tgt := 624) hx hb d_law_617 (by decide) (fun h105 => ?_) (fun h105 => ?_)
    · exact absurd h105 h101
    · refine lv_iconst (v := 1) hx hb d_law_620 (by decide) ?_
      refine lv_goto (tgt := 625) hx hb d_law_621 (by decide) ?_
      refine lv_aload_n hx hb d_law_625 rfl (lv_at hl 3 rfl) ?_
      refine lv_iload_n hx hb d_law_626 rfl (lv_at hl 0 rfl) ?_
      refine lv_iconst (v := 2) hx hb d_law_627 (by decide) ?_
      refine lv_iadd hx hb d_law_628 ?_
      refine hm_top (z := nI (4 + 6 * B + 2)) (nI_add _ 2) ?_
      refine va_sld hx hb hX hbl hbA hS (vp_in_nI (n := 4 + 6 * B + 2) (N := L) (by omega) (by omega)) d_law_629 ?_
      refine hm_top (z := xs (4 + 6 * B + 2)) (by rw [nI_clamp (by omega)]) ?_
      refine hm_top (z := x2) ex2 ?_
      refine hm_calli hS hM hA (va_runV (As := [.int 1, .int x2]) (rest := [.int (z_at (S.tn 1) (S.tx 1) x2)]) X (m_c_letter l D k f h9 adM sk v c 1 x2 (S.tn 1) hmo ((if_neg (by decide)).trans hrl.t1.vn) hrl.t1.le H.size) (hm_cwV hts me_GrantServerModel_letter wl_GrantServerLaw_77 rfl rfl ⟨Nat.le_of_ble_eq_true rfl, Nat.le_of_ble_eq_true rfl⟩) (hm_preV hM hK hmo.1 rfl) rfl rfl hl.1 rfl (lv_room (Nat.le_of_ble_eq_true rfl)) d_law_630 ⟨(show C + 0 + 0 ≤ 600000 by omega), (show Sl + 0 + 0 ≤ 7302250 by omega)⟩) (fun r108 f106 H locs p107 hM hS => ?_)
      obtain ⟨rfl, rfl⟩ := p107
      refine lv_icmp_eq (tgt := 749) hx hb d_law_633 (by decide) (fun h109 => ?_) (fun h109 => ?_)
      · refine W.widen (k := C + 1) (n := Sl + 3) (by omega) (by omega) ?_
        exact next _ _ _ _ _ _ _ _ rfl ⟨hcs, hdj, hmo, hrl.same⟩ hM hS
      · exact absurd (hrl.let1 (by decide)) h109
set_option maxHeartbeats 40000000 in
set_option maxRecDepth 100000 in
theorem lw_c12 {p : Program} {e : Env} {s : State} {m : MethodId} {below : List Frame} {meth : Method} {cd : Code} {l : Launch} {b L : Nat} {xs : Nat → Int32} {D : va_G} {k : Nat → ClassId} {A : Nat → Prop} {sA sV : Nat → Nat} {h9 : Nat} {adM : Nat → Nat} {Q : State → Prop} {sk : Int64}
    (X : CallFix p m cd code 4 s #[Value.ref b] TB R_GrantServerLaw) (hX : va_X b L xs s s.heap) (hbl : b < s.heap.size) (hbA : ¬ A b) (hK : hm_K D vwCl (tyL k) s) (hA : ∀ q, s.heap.size ≤ q → A q) (hZ : hm_Z sA sV A s s.heap)
    {f : hm} {a : cA} {S : cS} {sg : Nat → Nat → Nat} {v : Nat → Int32} {c : Nat → Nat → Int32} {B C Sl : Nat} {H : Heap} {locs : List Loc} {ls : Array Slot} (hB : B < 512) (hi : 4 + 6 * B + 6 ≤ L) (hL : L ≤ 3076) (hC : C ≤ 10000) (hSl : Sl ≤ 20000)
    (hI : lw_I k f a S h9 adM sk v c sg B) (hM : hm_W D vwCl A f H) (hS : va_S A s.heap H locs) (hl : lv_has ls 4 [(3, .int (nI (4 + 6 * B))), (2, .ref h9), (1, .ref (aF a 0)), (0, .ref b)])
    (next : ∀ (f' : hm) (a' : cA) (S' : cS) (sg' : Nat → Nat → Nat) (v' : Nat → Int32) (c' : Nat → Nat → Int32) (H' : Heap) (locs' : List Loc), aF a' 0 = aF a 0 → lw_I k f' a' S' h9 adM sk v' c' sg' (B + 1) → hm_W D vwCl A f' H' → va_S A s.heap H' locs' → W p l e room_1 s m #[Value.ref b] below meth cd H' locs' (C + 1) (Sl + 3) Q (F0 m 749 ls [])) :
    W p l e room_1 s m #[Value.ref b] below meth cd H locs C Sl Q (F0 m 638 ls []) := by
  obtain ⟨hcs, hdj, hmo, hrl⟩ := hI
  have hx := X.1; have hb := X.2.1; have hml := X.2.2.1; have hown := X.2.2.2.1; have hts := X.2.2.2.2
  obtain ⟨x1, ex1⟩ : ∃ z, xs (4 + 6 * B + 1) = z := ⟨_, rfl⟩
  obtain ⟨x2, ex2⟩ : ∃ z, xs (4 + 6 * B + 2) = z := ⟨_, rfl⟩
  obtain ⟨x3, ex3⟩ : ∃ z, xs (4 + 6 * B + 3) = z := ⟨_, rfl⟩
  obtain ⟨x4, ex4⟩ : ∃ z, xs (4 + 6 * B + 4) = z := ⟨_, rfl⟩
  obtain ⟨x5, ex5⟩ : ∃ z, xs (4 + 6 * B + 5) = z := ⟨_, rfl⟩
  refine lv_aload_n hx hb d_law_638 rfl (lv_at hl 2 rfl) ?_
  refine hm_calli hS hM hA (va_runV (As := []) (rest := []) X (c_challenge l D k f (aF a 0) S.u (aF a) (S.tn 0) (S.tx 0) (hcs.F 0 rfl) (hcs.F 7 rfl) (hcs.F 17 rfl) hrl.t0.le H.size) (hm_cwV hts me_GrantServer_challenge wl_GrantServerLaw_78 rfl rfl ⟨Nat.le_of_ble_eq_true rfl, Nat.le_of_ble_eq_true rfl⟩) (hm_preV hM hK (hcs.F 0 rfl) rfl) rfl rfl hl.1 rfl (lv_room (Nat.le_of_ble_eq_true rfl)) d_law_639 ⟨(show C + 0 ≤ 600000 by omega), (show Sl + 0 ≤ 7302250 by omega)⟩) (fun r103 f101 H locs p102 hM hS => ?_)
  obtain ⟨rfl, rfl⟩ := p102
  refine lv_aload_n hx hb d_law_642 rfl (lv_at hl 1 rfl) ?_
  refine hm_calli hS hM hA (va_runV (As := []) (rest := [.int (z_hash (S.tx 0) (S.tn 0) (S.tn 0))]) X (m_c_challenge l D k f h9 adM sk v c (S.tn 0) hmo hrl.t0.vn hrl.t0.le H.size) (hm_cwV hts me_GrantServerModel_challenge wl_GrantServerLaw_82 rfl rfl ⟨Nat.le_of_ble_eq_true rfl, Nat.le_of_ble_eq_true rfl⟩) (hm_preV hM hK hmo.1 rfl) rfl rfl hl.1 rfl (lv_room (Nat.le_of_ble_eq_true rfl)) d_law_643 ⟨(show C + 0 + 0 ≤ 600000 by omega), (show Sl + 0 + 0 ≤ 7302250 by omega)⟩) (fun r106 f104 H locs p105 hM hS => ?_)
  obtain ⟨rfl, rfl⟩ := p105
  refine lv_icmp_eq (tgt := 749) hx hb d_law_646 (by decide) (fun h107 => ?_) (fun h107 => ?_)
  · refine W.widen (k := C + 1) (n := Sl + 3) (by omega) (by omega) ?_
    exact next _ _ _ _ _ _ _ _ rfl ⟨hcs, hdj, hmo, hrl.same⟩ hM hS
  · exact absurd hrl.t0.hash h107
set_option maxHeartbeats 40000000 in
set_option maxRecDepth 100000 in
theorem lw_c13 {p : Program} {e : Env} {s : State} {m : MethodId} {below : List Frame} {meth : Method} {cd : Code} {l : Launch} {b L : Nat} {xs : Nat → Int32} {D : va_G} {k : Nat → ClassId} {A : Nat → Prop} {sA sV : Nat → Nat} {h9 : Nat} {adM : Nat → Nat} {Q : State → Prop} {sk : Int64}
    (X : CallFix p m cd code 4 s #[Value.ref b] TB R_GrantServerLaw) (hX : va_X b L xs s s.heap) (hbl : b < s.heap.size) (hbA : ¬ A b) (hK : hm_K D vwCl (tyL k) s) (hA : ∀ q, s.heap.size ≤ q → A q) (hZ : hm_Z sA sV A s s.heap)
    {f : hm} {a : cA} {S : cS} {sg : Nat → Nat → Nat} {v : Nat → Int32} {c : Nat → Nat → Int32} {B C Sl : Nat} {H : Heap} {locs : List Loc} {ls : Array Slot} (hB : B < 512) (hi : 4 + 6 * B + 6 ≤ L) (hL : L ≤ 3076) (hC : C ≤ 10000) (hSl : Sl ≤ 20000)
    (hI : lw_I k f a S h9 adM sk v c sg B) (hM : hm_W D vwCl A f H) (hS : va_S A s.heap H locs) (hl : lv_has ls 4 [(3, .int (nI (4 + 6 * B))), (2, .ref h9), (1, .ref (aF a 0)), (0, .ref b)])
    (next : ∀ (f' : hm) (a' : cA) (S' : cS) (sg' : Nat → Nat → Nat) (v' : Nat → Int32) (c' : Nat → Nat → Int32) (H' : Heap) (locs' : List Loc), aF a' 0 = aF a 0 → lw_I k f' a' S' h9 adM sk v' c' sg' (B + 1) → hm_W D vwCl A f' H' → va_S A s.heap H' locs' → W p l e room_1 s m #[Value.ref b] below meth cd H' locs' (C + 1) (Sl + 3) Q (F0 m 749 ls [])) :
    W p l e room_1 s m #[Value.ref b] below meth cd H locs C Sl Q (F0 m 651 ls []) := by
  obtain ⟨hcs, hdj, hmo, hrl⟩ := hI
  have hx := X.1; have hb := X.2.1; have hml := X.2.2.1; have hown := X.2.2.2.1; have hts := X.2.2.2.2
  obtain ⟨x1, ex1⟩ : ∃ z, xs (4 + 6 * B + 1) = z := ⟨_, rfl⟩
  obtain ⟨x2, ex2⟩ : ∃ z, xs (4 + 6 * B + 2) = z := ⟨_, rfl⟩
  obtain ⟨x3, ex3⟩ : ∃ z, xs (4 + 6 * B + 3) = z := ⟨_, rfl⟩
  obtain ⟨x4, ex4⟩ : ∃ z, xs (4 + 6 * B + 4) = z := ⟨_, rfl⟩
  obtain ⟨x5, ex5⟩ : ∃ z, xs (4 + 6 * B + 5) = z := ⟨_, rfl⟩
  refine lv_aload_n hx hb d_law_651 rfl (lv_at hl 2 rfl) ?_
  by_cases hbig : 120 < (S.tn 0 * 8 + 5) / 6 + 11
  · refine hm_calli hS hM hA (va_runV (As := []) (rest := []) X (c_wrap_no l D k f (aF a 0) S.u (aF a) (S.tn 0) (S.tx 0) S.ky (hcs.F 0 rfl) (hcs.F 7 rfl) (hcs.F 17 rfl) (hcs.F 11 rfl) hrl.t0.le hbig H.size) (hm_cwV hts me_GrantServer_wrap wl_GrantServerLaw_83 rfl rfl ⟨Nat.le_of_ble_eq_true rfl, Nat.le_of_ble_eq_true rfl⟩) (hm_preV hM hK (hcs.F 0 rfl) rfl) rfl rfl hl.1 rfl (lv_room (Nat.le_of_ble_eq_true rfl)) d_law_652 ⟨(show C + 0 ≤ 600000 by omega), (show Sl + 0 ≤ 7302250 by omega)⟩) (fun r103 f101 H locs p102 hM hS => ?_)
    obtain ⟨rfl, rfl⟩ := p102
    refine lv_aload_n hx hb d_law_655 rfl (lv_at hl 1 rfl) ?_
    refine hm_calli hS hM hA (va_runV (As := []) (rest := [.int (-1)]) X (m_c_wrap_no l D k f h9 adM sk v c (S.tn 0) hmo hrl.t0.vn hrl.t0.le hbig H.size) (hm_cwV hts me_GrantServerModel_wrap wl_GrantServerLaw_86 rfl rfl ⟨Nat.le_of_ble_eq_true rfl, Nat.le_of_ble_eq_true rfl⟩) (hm_preV hM hK hmo.1 rfl) rfl rfl hl.1 rfl (lv_room (Nat.le_of_ble_eq_true rfl)) d_law_656 ⟨(show C + 0 + 0 ≤ 600000 by omega), (show Sl + 0 + 0 ≤ 7302250 by omega)⟩) (fun r106 f104 H locs p105 hM hS => ?_)
    obtain ⟨rfl, rfl⟩ := p105
    refine lv_icmp_eq (tgt := 749) hx hb d_law_659 (by decide) (fun h107 => ?_) (fun h107 => ?_)
    · refine W.widen (k := C + 1) (n := Sl + 3) (by omega) (by omega) ?_
      exact next _ _ _ _ _ _ _ _ rfl ⟨hcs, hdj, hmo, hrl.same⟩ hM hS
    · exact absurd rfl h107
  · have hsm : (S.tn 0 * 8 + 5) / 6 + 11 ≤ 120 := Nat.le_of_not_lt hbig
    have hxc : ∀ j, j < S.tn 0 → S.tx 0 j = nI (S.tx 0 j).toNatClampNeg ∧ (S.tx 0 j).toNatClampNeg < 256 := fun j hj => ⟨(hrl.t0.cx j hj).1, by have := (hrl.t0.cx j hj).2; omega⟩
    have hxm : ∀ j, j < S.tn 0 → c 23 j = nI (S.tx 0 j).toNatClampNeg ∧ (S.tx 0 j).toNatClampNeg < 256 := fun j hj => ⟨(hrl.t0.eq j hj).symm.trans (hxc j hj).1, (hxc j hj).2⟩
    refine hm_calli hS hM hA (va_runV (As := []) (rest := []) X (c_wrap l D k sA sV f (aF a 0) S.u (aF a) (S.tn 0) (S.tx 0) (fun j => (S.tx 0 j).toNatClampNeg) (nI (S.tn 1)) (S.tx 1) S.ky (hcs.F 0 rfl) (hcs.F 7 rfl) (hcs.F 17 rfl) (hcs.F 8 rfl) (hcs.F 18 rfl) (hcs.F 11 rfl) hcs.ap hrl.t0.le hxc hsm H.size) (hm_cwV hts me_GrantServer_wrap wl_GrantServerLaw_83 rfl rfl ⟨Nat.le_of_ble_eq_true rfl, Nat.le_of_ble_eq_true rfl⟩) (hm_preVZ hZ hS hA hM hK (hcs.F 0 rfl) rfl) rfl rfl hl.1 rfl (lv_room (Nat.le_of_ble_eq_true rfl)) d_law_652 ⟨(show C + 0 ≤ 600000 by omega), (show Sl + 0 ≤ 7302250 by omega)⟩) (fun r103 f101 H locs p102 hM hS => ?_)
    obtain ⟨x104, rfl, h105, h106, h107, g108, g109, hfr110⟩ := p102
    have hfrc : ∀ (q : Nat) (x : va_E), (∀ n, n ∈ [((0, 8, 0) : cX), ((0, 18, 0) : cX)] → c_ok S n → q ≠ a.A n) → f q = some x → f101 q = some x := fun zq zx hh hq => hfr110 zq zx (hh (0, 8, 0) (by simp) ⟨rfl, rfl⟩) (hh (0, 18, 0) (by simp) ⟨rfl, rfl⟩) hq
    have hcs : cs k f101 a (cSm S.u S.nc S.cl S.us S.w S.fm S.nf S.fa (va_up S.tn 1 ((S.tn 0 * 8 + 5) / 6 + 11)) (va_up S.tx 1 x104) S.rd S.rs S.ra S.ky) := by
      refine hcs.up [((0, 8, 0) : cX), ((0, 18, 0) : cX)] (fun n hn hok => ?_) hfrc (c_same (fun i hi hn => ?_) (fun s i _ _ _ => ⟨rfl, rfl⟩) (fun t _ => rfl) rfl) rfl rfl hcs.2.2.2.2
      · simp only [List.mem_cons, List.not_mem_nil, or_false] at hn
        rcases hn with hn | hn
        · subst hn; exact g108
        · subst hn; exact g109
      · rcases c_ixs hi with r | r | r | r | r | r | r | r | r | r | r | r | r | r | r | r | r | r <;> subst r <;> first | rfl | exact absurd (by simp) hn
    have hmo := cs.mo hdj hfrc hmo
    have hdj := dj_cv (S' := cSm S.u S.nc S.cl S.us S.w S.fm S.nf S.fa (va_up S.tn 1 ((S.tn 0 * 8 + 5) / 6 + 11)) (va_up S.tx 1 x104) S.rd S.rs S.ra S.ky) rfl rfl hdj
    refine lv_aload_n hx hb d_law_655 rfl (lv_at hl 1 rfl) ?_
    refine hm_calli hS hM hA (va_runV (As := []) (rest := [.int (nI (((S.tn 0) * 8 + 5) / 6 + 11))]) X (m_c_wrap l D k f101 h9 adM sk v c (S.tn 0) (fun j => (S.tx 0 j).toNatClampNeg) hmo hrl.t0.vn hrl.t0.le hxm hsm H.size) (hm_cwV hts me_GrantServerModel_wrap wl_GrantServerLaw_86 rfl rfl ⟨Nat.le_of_ble_eq_true rfl, Nat.le_of_ble_eq_true rfl⟩) (hm_preV hM hK hmo.1 rfl) rfl rfl hl.1 rfl (lv_room (Nat.le_of_ble_eq_true rfl)) d_law_656 ⟨(show C + 0 + 0 ≤ 600000 by omega), (show Sl + 0 + 0 ≤ 7302250 by omega)⟩) (fun r113 f111 H locs p112 hM hS => ?_)
    obtain ⟨x114, x115, rfl, h116, h117, h118, hmo, hfr119⟩ := p112
    have hcs := hcs.keep hdj hfr119
    refine lv_icmp_eq (tgt := 749) hx hb d_law_659 (by decide) (fun h120 => ?_) (fun h120 => ?_)
    · refine W.widen (k := C + 1) (n := Sl + 3) (by omega) (by omega) ?_
      exact next _ _ _ _ _ _ _ _ rfl ⟨hcs, hdj, hmo, (hrl.wrap hsm (o_out hrl.sk h105 h106 h107 h116 h117 h118))⟩ hM hS
    · exact absurd rfl h120
set_option maxHeartbeats 40000000 in
set_option maxRecDepth 100000 in
theorem lw_c14 {p : Program} {e : Env} {s : State} {m : MethodId} {below : List Frame} {meth : Method} {cd : Code} {l : Launch} {b L : Nat} {xs : Nat → Int32} {D : va_G} {k : Nat → ClassId} {A : Nat → Prop} {sA sV : Nat → Nat} {h9 : Nat} {adM : Nat → Nat} {Q : State → Prop} {sk : Int64}
    (X : CallFix p m cd code 4 s #[Value.ref b] TB R_GrantServerLaw) (hX : va_X b L xs s s.heap) (hbl : b < s.heap.size) (hbA : ¬ A b) (hK : hm_K D vwCl (tyL k) s) (hA : ∀ q, s.heap.size ≤ q → A q) (hZ : hm_Z sA sV A s s.heap)
    {f : hm} {a : cA} {S : cS} {sg : Nat → Nat → Nat} {v : Nat → Int32} {c : Nat → Nat → Int32} {B C Sl : Nat} {H : Heap} {locs : List Loc} {ls : Array Slot} (hB : B < 512) (hi : 4 + 6 * B + 6 ≤ L) (hL : L ≤ 3076) (hC : C ≤ 10000) (hSl : Sl ≤ 20000)
    (hI : lw_I k f a S h9 adM sk v c sg B) (hM : hm_W D vwCl A f H) (hS : va_S A s.heap H locs) (hl : lv_has ls 4 [(3, .int (nI (4 + 6 * B))), (2, .ref h9), (1, .ref (aF a 0)), (0, .ref b)])
    (next : ∀ (f' : hm) (a' : cA) (S' : cS) (sg' : Nat → Nat → Nat) (v' : Nat → Int32) (c' : Nat → Nat → Int32) (H' : Heap) (locs' : List Loc), aF a' 0 = aF a 0 → lw_I k f' a' S' h9 adM sk v' c' sg' (B + 1) → hm_W D vwCl A f' H' → va_S A s.heap H' locs' → W p l e room_1 s m #[Value.ref b] below meth cd H' locs' (C + 1) (Sl + 3) Q (F0 m 749 ls [])) :
    W p l e room_1 s m #[Value.ref b] below meth cd H locs C Sl Q (F0 m 664 ls []) := by
  obtain ⟨hcs, hdj, hmo, hrl⟩ := hI
  have hx := X.1; have hb := X.2.1; have hml := X.2.2.1; have hown := X.2.2.2.1; have hts := X.2.2.2.2
  obtain ⟨x1, ex1⟩ : ∃ z, xs (4 + 6 * B + 1) = z := ⟨_, rfl⟩
  obtain ⟨x2, ex2⟩ : ∃ z, xs (4 + 6 * B + 2) = z := ⟨_, rfl⟩
  obtain ⟨x3, ex3⟩ : ∃ z, xs (4 + 6 * B + 3) = z := ⟨_, rfl⟩
  obtain ⟨x4, ex4⟩ : ∃ z, xs (4 + 6 * B + 4) = z := ⟨_, rfl⟩
  obtain ⟨x5, ex5⟩ : ∃ z, xs (4 + 6 * B + 5) = z := ⟨_, rfl⟩
  refine lv_aload_n hx hb d_law_664 rfl (lv_at hl 2 rfl) ?_
  refine lv_aload_n hx hb d_law_665 rfl (lv_at hl 3 rfl) ?_
  refine lv_iload_n hx hb d_law_666 rfl (lv_at hl 0 rfl) ?_
  refine lv_iconst (v := 1) hx hb d_law_667 (by decide) ?_
  refine lv_iadd hx hb d_law_668 ?_
  refine hm_top (z := nI (4 + 6 * B + 1)) (nI_add _ 1) ?_
  refine va_sld hx hb hX hbl hbA hS (vp_in_nI (n := 4 + 6 * B + 1) (N := L) (by omega) (by omega)) d_law_669 ?_
  refine hm_top (z := xs (4 + 6 * B + 1)) (by rw [nI_clamp (by omega)]) ?_
  refine hm_top (z := x1) ex1 ?_
  by_cases hz : x1 < 0 ∨ 10000 < x1
  · refine hm_calli hS hM hA (va_runV (As := [.int x1]) (rest := []) X (c_tick_no l D k f (aF a 0) S.u (aF a) x1  hz H.size) (hm_cwV hts me_GrantServer_tick wl_GrantServerLaw_87 rfl rfl ⟨Nat.le_of_ble_eq_true rfl, Nat.le_of_ble_eq_true rfl⟩) (hm_preV hM hK (hcs.F 0 rfl) rfl) rfl rfl hl.1 rfl (lv_room (Nat.le_of_ble_eq_true rfl)) d_law_670 ⟨(show C + 0 ≤ 600000 by omega), (show Sl + 0 ≤ 7302250 by omega)⟩) (fun r103 f101 H locs p102 hM hS => ?_)
    obtain ⟨rfl, rfl⟩ := p102
    refine lv_aload_n hx hb d_law_673 rfl (lv_at hl 1 rfl) ?_
    refine lv_aload_n hx hb d_law_674 rfl (lv_at hl 3 rfl) ?_
    refine lv_iload_n hx hb d_law_675 rfl (lv_at hl 0 rfl) ?_
    refine lv_iconst (v := 1) hx hb d_law_676 (by decide) ?_
    refine lv_iadd hx hb d_law_677 ?_
    refine hm_top (z := nI (4 + 6 * B + 1)) (nI_add _ 1) ?_
    refine va_sld hx hb hX hbl hbA hS (vp_in_nI (n := 4 + 6 * B + 1) (N := L) (by omega) (by omega)) d_law_678 ?_
    refine hm_top (z := xs (4 + 6 * B + 1)) (by rw [nI_clamp (by omega)]) ?_
    refine hm_top (z := x1) ex1 ?_
    refine hm_calli hS hM hA (va_runV (As := [.int x1]) (rest := [.int 0]) X (m_c_tick l D k f h9 adM sk v c x1 hmo  H.size) (hm_cwV hts me_GrantServerModel_tick wl_GrantServerLaw_91 rfl rfl ⟨Nat.le_of_ble_eq_true rfl, Nat.le_of_ble_eq_true rfl⟩) (hm_preV hM hK hmo.1 rfl) rfl rfl hl.1 rfl (lv_room (Nat.le_of_ble_eq_true rfl)) d_law_679 ⟨(show C + 0 + 0 ≤ 600000 by omega), (show Sl + 0 + 0 ≤ 7302250 by omega)⟩) (fun r106 f104 H locs p105 hM hS => ?_)
    obtain ⟨rfl, hmo, hfr107⟩ := p105
    have hcs := hcs.keep hdj hfr107
    refine lv_icmp_eq (tgt := 749) hx hb d_law_682 (by decide) (fun h108 => ?_) (fun h108 => ?_)
    · refine W.widen (k := C + 1) (n := Sl + 3) (by omega) (by omega) ?_
      exact next _ _ _ _ _ _ _ _ rfl ⟨hcs, hdj, hmo, (by rw [m_tickV_no hz]; exact hrl.same)⟩ hM hS
    · exact absurd (m_tick_no hz).symm h108
  · refine hm_calli hS hM hA (va_runV (As := [.int x1]) (rest := []) X (c_tick l D k f (aF a 0) S.u (aF a) x1 (hcs.F 0 rfl) (fun z => hz (Or.inl z)) (fun z => hz (Or.inr z)) H.size) (hm_cwV hts me_GrantServer_tick wl_GrantServerLaw_87 rfl rfl ⟨Nat.le_of_ble_eq_true rfl, Nat.le_of_ble_eq_true rfl⟩) (hm_preV hM hK (hcs.F 0 rfl) rfl) rfl rfl hl.1 rfl (lv_room (Nat.le_of_ble_eq_true rfl)) d_law_670 ⟨(show C + 0 ≤ 600000 by omega), (show Sl + 0 ≤ 7302250 by omega)⟩) (fun r103 f101 H locs p102 hM hS => ?_)
    obtain ⟨rfl, g104, hfr105⟩ := p102
    have hfrc : ∀ (q : Nat) (x : va_E), (∀ n, n ∈ [((0, 0, 0) : cX)] → c_ok S n → q ≠ a.A n) → f q = some x → f101 q = some x := fun zq zx hh hq => hfr105 zq zx (hh (0, 0, 0) (by simp) ⟨rfl, rfl⟩) hq
    have hcs : cs k f101 a (cSm (upd S.u 15 (S.u 15 + x1)) S.nc S.cl S.us S.w S.fm S.nf S.fa S.tn S.tx S.rd S.rs S.ra S.ky) := by
      refine hcs.up [((0, 0, 0) : cX)] (fun n hn hok => ?_) hfrc (c_same (fun i hi hn => ?_) (fun s i _ _ _ => ⟨rfl, rfl⟩) (fun t _ => rfl) rfl) rfl rfl hcs.2.2.2.2
      · simp only [List.mem_cons, List.not_mem_nil, or_false] at hn
        rcases hn with hn
        · subst hn; exact g104
      · rcases c_ixs hi with r | r | r | r | r | r | r | r | r | r | r | r | r | r | r | r | r | r <;> subst r <;> first | rfl | exact absurd (by simp) hn
    have hmo := cs.mo hdj hfrc hmo
    have hdj := dj_cv (S' := cSm (upd S.u 15 (S.u 15 + x1)) S.nc S.cl S.us S.w S.fm S.nf S.fa S.tn S.tx S.rd S.rs S.ra S.ky) rfl rfl hdj
    refine lv_aload_n hx hb d_law_673 rfl (lv_at hl 1 rfl) ?_
    refine lv_aload_n hx hb d_law_674 rfl (lv_at hl 3 rfl) ?_
    refine lv_iload_n hx hb d_law_675 rfl (lv_at hl 0 rfl) ?_
    refine lv_iconst (v := 1) hx hb d_law_676 (by decide) ?_
    refine lv_iadd hx hb d_law_677 ?_
    refine hm_top (z := nI (4 + 6 * B + 1)) (nI_add _ 1) ?_
    refine va_sld hx hb hX hbl hbA hS (vp_in_nI (n := 4 + 6 * B + 1) (N := L) (by omega) (by omega)) d_law_678 ?_
    refine hm_top (z := xs (4 + 6 * B + 1)) (by rw [nI_clamp (by omega)]) ?_
    refine hm_top (z := x1) ex1 ?_
    refine hm_calli hS hM hA (va_runV (As := [.int x1]) (rest := [.int 1]) X (m_c_tick l D k f101 h9 adM sk v c x1 hmo  H.size) (hm_cwV hts me_GrantServerModel_tick wl_GrantServerLaw_91 rfl rfl ⟨Nat.le_of_ble_eq_true rfl, Nat.le_of_ble_eq_true rfl⟩) (hm_preV hM hK hmo.1 rfl) rfl rfl hl.1 rfl (lv_room (Nat.le_of_ble_eq_true rfl)) d_law_679 ⟨(show C + 0 + 0 ≤ 600000 by omega), (show Sl + 0 + 0 ≤ 7302250 by omega)⟩) (fun r108 f106 H locs p107 hM hS => ?_)
    obtain ⟨rfl, hmo, hfr109⟩ := p107
    have hcs := hcs.keep hdj hfr109
    refine lv_icmp_eq (tgt := 749) hx hb d_law_682 (by decide) (fun h110 => ?_) (fun h110 => ?_)
    · refine W.widen (k := C + 1) (n := Sl + 3) (by omega) (by omega) ?_
      exact next _ _ _ _ _ _ _ _ rfl ⟨hcs, hdj, hmo, (hrl.tick (fun z => hz (Or.inl z)) (fun z => hz (Or.inr z)))⟩ hM hS
    · exact absurd (m_tick_yes hz).symm h110
set_option maxHeartbeats 40000000 in
set_option maxRecDepth 100000 in
theorem lw_c15 {p : Program} {e : Env} {s : State} {m : MethodId} {below : List Frame} {meth : Method} {cd : Code} {l : Launch} {b L : Nat} {xs : Nat → Int32} {D : va_G} {k : Nat → ClassId} {A : Nat → Prop} {sA sV : Nat → Nat} {h9 : Nat} {adM : Nat → Nat} {Q : State → Prop} {sk : Int64}
    (X : CallFix p m cd code 4 s #[Value.ref b] TB R_GrantServerLaw) (hX : va_X b L xs s s.heap) (hbl : b < s.heap.size) (hbA : ¬ A b) (hK : hm_K D vwCl (tyL k) s) (hA : ∀ q, s.heap.size ≤ q → A q) (hZ : hm_Z sA sV A s s.heap)
    {f : hm} {a : cA} {S : cS} {sg : Nat → Nat → Nat} {v : Nat → Int32} {c : Nat → Nat → Int32} {B C Sl : Nat} {H : Heap} {locs : List Loc} {ls : Array Slot} (hB : B < 512) (hi : 4 + 6 * B + 6 ≤ L) (hL : L ≤ 3076) (hC : C ≤ 10000) (hSl : Sl ≤ 20000)
    (hI : lw_I k f a S h9 adM sk v c sg B) (hM : hm_W D vwCl A f H) (hS : va_S A s.heap H locs) (hl : lv_has ls 4 [(3, .int (nI (4 + 6 * B))), (2, .ref h9), (1, .ref (aF a 0)), (0, .ref b)])
    (next : ∀ (f' : hm) (a' : cA) (S' : cS) (sg' : Nat → Nat → Nat) (v' : Nat → Int32) (c' : Nat → Nat → Int32) (H' : Heap) (locs' : List Loc), aF a' 0 = aF a 0 → lw_I k f' a' S' h9 adM sk v' c' sg' (B + 1) → hm_W D vwCl A f' H' → va_S A s.heap H' locs' → W p l e room_1 s m #[Value.ref b] below meth cd H' locs' (C + 1) (Sl + 3) Q (F0 m 749 ls [])) :
    W p l e room_1 s m #[Value.ref b] below meth cd H locs C Sl Q (F0 m 687 ls []) := by
  obtain ⟨hcs, hdj, hmo, hrl⟩ := hI
  have hx := X.1; have hb := X.2.1; have hml := X.2.2.1; have hown := X.2.2.2.1; have hts := X.2.2.2.2
  obtain ⟨x1, ex1⟩ : ∃ z, xs (4 + 6 * B + 1) = z := ⟨_, rfl⟩
  obtain ⟨x2, ex2⟩ : ∃ z, xs (4 + 6 * B + 2) = z := ⟨_, rfl⟩
  obtain ⟨x3, ex3⟩ : ∃ z, xs (4 + 6 * B + 3) = z := ⟨_, rfl⟩
  obtain ⟨x4, ex4⟩ : ∃ z, xs (4 + 6 * B + 4) = z := ⟨_, rfl⟩
  obtain ⟨x5, ex5⟩ : ∃ z, xs (4 + 6 * B + 5) = z := ⟨_, rfl⟩
  refine lv_aload_n hx hb d_law_687 rfl (lv_at hl 2 rfl) ?_
  refine hm_calli hS hM hA (va_runV (As := []) (rest := []) X (c_sweep l D k f (aF a 0) S.u (aF a) S.us a.g S.w (cm a S) (hcs.F 0 rfl) (hcs.F 4 rfl) (hcs.F 14 rfl) (hcs.F 5 rfl) (hcs.F 15 rfl) (hcs.F 6 rfl) (hcs.F 16 rfl) hcs.ap (o_pm_le hrl.s0.pm) (o_pm_le hrl.s1.pm) (o_pm_le hrl.s2.pm) (hcs.rows (s := 0) (u := 16) (by decide) (Nat.le_refl _)) (hcs.rows (s := 1) (u := 24) (by decide) (Nat.le_refl _)) (hcs.rows (s := 2) (u := 24) (by decide) (Nat.le_refl _)) H.size) (hm_cwV hts me_GrantServer_sweep wl_GrantServerLaw_92 rfl rfl ⟨Nat.le_of_ble_eq_true rfl, Nat.le_of_ble_eq_true rfl⟩) (hm_preV hM hK (hcs.F 0 rfl) rfl) rfl rfl hl.1 rfl (lv_room (Nat.le_of_ble_eq_true rfl)) d_law_688 ⟨(show C + 0 ≤ 600000 by omega), (show Sl + 0 ≤ 7302250 by omega)⟩) (fun r103 f101 H locs p102 hM hS => ?_)
  obtain ⟨x104, x105, x106, x107, x108, x109, rfl, h110, h111, h112, h113, h114, h115, h116, h117, h118, g119, g120, g121, g122, g123, g124, hfr125⟩ := p102
  have hfrc : ∀ (q : Nat) (x : va_E), (∀ n, n ∈ [((0, 4, 0) : cX), ((0, 5, 0) : cX), ((0, 6, 0) : cX), ((0, 14, 0) : cX), ((0, 15, 0) : cX), ((0, 16, 0) : cX)] → c_ok S n → q ≠ a.A n) → f q = some x → f101 q = some x := fun zq zx hh hq => hfr125 zq zx (hh (0, 4, 0) (by simp) ⟨rfl, rfl⟩) (hh (0, 5, 0) (by simp) ⟨rfl, rfl⟩) (hh (0, 6, 0) (by simp) ⟨rfl, rfl⟩) (hh (0, 14, 0) (by simp) ⟨rfl, rfl⟩) (hh (0, 15, 0) (by simp) ⟨rfl, rfl⟩) (hh (0, 16, 0) (by simp) ⟨rfl, rfl⟩) hq
  have hsw := hrl.sweep h110 h111 h112 h113 h114 h115 h116 h117 h118
  have hcs9 := hcs.sweep h111 h114 h117 g119 g120 g121 g122 g123 g124 (fun zq zx hh hq => hfr125 zq zx (hh (0, 4, 0) (by simp) ⟨rfl, rfl⟩) (hh (0, 5, 0) (by simp) ⟨rfl, rfl⟩) (hh (0, 6, 0) (by simp) ⟨rfl, rfl⟩) (hh (0, 14, 0) (by simp) ⟨rfl, rfl⟩) (hh (0, 15, 0) (by simp) ⟨rfl, rfl⟩) (hh (0, 16, 0) (by simp) ⟨rfl, rfl⟩) hq)
  have hmo := cs.mo hdj hfrc hmo
  have hdj := dj_S (g := fun s i => a.g s (o_pp x107 x108 x109 s i)) (cn := a.cn) (us := o_pk x104 x105 x106) (w := fun s i => S.w s (o_pp x107 x108 x109 s i)) (fm := fun s i => S.fm s (o_pp x107 x108 x109 s i)) h111 h114 h117 hdj
  have hcs := hcs9
  refine lv_aload_n hx hb d_law_691 rfl (lv_at hl 1 rfl) ?_
  refine hm_calli hS hM hA (va_runV (As := []) (rest := [.int (nI (S.us 0 - x104) + nI (S.us 1 - x105) + nI (S.us 2 - x106))]) X (m_c_sweep l D k f101 h9 adM sk v c  hmo  H.size) (hm_cwV hts me_GrantServerModel_sweep wl_GrantServerLaw_95 rfl rfl ⟨Nat.le_of_ble_eq_true rfl, Nat.le_of_ble_eq_true rfl⟩) (hm_preV hM hK hmo.1 rfl) rfl rfl hl.1 rfl (lv_room (Nat.le_of_ble_eq_true rfl)) d_law_692 ⟨(show C + 0 + 0 ≤ 600000 by omega), (show Sl + 0 + 0 ≤ 7302250 by omega)⟩) (fun r128 f126 H locs p127 hM hS => ?_)
  obtain ⟨rfl, hmo, hfr129⟩ := p127
  have hcs := hcs.keep hdj hfr129
  refine lv_icmp_eq (tgt := 749) hx hb d_law_695 (by decide) (fun h130 => ?_) (fun h130 => ?_)
  · refine W.widen (k := C + 1) (n := Sl + 3) (by omega) (by omega) ?_
    exact next _ _ _ _ _ _ _ _ (congrFun aF_sw 0) ⟨hcs, hdj, hmo, hsw.1⟩ hM hS
  · exact absurd hsw.2 h130
set_option maxHeartbeats 40000000 in
set_option maxRecDepth 100000 in
theorem lw_c16 {p : Program} {e : Env} {s : State} {m : MethodId} {below : List Frame} {meth : Method} {cd : Code} {l : Launch} {b L : Nat} {xs : Nat → Int32} {D : va_G} {k : Nat → ClassId} {A : Nat → Prop} {sA sV : Nat → Nat} {h9 : Nat} {adM : Nat → Nat} {Q : State → Prop} {sk : Int64}
    (X : CallFix p m cd code 4 s #[Value.ref b] TB R_GrantServerLaw) (hX : va_X b L xs s s.heap) (hbl : b < s.heap.size) (hbA : ¬ A b) (hK : hm_K D vwCl (tyL k) s) (hA : ∀ q, s.heap.size ≤ q → A q) (hZ : hm_Z sA sV A s s.heap)
    {f : hm} {a : cA} {S : cS} {sg : Nat → Nat → Nat} {v : Nat → Int32} {c : Nat → Nat → Int32} {B C Sl : Nat} {H : Heap} {locs : List Loc} {ls : Array Slot} (hB : B < 512) (hi : 4 + 6 * B + 6 ≤ L) (hL : L ≤ 3076) (hC : C ≤ 10000) (hSl : Sl ≤ 20000)
    (hI : lw_I k f a S h9 adM sk v c sg B) (hM : hm_W D vwCl A f H) (hS : va_S A s.heap H locs) (hl : lv_has ls 4 [(3, .int (nI (4 + 6 * B))), (2, .ref h9), (1, .ref (aF a 0)), (0, .ref b)])
    (next : ∀ (f' : hm) (a' : cA) (S' : cS) (sg' : Nat → Nat → Nat) (v' : Nat → Int32) (c' : Nat → Nat → Int32) (H' : Heap) (locs' : List Loc), aF a' 0 = aF a 0 → lw_I k f' a' S' h9 adM sk v' c' sg' (B + 1) → hm_W D vwCl A f' H' → va_S A s.heap H' locs' → W p l e room_1 s m #[Value.ref b] below meth cd H' locs' (C + 1) (Sl + 3) Q (F0 m 749 ls [])) :
    W p l e room_1 s m #[Value.ref b] below meth cd H locs C Sl Q (F0 m 700 ls []) := by
  obtain ⟨hcs, hdj, hmo, hrl⟩ := hI
  have hx := X.1; have hb := X.2.1; have hml := X.2.2.1; have hown := X.2.2.2.1; have hts := X.2.2.2.2
  obtain ⟨x1, ex1⟩ : ∃ z, xs (4 + 6 * B + 1) = z := ⟨_, rfl⟩
  obtain ⟨x2, ex2⟩ : ∃ z, xs (4 + 6 * B + 2) = z := ⟨_, rfl⟩
  obtain ⟨x3, ex3⟩ : ∃ z, xs (4 + 6 * B + 3) = z := ⟨_, rfl⟩
  obtain ⟨x4, ex4⟩ : ∃ z, xs (4 + 6 * B + 4) = z := ⟨_, rfl⟩
  obtain ⟨x5, ex5⟩ : ∃ z, xs (4 + 6 * B + 5) = z := ⟨_, rfl⟩
  refine lv_aload_n hx hb d_law_700 rfl (lv_at hl 2 rfl) ?_
  refine lv_aload_n hx hb d_law_701 rfl (lv_at hl 3 rfl) ?_
  refine lv_iload_n hx hb d_law_702 rfl (lv_at hl 0 rfl) ?_
  refine lv_iconst (v := 1) hx hb d_law_703 (by decide) ?_
  refine lv_iadd hx hb d_law_704 ?_
  refine hm_top (z := nI (4 + 6 * B + 1)) (nI_add _ 1) ?_
  refine va_sld hx hb hX hbl hbA hS (vp_in_nI (n := 4 + 6 * B + 1) (N := L) (by omega) (by omega)) d_law_705 ?_
  refine hm_top (z := xs (4 + 6 * B + 1)) (by rw [nI_clamp (by omega)]) ?_
  refine hm_top (z := x1) ex1 ?_
  refine lv_aload_n hx hb d_law_706 rfl (lv_at hl 3 rfl) ?_
  refine lv_iload_n hx hb d_law_707 rfl (lv_at hl 0 rfl) ?_
  refine lv_iconst (v := 2) hx hb d_law_708 (by decide) ?_
  refine lv_iadd hx hb d_law_709 ?_
  refine hm_top (z := nI (4 + 6 * B + 2)) (nI_add _ 2) ?_
  refine va_sld hx hb hX hbl hbA hS (vp_in_nI (n := 4 + 6 * B + 2) (N := L) (by omega) (by omega)) d_law_710 ?_
  refine hm_top (z := xs (4 + 6 * B + 2)) (by rw [nI_clamp (by omega)]) ?_
  refine hm_top (z := x2) ex2 ?_
  refine lv_if_eq (tgt := 718) hx hb d_law_711 (by decide) (fun h101 => ?_) (fun h101 => ?_)
  · refine lv_iconst (v := 0) hx hb d_law_718 (by decide) ?_
    by_cases hk0 : x1 = 0
    · subst hk0
      refine hm_calli hS hM hA (va_runV (As := [.int 0, .int 0]) (rest := []) X (c_count_rows0 l D k f (aF a 0) S.u (aF a) S.us a.g S.w (cm a S) 0 0 (hcs.F 0 rfl) (hcs.F 4 rfl) (hcs.F 14 rfl) rfl rfl H.size) (hm_cwV hts me_GrantServer_count wl_GrantServerLaw_96 rfl rfl ⟨Nat.le_of_ble_eq_true rfl, Nat.le_of_ble_eq_true rfl⟩) (hm_preV hM hK (hcs.F 0 rfl) rfl) rfl rfl hl.1 rfl (lv_room (Nat.le_of_ble_eq_true rfl)) d_law_719 ⟨(show C + 0 ≤ 600000 by omega), (show Sl + 0 ≤ 7302250 by omega)⟩) (fun r104 f102 H locs p103 hM hS => ?_)
      obtain ⟨rfl, rfl⟩ := p103
      refine lv_aload_n hx hb d_law_722 rfl (lv_at hl 1 rfl) ?_
      refine lv_aload_n hx hb d_law_723 rfl (lv_at hl 3 rfl) ?_
      refine lv_iload_n hx hb d_law_724 rfl (lv_at hl 0 rfl) ?_
      refine lv_iconst (v := 1) hx hb d_law_725 (by decide) ?_
      refine lv_iadd hx hb d_law_726 ?_
      refine hm_top (z := nI (4 + 6 * B + 1)) (nI_add _ 1) ?_
      refine va_sld hx hb hX hbl hbA hS (vp_in_nI (n := 4 + 6 * B + 1) (N := L) (by omega) (by omega)) d_law_727 ?_
      refine hm_top (z := xs (4 + 6 * B + 1)) (by rw [nI_clamp (by omega)]) ?_
      refine hm_top (z := 0) ex1 ?_
      refine lv_aload_n hx hb d_law_728 rfl (lv_at hl 3 rfl) ?_
      refine lv_iload_n hx hb d_law_729 rfl (lv_at hl 0 rfl) ?_
      refine lv_iconst (v := 2) hx hb d_law_730 (by decide) ?_
      refine lv_iadd hx hb d_law_731 ?_
      refine hm_top (z := nI (4 + 6 * B + 2)) (nI_add _ 2) ?_
      refine va_sld hx hb hX hbl hbA hS (vp_in_nI (n := 4 + 6 * B + 2) (N := L) (by omega) (by omega)) d_law_732 ?_
      refine hm_top (z := xs (4 + 6 * B + 2)) (by rw [nI_clamp (by omega)]) ?_
      refine hm_top (z := x2) ex2 ?_
      refine lv_if_eq (tgt := 740) hx hb d_law_733 (by decide) (fun h105 => ?_) (fun h105 => ?_)
      · refine lv_iconst (v := 0) hx hb d_law_740 (by decide) ?_
        refine hm_calli hS hM hA (va_runV (As := [.int 0, .int 0]) (rest := [.int (nI (S.us 0))]) X (m_c_count l D k f h9 adM sk v c 0 0 hmo (by decide) (by decide) hrl.fm H.size) (hm_cwV hts me_GrantServerModel_count wl_GrantServerLaw_100 rfl rfl ⟨Nat.le_of_ble_eq_true rfl, Nat.le_of_ble_eq_true rfl⟩) (hm_preV hM hK hmo.1 rfl) rfl rfl hl.1 rfl (lv_room (Nat.le_of_ble_eq_true rfl)) d_law_741 ⟨(show C + 0 + 0 ≤ 600000 by omega), (show Sl + 0 + 0 ≤ 7302250 by omega)⟩) (fun r108 f106 H locs p107 hM hS => ?_)
        obtain ⟨rfl, rfl⟩ := p107
        refine lv_icmp_eq (tgt := 749) hx hb d_law_744 (by decide) (fun h109 => ?_) (fun h109 => ?_)
        · refine W.widen (k := C + 1) (n := Sl + 3) (by omega) (by omega) ?_
          exact next _ _ _ _ _ _ _ _ rfl ⟨hcs, hdj, hmo, hrl.same⟩ hM hS
        · exact absurd (congrArg nI (hrl.cn0 (s := 0) (by decide)).symm) h109
      · exact absurd h101 h105
    · by_cases hk1 : x1 = 1
      · subst hk1
        refine hm_calli hS hM hA (va_runV (As := [.int 1, .int 0]) (rest := []) X (c_count_rows1 l D k f (aF a 0) S.u (aF a) S.us a.g S.w (cm a S) 1 0 (hcs.F 0 rfl) (hcs.F 5 rfl) (hcs.F 15 rfl) rfl rfl H.size) (hm_cwV hts me_GrantServer_count wl_GrantServerLaw_96 rfl rfl ⟨Nat.le_of_ble_eq_true rfl, Nat.le_of_ble_eq_true rfl⟩) (hm_preV hM hK (hcs.F 0 rfl) rfl) rfl rfl hl.1 rfl (lv_room (Nat.le_of_ble_eq_true rfl)) d_law_719 ⟨(show C + 0 ≤ 600000 by omega), (show Sl + 0 ≤ 7302250 by omega)⟩) (fun r104 f102 H locs p103 hM hS => ?_)
        obtain ⟨rfl, rfl⟩ := p103
        refine lv_aload_n hx hb d_law_722 rfl (lv_at hl 1 rfl) ?_
        refine lv_aload_n hx hb d_law_723 rfl (lv_at hl 3 rfl) ?_
        refine lv_iload_n hx hb d_law_724 rfl (lv_at hl 0 rfl) ?_
        refine lv_iconst (v := 1) hx hb d_law_725 (by decide) ?_
        refine lv_iadd hx hb d_law_726 ?_
        refine hm_top (z := nI (4 + 6 * B + 1)) (nI_add _ 1) ?_
        refine va_sld hx hb hX hbl hbA hS (vp_in_nI (n := 4 + 6 * B + 1) (N := L) (by omega) (by omega)) d_law_727 ?_
        refine hm_top (z := xs (4 + 6 * B + 1)) (by rw [nI_clamp (by omega)]) ?_
        refine hm_top (z := 1) ex1 ?_
        refine lv_aload_n hx hb d_law_728 rfl (lv_at hl 3 rfl) ?_
        refine lv_iload_n hx hb d_law_729 rfl (lv_at hl 0 rfl) ?_
        refine lv_iconst (v := 2) hx hb d_law_730 (by decide) ?_
        refine lv_iadd hx hb d_law_731 ?_
        refine hm_top (z := nI (4 + 6 * B + 2)) (nI_add _ 2) ?_
        refine va_sld hx hb hX hbl hbA hS (vp_in_nI (n := 4 + 6 * B + 2) (N := L) (by omega) (by omega)) d_law_732 ?_
        refine hm_top (z := xs (4 + 6 * B + 2)) (by rw [nI_clamp (by omega)]) ?_
        refine hm_top (z := x2) ex2 ?_
        refine lv_if_eq (tgt := 740) hx hb d_law_733 (by decide) (fun h105 => ?_) (fun h105 => ?_)
        · refine lv_iconst (v := 0) hx hb d_law_740 (by decide) ?_
          refine hm_calli hS hM hA (va_runV (As := [.int 1, .int 0]) (rest := [.int (nI (S.us 1))]) X (m_c_count l D k f h9 adM sk v c 1 0 hmo (by decide) (by decide) hrl.fm H.size) (hm_cwV hts me_GrantServerModel_count wl_GrantServerLaw_100 rfl rfl ⟨Nat.le_of_ble_eq_true rfl, Nat.le_of_ble_eq_true rfl⟩) (hm_preV hM hK hmo.1 rfl) rfl rfl hl.1 rfl (lv_room (Nat.le_of_ble_eq_true rfl)) d_law_741 ⟨(show C + 0 + 0 ≤ 600000 by omega), (show Sl + 0 + 0 ≤ 7302250 by omega)⟩) (fun r108 f106 H locs p107 hM hS => ?_)
          obtain ⟨rfl, rfl⟩ := p107
          refine lv_icmp_eq (tgt := 749) hx hb d_law_744 (by decide) (fun h109 => ?_) (fun h109 => ?_)
          · refine W.widen (k := C + 1) (n := Sl + 3) (by omega) (by omega) ?_
            exact next _ _ _ _ _ _ _ _ rfl ⟨hcs, hdj, hmo, hrl.same⟩ hM hS
          · exact absurd (congrArg nI (hrl.cn0 (s := 1) (by decide)).symm) h109
        · exact absurd h101 h105
      · by_cases hk2 : x1 = 2
        · subst hk2
          refine hm_calli hS hM hA (va_runV (As := [.int 2, .int 0]) (rest := []) X (c_count_rows2 l D k f (aF a 0) S.u (aF a) S.us a.g S.w (cm a S) 2 0 (hcs.F 0 rfl) (hcs.F 6 rfl) (hcs.F 16 rfl) rfl rfl H.size) (hm_cwV hts me_GrantServer_count wl_GrantServerLaw_96 rfl rfl ⟨Nat.le_of_ble_eq_true rfl, Nat.le_of_ble_eq_true rfl⟩) (hm_preV hM hK (hcs.F 0 rfl) rfl) rfl rfl hl.1 rfl (lv_room (Nat.le_of_ble_eq_true rfl)) d_law_719 ⟨(show C + 0 ≤ 600000 by omega), (show Sl + 0 ≤ 7302250 by omega)⟩) (fun r104 f102 H locs p103 hM hS => ?_)
          obtain ⟨rfl, rfl⟩ := p103
          refine lv_aload_n hx hb d_law_722 rfl (lv_at hl 1 rfl) ?_
          refine lv_aload_n hx hb d_law_723 rfl (lv_at hl 3 rfl) ?_
          refine lv_iload_n hx hb d_law_724 rfl (lv_at hl 0 rfl) ?_
          refine lv_iconst (v := 1) hx hb d_law_725 (by decide) ?_
          refine lv_iadd hx hb d_law_726 ?_
          refine hm_top (z := nI (4 + 6 * B + 1)) (nI_add _ 1) ?_
          refine va_sld hx hb hX hbl hbA hS (vp_in_nI (n := 4 + 6 * B + 1) (N := L) (by omega) (by omega)) d_law_727 ?_
          refine hm_top (z := xs (4 + 6 * B + 1)) (by rw [nI_clamp (by omega)]) ?_
          refine hm_top (z := 2) ex1 ?_
          refine lv_aload_n hx hb d_law_728 rfl (lv_at hl 3 rfl) ?_
          refine lv_iload_n hx hb d_law_729 rfl (lv_at hl 0 rfl) ?_
          refine lv_iconst (v := 2) hx hb d_law_730 (by decide) ?_
          refine lv_iadd hx hb d_law_731 ?_
          refine hm_top (z := nI (4 + 6 * B + 2)) (nI_add _ 2) ?_
          refine va_sld hx hb hX hbl hbA hS (vp_in_nI (n := 4 + 6 * B + 2) (N := L) (by omega) (by omega)) d_law_732 ?_
          refine hm_top (z := xs (4 + 6 * B + 2)) (by rw [nI_clamp (by omega)]) ?_
          refine hm_top (z := x2) ex2 ?_
          refine lv_if_eq (tgt := 740) hx hb d_law_733 (by decide) (fun h105 => ?_) (fun h105 => ?_)
          · refine lv_iconst (v := 0) hx hb d_law_740 (by decide) ?_
            refine hm_calli hS hM hA (va_runV (As := [.int 2, .int 0]) (rest := [.int (nI (S.us 2))]) X (m_c_count l D k f h9 adM sk v c 2 0 hmo (by decide) (by decide) hrl.fm H.size) (hm_cwV hts me_GrantServerModel_count wl_GrantServerLaw_100 rfl rfl ⟨Nat.le_of_ble_eq_true rfl, Nat.le_of_ble_eq_true rfl⟩) (hm_preV hM hK hmo.1 rfl) rfl rfl hl.1 rfl (lv_room (Nat.le_of_ble_eq_true rfl)) d_law_741 ⟨(show C + 0 + 0 ≤ 600000 by omega), (show Sl + 0 + 0 ≤ 7302250 by omega)⟩) (fun r108 f106 H locs p107 hM hS => ?_)
            obtain ⟨rfl, rfl⟩ := p107
            refine lv_icmp_eq (tgt := 749) hx hb d_law_744 (by decide) (fun h109 => ?_) (fun h109 => ?_)
            · refine W.widen (k := C + 1) (n := Sl + 3) (by omega) (by omega) ?_
              exact next _ _ _ _ _ _ _ _ rfl ⟨hcs, hdj, hmo, hrl.same⟩ hM hS
            · exact absurd (congrArg nI (hrl.cn0 (s := 2) (by decide)).symm) h109
          · exact absurd h101 h105
        · refine hm_calli hS hM hA (va_runV (As := [.int x1, .int 0]) (rest := []) X (c_count_out l D k f (aF a 0) S.u (aF a) x1 0 (hcs.F 0 rfl) ⟨hk0, hk1, hk2⟩ H.size) (hm_cwV hts me_GrantServer_count wl_GrantServerLaw_96 rfl rfl ⟨Nat.le_of_ble_eq_true rfl, Nat.le_of_ble_eq_true rfl⟩) (hm_preV hM hK (hcs.F 0 rfl) rfl) rfl rfl hl.1 rfl (lv_room (Nat.le_of_ble_eq_true rfl)) d_law_719 ⟨(show C + 0 ≤ 600000 by omega), (show Sl + 0 ≤ 7302250 by omega)⟩) (fun r104 f102 H locs p103 hM hS => ?_)
          obtain ⟨rfl, rfl⟩ := p103
          refine lv_aload_n hx hb d_law_722 rfl (lv_at hl 1 rfl) ?_
          refine lv_aload_n hx hb d_law_723 rfl (lv_at hl 3 rfl) ?_
          refine lv_iload_n hx hb d_law_724 rfl (lv_at hl 0 rfl) ?_
          refine lv_iconst (v := 1) hx hb d_law_725 (by decide) ?_
          refine lv_iadd hx hb d_law_726 ?_
          refine hm_top (z := nI (4 + 6 * B + 1)) (nI_add _ 1) ?_
          refine va_sld hx hb hX hbl hbA hS (vp_in_nI (n := 4 + 6 * B + 1) (N := L) (by omega) (by omega)) d_law_727 ?_
          refine hm_top (z := xs (4 + 6 * B + 1)) (by rw [nI_clamp (by omega)]) ?_
          refine hm_top (z := x1) ex1 ?_
          refine lv_aload_n hx hb d_law_728 rfl (lv_at hl 3 rfl) ?_
          refine lv_iload_n hx hb d_law_729 rfl (lv_at hl 0 rfl) ?_
          refine lv_iconst (v := 2) hx hb d_law_730 (by decide) ?_
          refine lv_iadd hx hb d_law_731 ?_
          refine hm_top (z := nI (4 + 6 * B + 2)) (nI_add _ 2) ?_
          refine va_sld hx hb hX hbl hbA hS (vp_in_nI (n := 4 + 6 * B + 2) (N := L) (by omega) (by omega)) d_law_732 ?_
          refine hm_top (z := xs (4 + 6 * B + 2)) (by rw [nI_clamp (by omega)]) ?_
          refine hm_top (z := x2) ex2 ?_
          refine lv_if_eq (tgt := 740) hx hb d_law_733 (by decide) (fun h105 => ?_) (fun h105 => ?_)
          · refine lv_iconst (v := 0) hx hb d_law_740 (by decide) ?_
            refine hm_calli hS hM hA (va_runV (As := [.int x1, .int 0]) (rest := [.int (-1)]) X (m_c_count_no l D k f h9 adM sk v c x1 0 hmo (lw_out hk0 hk1 hk2) H.size) (hm_cwV hts me_GrantServerModel_count wl_GrantServerLaw_100 rfl rfl ⟨Nat.le_of_ble_eq_true rfl, Nat.le_of_ble_eq_true rfl⟩) (hm_preV hM hK hmo.1 rfl) rfl rfl hl.1 rfl (lv_room (Nat.le_of_ble_eq_true rfl)) d_law_741 ⟨(show C + 0 + 0 ≤ 600000 by omega), (show Sl + 0 + 0 ≤ 7302250 by omega)⟩) (fun r108 f106 H locs p107 hM hS => ?_)
            obtain ⟨rfl, rfl⟩ := p107
            refine lv_icmp_eq (tgt := 749) hx hb d_law_744 (by decide) (fun h109 => ?_) (fun h109 => ?_)
            · refine W.widen (k := C + 1) (n := Sl + 3) (by omega) (by omega) ?_
              exact next _ _ _ _ _ _ _ _ rfl ⟨hcs, hdj, hmo, hrl.same⟩ hM hS
            · exact absurd rfl h109
          · exact absurd h101 h105
  · refine lv_iconst (v := 1) hx hb d_law_714 (by decide) ?_
    refine lv_goto (tgt := 719) hx hb d_law_715 (by decide) ?_
    by_cases hk0 : x1 = 0
    · subst hk0
      refine hm_calli hS hM hA (va_runV (As := [.int 0, .int 1]) (rest := []) X (c_count_act0 l D k f (aF a 0) S.u (aF a) S.us a.g S.w (cm a S) (o_fv S 0 0) (o_fv S 1 0) (o_fv S 2 0) 0 1 (hcs.F 0 rfl) (hcs.F 4 rfl) (hcs.F 14 rfl) rfl (by decide) (o_pm_le hrl.s0.pm) (hcs.rows (by decide) (o_pm_le hrl.s0.pm)) (hcs.fam (by decide) (o_pm_le hrl.s0.pm)) H.size) (hm_cwV hts me_GrantServer_count wl_GrantServerLaw_96 rfl rfl ⟨Nat.le_of_ble_eq_true rfl, Nat.le_of_ble_eq_true rfl⟩) (hm_preV hM hK (hcs.F 0 rfl) rfl) rfl rfl hl.1 rfl (lv_room (Nat.le_of_ble_eq_true rfl)) d_law_719 ⟨(show C + 0 ≤ 600000 by omega), (show Sl + 0 ≤ 7302250 by omega)⟩) (fun r104 f102 H locs p103 hM hS => ?_)
      obtain ⟨rfl, rfl⟩ := p103
      refine lv_aload_n hx hb d_law_722 rfl (lv_at hl 1 rfl) ?_
      refine lv_aload_n hx hb d_law_723 rfl (lv_at hl 3 rfl) ?_
      refine lv_iload_n hx hb d_law_724 rfl (lv_at hl 0 rfl) ?_
      refine lv_iconst (v := 1) hx hb d_law_725 (by decide) ?_
      refine lv_iadd hx hb d_law_726 ?_
      refine hm_top (z := nI (4 + 6 * B + 1)) (nI_add _ 1) ?_
      refine va_sld hx hb hX hbl hbA hS (vp_in_nI (n := 4 + 6 * B + 1) (N := L) (by omega) (by omega)) d_law_727 ?_
      refine hm_top (z := xs (4 + 6 * B + 1)) (by rw [nI_clamp (by omega)]) ?_
      refine hm_top (z := 0) ex1 ?_
      refine lv_aload_n hx hb d_law_728 rfl (lv_at hl 3 rfl) ?_
      refine lv_iload_n hx hb d_law_729 rfl (lv_at hl 0 rfl) ?_
      refine lv_iconst (v := 2) hx hb d_law_730 (by decide) ?_
      refine lv_iadd hx hb d_law_731 ?_
      refine hm_top (z := nI (4 + 6 * B + 2)) (nI_add _ 2) ?_
      refine va_sld hx hb hX hbl hbA hS (vp_in_nI (n := 4 + 6 * B + 2) (N := L) (by omega) (by omega)) d_law_732 ?_
      refine hm_top (z := xs (4 + 6 * B + 2)) (by rw [nI_clamp (by omega)]) ?_
      refine hm_top (z := x2) ex2 ?_
      refine lv_if_eq (tgt := 740) hx hb d_law_733 (by decide) (fun h105 => ?_) (fun h105 => ?_)
      · exact absurd h105 h101
      · refine lv_iconst (v := 1) hx hb d_law_736 (by decide) ?_
        refine lv_goto (tgt := 741) hx hb d_law_737 (by decide) ?_
        refine hm_calli hS hM hA (va_runV (As := [.int 0, .int 1]) (rest := [.int (nI (z_cn (S.w 0) ((cm a S) 0) (o_fv S 2 0) (S.u 15) (S.us 0)))]) X (m_c_count l D k f h9 adM sk v c 0 1 hmo (by decide) (by decide) hrl.fm H.size) (hm_cwV hts me_GrantServerModel_count wl_GrantServerLaw_100 rfl rfl ⟨Nat.le_of_ble_eq_true rfl, Nat.le_of_ble_eq_true rfl⟩) (hm_preV hM hK hmo.1 rfl) rfl rfl hl.1 rfl (lv_room (Nat.le_of_ble_eq_true rfl)) d_law_741 ⟨(show C + 0 + 0 ≤ 600000 by omega), (show Sl + 0 + 0 ≤ 7302250 by omega)⟩) (fun r108 f106 H locs p107 hM hS => ?_)
        obtain ⟨rfl, rfl⟩ := p107
        refine lv_icmp_eq (tgt := 749) hx hb d_law_744 (by decide) (fun h109 => ?_) (fun h109 => ?_)
        · refine W.widen (k := C + 1) (n := Sl + 3) (by omega) (by omega) ?_
          exact next _ _ _ _ _ _ _ _ rfl ⟨hcs, hdj, hmo, hrl.same⟩ hM hS
        · exact absurd (congrArg nI (hrl.cn1 (by omega) (s := 0) (by decide) (by decide) (cm_n 0)).symm) h109
    · by_cases hk1 : x1 = 1
      · subst hk1
        refine hm_calli hS hM hA (va_runV (As := [.int 1, .int 1]) (rest := []) X (c_count_act1 l D k f (aF a 0) S.u (aF a) S.us a.g S.w (cm a S) (o_fv S 0 1) (o_fv S 1 1) (o_fv S 2 1) 1 1 (hcs.F 0 rfl) (hcs.F 5 rfl) (hcs.F 15 rfl) rfl (by decide) (o_pm_le hrl.s1.pm) (hcs.rows (by decide) (o_pm_le hrl.s1.pm)) (hcs.fam (by decide) (o_pm_le hrl.s1.pm)) H.size) (hm_cwV hts me_GrantServer_count wl_GrantServerLaw_96 rfl rfl ⟨Nat.le_of_ble_eq_true rfl, Nat.le_of_ble_eq_true rfl⟩) (hm_preV hM hK (hcs.F 0 rfl) rfl) rfl rfl hl.1 rfl (lv_room (Nat.le_of_ble_eq_true rfl)) d_law_719 ⟨(show C + 0 ≤ 600000 by omega), (show Sl + 0 ≤ 7302250 by omega)⟩) (fun r104 f102 H locs p103 hM hS => ?_)
        obtain ⟨rfl, rfl⟩ := p103
        refine lv_aload_n hx hb d_law_722 rfl (lv_at hl 1 rfl) ?_
        refine lv_aload_n hx hb d_law_723 rfl (lv_at hl 3 rfl) ?_
        refine lv_iload_n hx hb d_law_724 rfl (lv_at hl 0 rfl) ?_
        refine lv_iconst (v := 1) hx hb d_law_725 (by decide) ?_
        refine lv_iadd hx hb d_law_726 ?_
        refine hm_top (z := nI (4 + 6 * B + 1)) (nI_add _ 1) ?_
        refine va_sld hx hb hX hbl hbA hS (vp_in_nI (n := 4 + 6 * B + 1) (N := L) (by omega) (by omega)) d_law_727 ?_
        refine hm_top (z := xs (4 + 6 * B + 1)) (by rw [nI_clamp (by omega)]) ?_
        refine hm_top (z := 1) ex1 ?_
        refine lv_aload_n hx hb d_law_728 rfl (lv_at hl 3 rfl) ?_
        refine lv_iload_n hx hb d_law_729 rfl (lv_at hl 0 rfl) ?_
        refine lv_iconst (v := 2) hx hb d_law_730 (by decide) ?_
        refine lv_iadd hx hb d_law_731 ?_
        refine hm_top (z := nI (4 + 6 * B + 2)) (nI_add _ 2) ?_
        refine va_sld hx hb hX hbl hbA hS (vp_in_nI (n := 4 + 6 * B + 2) (N := L) (by omega) (by omega)) d_law_732 ?_
        refine hm_top (z := xs (4 + 6 * B + 2)) (by rw [nI_clamp (by omega)]) ?_
        refine hm_top (z := x2) ex2 ?_
        refine lv_if_eq (tgt := 740) hx hb d_law_733 (by decide) (fun h105 => ?_) (fun h105 => ?_)
        · exact absurd h105 h101
        · refine lv_iconst (v := 1) hx hb d_law_736 (by decide) ?_
          refine lv_goto (tgt := 741) hx hb d_law_737 (by decide) ?_
          refine hm_calli hS hM hA (va_runV (As := [.int 1, .int 1]) (rest := [.int (nI (z_cn (S.w 1) ((cm a S) 1) (o_fv S 2 1) (S.u 15) (S.us 1)))]) X (m_c_count l D k f h9 adM sk v c 1 1 hmo (by decide) (by decide) hrl.fm H.size) (hm_cwV hts me_GrantServerModel_count wl_GrantServerLaw_100 rfl rfl ⟨Nat.le_of_ble_eq_true rfl, Nat.le_of_ble_eq_true rfl⟩) (hm_preV hM hK hmo.1 rfl) rfl rfl hl.1 rfl (lv_room (Nat.le_of_ble_eq_true rfl)) d_law_741 ⟨(show C + 0 + 0 ≤ 600000 by omega), (show Sl + 0 + 0 ≤ 7302250 by omega)⟩) (fun r108 f106 H locs p107 hM hS => ?_)
          obtain ⟨rfl, rfl⟩ := p107
          refine lv_icmp_eq (tgt := 749) hx hb d_law_744 (by decide) (fun h109 => ?_) (fun h109 => ?_)
          · refine W.widen (k := C + 1) (n := Sl + 3) (by omega) (by omega) ?_
            exact next _ _ _ _ _ _ _ _ rfl ⟨hcs, hdj, hmo, hrl.same⟩ hM hS
          · exact absurd (congrArg nI (hrl.cn1 (by omega) (s := 1) (by decide) (by decide) (cm_n 1)).symm) h109
      · by_cases hk2 : x1 = 2
        · subst hk2
          refine hm_calli hS hM hA (va_runV (As := [.int 2, .int 1]) (rest := []) X (c_count_act2 l D k f (aF a 0) S.u (aF a) S.us a.g S.w (cm a S) (o_fv S 0 2) (o_fv S 1 2) (o_fv S 2 2) 2 1 (hcs.F 0 rfl) (hcs.F 6 rfl) (hcs.F 16 rfl) rfl (by decide) (o_pm_le hrl.s2.pm) (hcs.rows (by decide) (o_pm_le hrl.s2.pm)) (hcs.fam (by decide) (o_pm_le hrl.s2.pm)) H.size) (hm_cwV hts me_GrantServer_count wl_GrantServerLaw_96 rfl rfl ⟨Nat.le_of_ble_eq_true rfl, Nat.le_of_ble_eq_true rfl⟩) (hm_preV hM hK (hcs.F 0 rfl) rfl) rfl rfl hl.1 rfl (lv_room (Nat.le_of_ble_eq_true rfl)) d_law_719 ⟨(show C + 0 ≤ 600000 by omega), (show Sl + 0 ≤ 7302250 by omega)⟩) (fun r104 f102 H locs p103 hM hS => ?_)
          obtain ⟨rfl, rfl⟩ := p103
          refine lv_aload_n hx hb d_law_722 rfl (lv_at hl 1 rfl) ?_
          refine lv_aload_n hx hb d_law_723 rfl (lv_at hl 3 rfl) ?_
          refine lv_iload_n hx hb d_law_724 rfl (lv_at hl 0 rfl) ?_
          refine lv_iconst (v := 1) hx hb d_law_725 (by decide) ?_
          refine lv_iadd hx hb d_law_726 ?_
          refine hm_top (z := nI (4 + 6 * B + 1)) (nI_add _ 1) ?_
          refine va_sld hx hb hX hbl hbA hS (vp_in_nI (n := 4 + 6 * B + 1) (N := L) (by omega) (by omega)) d_law_727 ?_
          refine hm_top (z := xs (4 + 6 * B + 1)) (by rw [nI_clamp (by omega)]) ?_
          refine hm_top (z := 2) ex1 ?_
          refine lv_aload_n hx hb d_law_728 rfl (lv_at hl 3 rfl) ?_
          refine lv_iload_n hx hb d_law_729 rfl (lv_at hl 0 rfl) ?_
          refine lv_iconst (v := 2) hx hb d_law_730 (by decide) ?_
          refine lv_iadd hx hb d_law_731 ?_
          refine hm_top (z := nI (4 + 6 * B + 2)) (nI_add _ 2) ?_
          refine va_sld hx hb hX hbl hbA hS (vp_in_nI (n := 4 + 6 * B + 2) (N := L) (by omega) (by omega)) d_law_732 ?_
          refine hm_top (z := xs (4 + 6 * B + 2)) (by rw [nI_clamp (by omega)]) ?_
          refine hm_top (z := x2) ex2 ?_
          refine lv_if_eq (tgt := 740) hx hb d_law_733 (by decide) (fun h105 => ?_) (fun h105 => ?_)
          · exact absurd h105 h101
          · refine lv_iconst (v := 1) hx hb d_law_736 (by decide) ?_
            refine lv_goto (tgt := 741) hx hb d_law_737 (by decide) ?_
            refine hm_calli hS hM hA (va_runV (As := [.int 2, .int 1]) (rest := [.int (nI (z_cn (S.w 2) ((cm a S) 2) (o_fv S 2 2) (S.u 15) (S.us 2)))]) X (m_c_count l D k f h9 adM sk v c 2 1 hmo (by decide) (by decide) hrl.fm H.size) (hm_cwV hts me_GrantServerModel_count wl_GrantServerLaw_100 rfl rfl ⟨Nat.le_of_ble_eq_true rfl, Nat.le_of_ble_eq_true rfl⟩) (hm_preV hM hK hmo.1 rfl) rfl rfl hl.1 rfl (lv_room (Nat.le_of_ble_eq_true rfl)) d_law_741 ⟨(show C + 0 + 0 ≤ 600000 by omega), (show Sl + 0 + 0 ≤ 7302250 by omega)⟩) (fun r108 f106 H locs p107 hM hS => ?_)
            obtain ⟨rfl, rfl⟩ := p107
            refine lv_icmp_eq (tgt := 749) hx hb d_law_744 (by decide) (fun h109 => ?_) (fun h109 => ?_)
            · refine W.widen (k := C + 1) (n := Sl + 3) (by omega) (by omega) ?_
              exact next _ _ _ _ _ _ _ _ rfl ⟨hcs, hdj, hmo, hrl.same⟩ hM hS
            · exact absurd (congrArg nI (hrl.cn1 (by omega) (s := 2) (by decide) (by decide) (cm_n 2)).symm) h109
        · refine hm_calli hS hM hA (va_runV (As := [.int x1, .int 1]) (rest := []) X (c_count_out l D k f (aF a 0) S.u (aF a) x1 1 (hcs.F 0 rfl) ⟨hk0, hk1, hk2⟩ H.size) (hm_cwV hts me_GrantServer_count wl_GrantServerLaw_96 rfl rfl ⟨Nat.le_of_ble_eq_true rfl, Nat.le_of_ble_eq_true rfl⟩) (hm_preV hM hK (hcs.F 0 rfl) rfl) rfl rfl hl.1 rfl (lv_room (Nat.le_of_ble_eq_true rfl)) d_law_719 ⟨(show C + 0 ≤ 600000 by omega), (show Sl + 0 ≤ 7302250 by omega)⟩) (fun r104 f102 H locs p103 hM hS => ?_)
          obtain ⟨rfl, rfl⟩ := p103
          refine lv_aload_n hx hb d_law_722 rfl (lv_at hl 1 rfl) ?_
          refine lv_aload_n hx hb d_law_723 rfl (lv_at hl 3 rfl) ?_
          refine lv_iload_n hx hb d_law_724 rfl (lv_at hl 0 rfl) ?_
          refine lv_iconst (v := 1) hx hb d_law_725 (by decide) ?_
          refine lv_iadd hx hb d_law_726 ?_
          refine hm_top (z := nI (4 + 6 * B + 1)) (nI_add _ 1) ?_
          refine va_sld hx hb hX hbl hbA hS (vp_in_nI (n := 4 + 6 * B + 1) (N := L) (by omega) (by omega)) d_law_727 ?_
          refine hm_top (z := xs (4 + 6 * B + 1)) (by rw [nI_clamp (by omega)]) ?_
          refine hm_top (z := x1) ex1 ?_
          refine lv_aload_n hx hb d_law_728 rfl (lv_at hl 3 rfl) ?_
          refine lv_iload_n hx hb d_law_729 rfl (lv_at hl 0 rfl) ?_
          refine lv_iconst (v := 2) hx hb d_law_730 (by decide) ?_
          refine lv_iadd hx hb d_law_731 ?_
          refine hm_top (z := nI (4 + 6 * B + 2)) (nI_add _ 2) ?_
          refine va_sld hx hb hX hbl hbA hS (vp_in_nI (n := 4 + 6 * B + 2) (N := L) (by omega) (by omega)) d_law_732 ?_
          refine hm_top (z := xs (4 + 6 * B + 2)) (by rw [nI_clamp (by omega)]) ?_
          refine hm_top (z := x2) ex2 ?_
          refine lv_if_eq (tgt := 740) hx hb d_law_733 (by decide) (fun h105 => ?_) (fun h105 => ?_)
          · exact absurd h105 h101
          · refine lv_iconst (v := 1) hx hb d_law_736 (by decide) ?_
            refine lv_goto (tgt := 741) hx hb d_law_737 (by decide) ?_
            refine hm_calli hS hM hA (va_runV (As := [.int x1, .int 1]) (rest := [.int (-1)]) X (m_c_count_no l D k f h9 adM sk v c x1 1 hmo (lw_out hk0 hk1 hk2) H.size) (hm_cwV hts me_GrantServerModel_count wl_GrantServerLaw_100 rfl rfl ⟨Nat.le_of_ble_eq_true rfl, Nat.le_of_ble_eq_true rfl⟩) (hm_preV hM hK hmo.1 rfl) rfl rfl hl.1 rfl (lv_room (Nat.le_of_ble_eq_true rfl)) d_law_741 ⟨(show C + 0 + 0 ≤ 600000 by omega), (show Sl + 0 + 0 ≤ 7302250 by omega)⟩) (fun r108 f106 H locs p107 hM hS => ?_)
            obtain ⟨rfl, rfl⟩ := p107
            refine lv_icmp_eq (tgt := 749) hx hb d_law_744 (by decide) (fun h109 => ?_) (fun h109 => ?_)
            · refine W.widen (k := C + 1) (n := Sl + 3) (by omega) (by omega) ?_
              exact next _ _ _ _ _ _ _ _ rfl ⟨hcs, hdj, hmo, hrl.same⟩ hM hS
            · exact absurd rfl h109
