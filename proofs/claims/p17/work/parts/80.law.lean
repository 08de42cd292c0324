def R_law : String := "CoalTurnsLaw"
theorem d_L_law_0 : decode code 0 = .ok (.new 7, 3) := by decide +kernel
theorem d_L_law_3 : decode code 3 = .ok (.dup, 1) := by decide +kernel
theorem d_L_law_4 : decode code 4 = .ok (.invokespecial 9, 3) := by decide +kernel
theorem d_L_law_7 : decode code 7 = .ok (.astore_n 1, 1) := by decide +kernel
theorem d_L_law_8 : decode code 8 = .ok (.new 10, 3) := by decide +kernel
theorem d_L_law_11 : decode code 11 = .ok (.dup, 1) := by decide +kernel
theorem d_L_law_12 : decode code 12 = .ok (.invokespecial 12, 3) := by decide +kernel
theorem d_L_law_15 : decode code 15 = .ok (.astore_n 2, 1) := by decide +kernel
theorem d_L_law_16 : decode code 16 = .ok (.iconst 0, 1) := by decide +kernel
theorem d_L_law_17 : decode code 17 = .ok (.istore_n 3, 1) := by decide +kernel
theorem d_L_law_18 : decode code 18 = .ok (.iload_n 3, 1) := by decide +kernel
theorem d_L_law_19 : decode code 19 = .ok (.aload_n 0, 1) := by decide +kernel
theorem d_L_law_20 : decode code 20 = .ok (.arraylength, 1) := by decide +kernel
theorem d_L_law_21 : decode code 21 = .ok (.bipush 7, 2) := by decide +kernel
theorem d_L_law_23 : decode code 23 = .ok (.isub, 1) := by decide +kernel
theorem d_L_law_24 : decode code 24 = .ok (.if_icmp .gt 1047, 3) := by decide +kernel
theorem d_L_law_27 : decode code 27 = .ok (.aload_n 0, 1) := by decide +kernel
theorem d_L_law_28 : decode code 28 = .ok (.iload_n 3, 1) := by decide +kernel
theorem d_L_law_29 : decode code 29 = .ok (.iaload, 1) := by decide +kernel
theorem d_L_law_30 : decode code 30 = .ok (.bipush 31, 2) := by decide +kernel
theorem d_L_law_32 : decode code 32 = .ok (.iand, 1) := by decide +kernel
theorem d_L_law_33 : decode code 33 = .ok (.tableswitch 1032 0 24 #[115, 190, 223, 256, 279, 332, 375, 418, 451, 514, 537, 560, 593, 616, 659, 692, 725, 748, 771, 804, 857, 890, 923, 986, 1009], 115) := by decide +kernel
theorem d_L_law_148 : decode code 148 = .ok (.aload_n 1, 1) := by decide +kernel
theorem d_L_law_149 : decode code 149 = .ok (.aload_n 0, 1) := by decide +kernel
theorem d_L_law_150 : decode code 150 = .ok (.iload_n 3, 1) := by decide +kernel
theorem d_L_law_151 : decode code 151 = .ok (.iconst 1, 1) := by decide +kernel
theorem d_L_law_152 : decode code 152 = .ok (.iadd, 1) := by decide +kernel
theorem d_L_law_153 : decode code 153 = .ok (.iaload, 1) := by decide +kernel
theorem d_L_law_154 : decode code 154 = .ok (.aload_n 0, 1) := by decide +kernel
theorem d_L_law_155 : decode code 155 = .ok (.iload_n 3, 1) := by decide +kernel
theorem d_L_law_156 : decode code 156 = .ok (.iconst 2, 1) := by decide +kernel
theorem d_L_law_157 : decode code 157 = .ok (.iadd, 1) := by decide +kernel
theorem d_L_law_158 : decode code 158 = .ok (.iaload, 1) := by decide +kernel
theorem d_L_law_159 : decode code 159 = .ok (.aload_n 0, 1) := by decide +kernel
theorem d_L_law_160 : decode code 160 = .ok (.iload_n 3, 1) := by decide +kernel
theorem d_L_law_161 : decode code 161 = .ok (.iconst 3, 1) := by decide +kernel
theorem d_L_law_162 : decode code 162 = .ok (.iadd, 1) := by decide +kernel
theorem d_L_law_163 : decode code 163 = .ok (.iaload, 1) := by decide +kernel
theorem d_L_law_164 : decode code 164 = .ok (.aload_n 0, 1) := by decide +kernel
theorem d_L_law_165 : decode code 165 = .ok (.iload_n 3, 1) := by decide +kernel
theorem d_L_law_166 : decode code 166 = .ok (.iconst 4, 1) := by decide +kernel
theorem d_L_law_167 : decode code 167 = .ok (.iadd, 1) := by decide +kernel
theorem d_L_law_168 : decode code 168 = .ok (.iaload, 1) := by decide +kernel
theorem d_L_law_169 : decode code 169 = .ok (.aload_n 0, 1) := by decide +kernel
theorem d_L_law_170 : decode code 170 = .ok (.iload_n 3, 1) := by decide +kernel
theorem d_L_law_171 : decode code 171 = .ok (.iconst 5, 1) := by decide +kernel
theorem d_L_law_172 : decode code 172 = .ok (.iadd, 1) := by decide +kernel
theorem d_L_law_173 : decode code 173 = .ok (.iaload, 1) := by decide +kernel
theorem d_L_law_174 : decode code 174 = .ok (.aload_n 0, 1) := by decide +kernel
theorem d_L_law_175 : decode code 175 = .ok (.iload_n 3, 1) := by decide +kernel
theorem d_L_law_176 : decode code 176 = .ok (.bipush 6, 2) := by decide +kernel
theorem d_L_law_178 : decode code 178 = .ok (.iadd, 1) := by decide +kernel
theorem d_L_law_179 : decode code 179 = .ok (.iaload, 1) := by decide +kernel
theorem d_L_law_180 : decode code 180 = .ok (.invokevirtual 13, 3) := by decide +kernel
theorem d_L_law_183 : decode code 183 = .ok (.pop, 1) := by decide +kernel
theorem d_L_law_184 : decode code 184 = .ok (.aload_n 2, 1) := by decide +kernel
theorem d_L_law_185 : decode code 185 = .ok (.aload_n 0, 1) := by decide +kernel
theorem d_L_law_186 : decode code 186 = .ok (.iload_n 3, 1) := by decide +kernel
theorem d_L_law_187 : decode code 187 = .ok (.iconst 1, 1) := by decide +kernel
theorem d_L_law_188 : decode code 188 = .ok (.iadd, 1) := by decide +kernel
theorem d_L_law_189 : decode code 189 = .ok (.iaload, 1) := by decide +kernel
theorem d_L_law_190 : decode code 190 = .ok (.aload_n 0, 1) := by decide +kernel
theorem d_L_law_191 : decode code 191 = .ok (.iload_n 3, 1) := by decide +kernel
theorem d_L_law_192 : decode code 192 = .ok (.iconst 2, 1) := by decide +kernel
theorem d_L_law_193 : decode code 193 = .ok (.iadd, 1) := by decide +kernel
theorem d_L_law_194 : decode code 194 = .ok (.iaload, 1) := by decide +kernel
theorem d_L_law_195 : decode code 195 = .ok (.aload_n 0, 1) := by decide +kernel
theorem d_L_law_196 : decode code 196 = .ok (.iload_n 3, 1) := by decide +kernel
theorem d_L_law_197 : decode code 197 = .ok (.iconst 3, 1) := by decide +kernel
theorem d_L_law_198 : decode code 198 = .ok (.iadd, 1) := by decide +kernel
theorem d_L_law_199 : decode code 199 = .ok (.iaload, 1) := by decide +kernel
theorem d_L_law_200 : decode code 200 = .ok (.aload_n 0, 1) := by decide +kernel
theorem d_L_law_201 : decode code 201 = .ok (.iload_n 3, 1) := by decide +kernel
theorem d_L_law_202 : decode code 202 = .ok (.iconst 4, 1) := by decide +kernel
theorem d_L_law_203 : decode code 203 = .ok (.iadd, 1) := by decide +kernel
theorem d_L_law_204 : decode code 204 = .ok (.iaload, 1) := by decide +kernel
theorem d_L_law_205 : decode code 205 = .ok (.aload_n 0, 1) := by decide +kernel
theorem d_L_law_206 : decode code 206 = .ok (.iload_n 3, 1) := by decide +kernel
theorem d_L_law_207 : decode code 207 = .ok (.iconst 5, 1) := by decide +kernel
theorem d_L_law_208 : decode code 208 = .ok (.iadd, 1) := by decide +kernel
theorem d_L_law_209 : decode code 209 = .ok (.iaload, 1) := by decide +kernel
theorem d_L_law_210 : decode code 210 = .ok (.aload_n 0, 1) := by decide +kernel
theorem d_L_law_211 : decode code 211 = .ok (.iload_n 3, 1) := by decide +kernel
theorem d_L_law_212 : decode code 212 = .ok (.bipush 6, 2) := by decide +kernel
theorem d_L_law_214 : decode code 214 = .ok (.iadd, 1) := by decide +kernel
theorem d_L_law_215 : decode code 215 = .ok (.iaload, 1) := by decide +kernel
theorem d_L_law_216 : decode code 216 = .ok (.invokevirtual 17, 3) := by decide +kernel
theorem d_L_law_219 : decode code 219 = .ok (.pop, 1) := by decide +kernel
theorem d_L_law_220 : decode code 220 = .ok (.goto 845, 3) := by decide +kernel
theorem d_L_law_223 : decode code 223 = .ok (.aload_n 1, 1) := by decide +kernel
theorem d_L_law_224 : decode code 224 = .ok (.aload_n 0, 1) := by decide +kernel
theorem d_L_law_225 : decode code 225 = .ok (.iload_n 3, 1) := by decide +kernel
theorem d_L_law_226 : decode code 226 = .ok (.iconst 1, 1) := by decide +kernel
theorem d_L_law_227 : decode code 227 = .ok (.iadd, 1) := by decide +kernel
theorem d_L_law_228 : decode code 228 = .ok (.iaload, 1) := by decide +kernel
theorem d_L_law_229 : decode code 229 = .ok (.aload_n 0, 1) := by decide +kernel
theorem d_L_law_230 : decode code 230 = .ok (.iload_n 3, 1) := by decide +kernel
theorem d_L_law_231 : decode code 231 = .ok (.iconst 2, 1) := by decide +kernel
theorem d_L_law_232 : decode code 232 = .ok (.iadd, 1) := by decide +kernel
theorem d_L_law_233 : decode code 233 = .ok (.iaload, 1) := by decide +kernel
theorem d_L_law_234 : decode code 234 = .ok (.invokevirtual 18, 3) := by decide +kernel
theorem d_L_law_237 : decode code 237 = .ok (.pop, 1) := by decide +kernel
theorem d_L_law_238 : decode code 238 = .ok (.aload_n 2, 1) := by decide +kernel
theorem d_L_law_239 : decode code 239 = .ok (.aload_n 0, 1) := by decide +kernel
theorem d_L_law_240 : decode code 240 = .ok (.iload_n 3, 1) := by decide +kernel
theorem d_L_law_241 : decode code 241 = .ok (.iconst 1, 1) := by decide +kernel
theorem d_L_law_242 : decode code 242 = .ok (.iadd, 1) := by decide +kernel
theorem d_L_law_243 : decode code 243 = .ok (.iaload, 1) := by decide +kernel
theorem d_L_law_244 : decode code 244 = .ok (.aload_n 0, 1) := by decide +kernel
theorem d_L_law_245 : decode code 245 = .ok (.iload_n 3, 1) := by decide +kernel
theorem d_L_law_246 : decode code 246 = .ok (.iconst 2, 1) := by decide +kernel
theorem d_L_law_247 : decode code 247 = .ok (.iadd, 1) := by decide +kernel
theorem d_L_law_248 : decode code 248 = .ok (.iaload, 1) := by decide +kernel
theorem d_L_law_249 : decode code 249 = .ok (.invokevirtual 22, 3) := by decide +kernel
theorem d_L_law_252 : decode code 252 = .ok (.pop, 1) := by decide +kernel
theorem d_L_law_253 : decode code 253 = .ok (.goto 812, 3) := by decide +kernel
theorem d_L_law_256 : decode code 256 = .ok (.aload_n 1, 1) := by decide +kernel
theorem d_L_law_257 : decode code 257 = .ok (.aload_n 0, 1) := by decide +kernel
theorem d_L_law_258 : decode code 258 = .ok (.iload_n 3, 1) := by decide +kernel
theorem d_L_law_259 : decode code 259 = .ok (.iconst 1, 1) := by decide +kernel
theorem d_L_law_260 : decode code 260 = .ok (.iadd, 1) := by decide +kernel
theorem d_L_law_261 : decode code 261 = .ok (.iaload, 1) := by decide +kernel
theorem d_L_law_262 : decode code 262 = .ok (.aload_n 0, 1) := by decide +kernel
theorem d_L_law_263 : decode code 263 = .ok (.iload_n 3, 1) := by decide +kernel
theorem d_L_law_264 : decode code 264 = .ok (.iconst 2, 1) := by decide +kernel
theorem d_L_law_265 : decode code 265 = .ok (.iadd, 1) := by decide +kernel
theorem d_L_law_266 : decode code 266 = .ok (.iaload, 1) := by decide +kernel
theorem d_L_law_267 : decode code 267 = .ok (.invokevirtual 23, 3) := by decide +kernel
theorem d_L_law_270 : decode code 270 = .ok (.pop, 1) := by decide +kernel
theorem d_L_law_271 : decode code 271 = .ok (.aload_n 2, 1) := by decide +kernel
theorem d_L_law_272 : decode code 272 = .ok (.aload_n 0, 1) := by decide +kernel
theorem d_L_law_273 : decode code 273 = .ok (.iload_n 3, 1) := by decide +kernel
theorem d_L_law_274 : decode code 274 = .ok (.iconst 1, 1) := by decide +kernel
theorem d_L_law_275 : decode code 275 = .ok (.iadd, 1) := by decide +kernel
theorem d_L_law_276 : decode code 276 = .ok (.iaload, 1) := by decide +kernel
theorem d_L_law_277 : decode code 277 = .ok (.aload_n 0, 1) := by decide +kernel
theorem d_L_law_278 : decode code 278 = .ok (.iload_n 3, 1) := by decide +kernel
theorem d_L_law_279 : decode code 279 = .ok (.iconst 2, 1) := by decide +kernel
theorem d_L_law_280 : decode code 280 = .ok (.iadd, 1) := by decide +kernel
theorem d_L_law_281 : decode code 281 = .ok (.iaload, 1) := by decide +kernel
theorem d_L_law_282 : decode code 282 = .ok (.invokevirtual 26, 3) := by decide +kernel
theorem d_L_law_285 : decode code 285 = .ok (.pop, 1) := by decide +kernel
theorem d_L_law_286 : decode code 286 = .ok (.goto 779, 3) := by decide +kernel
theorem d_L_law_289 : decode code 289 = .ok (.aload_n 1, 1) := by decide +kernel
theorem d_L_law_290 : decode code 290 = .ok (.aload_n 0, 1) := by decide +kernel
theorem d_L_law_291 : decode code 291 = .ok (.iload_n 3, 1) := by decide +kernel
theorem d_L_law_292 : decode code 292 = .ok (.iconst 1, 1) := by decide +kernel
theorem d_L_law_293 : decode code 293 = .ok (.iadd, 1) := by decide +kernel
theorem d_L_law_294 : decode code 294 = .ok (.iaload, 1) := by decide +kernel
theorem d_L_law_295 : decode code 295 = .ok (.invokevirtual 27, 3) := by decide +kernel
theorem d_L_law_298 : decode code 298 = .ok (.pop, 1) := by decide +kernel
theorem d_L_law_299 : decode code 299 = .ok (.aload_n 2, 1) := by decide +kernel
theorem d_L_law_300 : decode code 300 = .ok (.aload_n 0, 1) := by decide +kernel
theorem d_L_law_301 : decode code 301 = .ok (.iload_n 3, 1) := by decide +kernel
theorem d_L_law_302 : decode code 302 = .ok (.iconst 1, 1) := by decide +kernel
theorem d_L_law_303 : decode code 303 = .ok (.iadd, 1) := by decide +kernel
theorem d_L_law_304 : decode code 304 = .ok (.iaload, 1) := by decide +kernel
theorem d_L_law_305 : decode code 305 = .ok (.invokevirtual 31, 3) := by decide +kernel
theorem d_L_law_308 : decode code 308 = .ok (.pop, 1) := by decide +kernel
theorem d_L_law_309 : decode code 309 = .ok (.goto 756, 3) := by decide +kernel
theorem d_L_law_312 : decode code 312 = .ok (.aload_n 1, 1) := by decide +kernel
theorem d_L_law_313 : decode code 313 = .ok (.aload_n 0, 1) := by decide +kernel
theorem d_L_law_314 : decode code 314 = .ok (.iload_n 3, 1) := by decide +kernel
theorem d_L_law_315 : decode code 315 = .ok (.iconst 1, 1) := by decide +kernel
theorem d_L_law_316 : decode code 316 = .ok (.iadd, 1) := by decide +kernel
theorem d_L_law_317 : decode code 317 = .ok (.iaload, 1) := by decide +kernel
theorem d_L_law_318 : decode code 318 = .ok (.aload_n 0, 1) := by decide +kernel
theorem d_L_law_319 : decode code 319 = .ok (.iload_n 3, 1) := by decide +kernel
theorem d_L_law_320 : decode code 320 = .ok (.iconst 2, 1) := by decide +kernel
theorem d_L_law_321 : decode code 321 = .ok (.iadd, 1) := by decide +kernel
theorem d_L_law_322 : decode code 322 = .ok (.iaload, 1) := by decide +kernel
theorem d_L_law_323 : decode code 323 = .ok (.aload_n 0, 1) := by decide +kernel
theorem d_L_law_324 : decode code 324 = .ok (.iload_n 3, 1) := by decide +kernel
theorem d_L_law_325 : decode code 325 = .ok (.iconst 3, 1) := by decide +kernel
theorem d_L_law_326 : decode code 326 = .ok (.iadd, 1) := by decide +kernel
theorem d_L_law_327 : decode code 327 = .ok (.iaload, 1) := by decide +kernel
theorem d_L_law_328 : decode code 328 = .ok (.aload_n 0, 1) := by decide +kernel
theorem d_L_law_329 : decode code 329 = .ok (.iload_n 3, 1) := by decide +kernel
theorem d_L_law_330 : decode code 330 = .ok (.iconst 4, 1) := by decide +kernel
theorem d_L_law_331 : decode code 331 = .ok (.iadd, 1) := by decide +kernel
theorem d_L_law_332 : decode code 332 = .ok (.iaload, 1) := by decide +kernel
theorem d_L_law_333 : decode code 333 = .ok (.invokevirtual 32, 3) := by decide +kernel
theorem d_L_law_336 : decode code 336 = .ok (.pop, 1) := by decide +kernel
theorem d_L_law_337 : decode code 337 = .ok (.aload_n 2, 1) := by decide +kernel
theorem d_L_law_338 : decode code 338 = .ok (.aload_n 0, 1) := by decide +kernel
theorem d_L_law_339 : decode code 339 = .ok (.iload_n 3, 1) := by decide +kernel
theorem d_L_law_340 : decode code 340 = .ok (.iconst 1, 1) := by decide +kernel
theorem d_L_law_341 : decode code 341 = .ok (.iadd, 1) := by decide +kernel
theorem d_L_law_342 : decode code 342 = .ok (.iaload, 1) := by decide +kernel
theorem d_L_law_343 : decode code 343 = .ok (.aload_n 0, 1) := by decide +kernel
theorem d_L_law_344 : decode code 344 = .ok (.iload_n 3, 1) := by decide +kernel
theorem d_L_law_345 : decode code 345 = .ok (.iconst 2, 1) := by decide +kernel
theorem d_L_law_346 : decode code 346 = .ok (.iadd, 1) := by decide +kernel
theorem d_L_law_347 : decode code 347 = .ok (.iaload, 1) := by decide +kernel
theorem d_L_law_348 : decode code 348 = .ok (.aload_n 0, 1) := by decide +kernel
theorem d_L_law_349 : decode code 349 = .ok (.iload_n 3, 1) := by decide +kernel
theorem d_L_law_350 : decode code 350 = .ok (.iconst 3, 1) := by decide +kernel
theorem d_L_law_351 : decode code 351 = .ok (.iadd, 1) := by decide +kernel
theorem d_L_law_352 : decode code 352 = .ok (.iaload, 1) := by decide +kernel
theorem d_L_law_353 : decode code 353 = .ok (.aload_n 0, 1) := by decide +kernel
theorem d_L_law_354 : decode code 354 = .ok (.iload_n 3, 1) := by decide +kernel
theorem d_L_law_355 : decode code 355 = .ok (.iconst 4, 1) := by decide +kernel
theorem d_L_law_356 : decode code 356 = .ok (.iadd, 1) := by decide +kernel
theorem d_L_law_357 : decode code 357 = .ok (.iaload, 1) := by decide +kernel
theorem d_L_law_358 : decode code 358 = .ok (.invokevirtual 36, 3) := by decide +kernel
theorem d_L_law_361 : decode code 361 = .ok (.pop, 1) := by decide +kernel
theorem d_L_law_362 : decode code 362 = .ok (.goto 703, 3) := by decide +kernel
theorem d_L_law_365 : decode code 365 = .ok (.aload_n 1, 1) := by decide +kernel
theorem d_L_law_366 : decode code 366 = .ok (.aload_n 0, 1) := by decide +kernel
theorem d_L_law_367 : decode code 367 = .ok (.iload_n 3, 1) := by decide +kernel
theorem d_L_law_368 : decode code 368 = .ok (.iconst 1, 1) := by decide +kernel
theorem d_L_law_369 : decode code 369 = .ok (.iadd, 1) := by decide +kernel
theorem d_L_law_370 : decode code 370 = .ok (.iaload, 1) := by decide +kernel
theorem d_L_law_371 : decode code 371 = .ok (.aload_n 0, 1) := by decide +kernel
theorem d_L_law_372 : decode code 372 = .ok (.iload_n 3, 1) := by decide +kernel
theorem d_L_law_373 : decode code 373 = .ok (.iconst 2, 1) := by decide +kernel
theorem d_L_law_374 : decode code 374 = .ok (.iadd, 1) := by decide +kernel
theorem d_L_law_375 : decode code 375 = .ok (.iaload, 1) := by decide +kernel
theorem d_L_law_376 : decode code 376 = .ok (.aload_n 0, 1) := by decide +kernel
theorem d_L_law_377 : decode code 377 = .ok (.iload_n 3, 1) := by decide +kernel
theorem d_L_law_378 : decode code 378 = .ok (.iconst 3, 1) := by decide +kernel
theorem d_L_law_379 : decode code 379 = .ok (.iadd, 1) := by decide +kernel
theorem d_L_law_380 : decode code 380 = .ok (.iaload, 1) := by decide +kernel
theorem d_L_law_381 : decode code 381 = .ok (.invokevirtual 37, 3) := by decide +kernel
theorem d_L_law_384 : decode code 384 = .ok (.pop, 1) := by decide +kernel
theorem d_L_law_385 : decode code 385 = .ok (.aload_n 2, 1) := by decide +kernel
theorem d_L_law_386 : decode code 386 = .ok (.aload_n 0, 1) := by decide +kernel
theorem d_L_law_387 : decode code 387 = .ok (.iload_n 3, 1) := by decide +kernel
theorem d_L_law_388 : decode code 388 = .ok (.iconst 1, 1) := by decide +kernel
theorem d_L_law_389 : decode code 389 = .ok (.iadd, 1) := by decide +kernel
theorem d_L_law_390 : decode code 390 = .ok (.iaload, 1) := by decide +kernel
theorem d_L_law_391 : decode code 391 = .ok (.aload_n 0, 1) := by decide +kernel
theorem d_L_law_392 : decode code 392 = .ok (.iload_n 3, 1) := by decide +kernel
theorem d_L_law_393 : decode code 393 = .ok (.iconst 2, 1) := by decide +kernel
theorem d_L_law_394 : decode code 394 = .ok (.iadd, 1) := by decide +kernel
theorem d_L_law_395 : decode code 395 = .ok (.iaload, 1) := by decide +kernel
theorem d_L_law_396 : decode code 396 = .ok (.aload_n 0, 1) := by decide +kernel
theorem d_L_law_397 : decode code 397 = .ok (.iload_n 3, 1) := by decide +kernel
theorem d_L_law_398 : decode code 398 = .ok (.iconst 3, 1) := by decide +kernel
theorem d_L_law_399 : decode code 399 = .ok (.iadd, 1) := by decide +kernel
theorem d_L_law_400 : decode code 400 = .ok (.iaload, 1) := by decide +kernel
theorem d_L_law_401 : decode code 401 = .ok (.invokevirtual 41, 3) := by decide +kernel
theorem d_L_law_404 : decode code 404 = .ok (.pop, 1) := by decide +kernel
theorem d_L_law_405 : decode code 405 = .ok (.goto 660, 3) := by decide +kernel
theorem d_L_law_408 : decode code 408 = .ok (.aload_n 1, 1) := by decide +kernel
theorem d_L_law_409 : decode code 409 = .ok (.aload_n 0, 1) := by decide +kernel
theorem d_L_law_410 : decode code 410 = .ok (.iload_n 3, 1) := by decide +kernel
theorem d_L_law_411 : decode code 411 = .ok (.iconst 1, 1) := by decide +kernel
theorem d_L_law_412 : decode code 412 = .ok (.iadd, 1) := by decide +kernel
theorem d_L_law_413 : decode code 413 = .ok (.iaload, 1) := by decide +kernel
theorem d_L_law_414 : decode code 414 = .ok (.aload_n 0, 1) := by decide +kernel
theorem d_L_law_415 : decode code 415 = .ok (.iload_n 3, 1) := by decide +kernel
theorem d_L_law_416 : decode code 416 = .ok (.iconst 2, 1) := by decide +kernel
theorem d_L_law_417 : decode code 417 = .ok (.iadd, 1) := by decide +kernel
theorem d_L_law_418 : decode code 418 = .ok (.iaload, 1) := by decide +kernel
theorem d_L_law_419 : decode code 419 = .ok (.aload_n 0, 1) := by decide +kernel
theorem d_L_law_420 : decode code 420 = .ok (.iload_n 3, 1) := by decide +kernel
theorem d_L_law_421 : decode code 421 = .ok (.iconst 3, 1) := by decide +kernel
theorem d_L_law_422 : decode code 422 = .ok (.iadd, 1) := by decide +kernel
theorem d_L_law_423 : decode code 423 = .ok (.iaload, 1) := by decide +kernel
theorem d_L_law_424 : decode code 424 = .ok (.invokevirtual 42, 3) := by decide +kernel
theorem d_L_law_427 : decode code 427 = .ok (.pop, 1) := by decide +kernel
theorem d_L_law_428 : decode code 428 = .ok (.aload_n 2, 1) := by decide +kernel
theorem d_L_law_429 : decode code 429 = .ok (.aload_n 0, 1) := by decide +kernel
theorem d_L_law_430 : decode code 430 = .ok (.iload_n 3, 1) := by decide +kernel
theorem d_L_law_431 : decode code 431 = .ok (.iconst 1, 1) := by decide +kernel
theorem d_L_law_432 : decode code 432 = .ok (.iadd, 1) := by decide +kernel
theorem d_L_law_433 : decode code 433 = .ok (.iaload, 1) := by decide +kernel
theorem d_L_law_434 : decode code 434 = .ok (.aload_n 0, 1) := by decide +kernel
theorem d_L_law_435 : decode code 435 = .ok (.iload_n 3, 1) := by decide +kernel
theorem d_L_law_436 : decode code 436 = .ok (.iconst 2, 1) := by decide +kernel
theorem d_L_law_437 : decode code 437 = .ok (.iadd, 1) := by decide +kernel
theorem d_L_law_438 : decode code 438 = .ok (.iaload, 1) := by decide +kernel
theorem d_L_law_439 : decode code 439 = .ok (.aload_n 0, 1) := by decide +kernel
theorem d_L_law_440 : decode code 440 = .ok (.iload_n 3, 1) := by decide +kernel
theorem d_L_law_441 : decode code 441 = .ok (.iconst 3, 1) := by decide +kernel
theorem d_L_law_442 : decode code 442 = .ok (.iadd, 1) := by decide +kernel
theorem d_L_law_443 : decode code 443 = .ok (.iaload, 1) := by decide +kernel
theorem d_L_law_444 : decode code 444 = .ok (.invokevirtual 45, 3) := by decide +kernel
theorem d_L_law_447 : decode code 447 = .ok (.pop, 1) := by decide +kernel
theorem d_L_law_448 : decode code 448 = .ok (.goto 617, 3) := by decide +kernel
theorem d_L_law_451 : decode code 451 = .ok (.aload_n 1, 1) := by decide +kernel
theorem d_L_law_452 : decode code 452 = .ok (.aload_n 0, 1) := by decide +kernel
theorem d_L_law_453 : decode code 453 = .ok (.iload_n 3, 1) := by decide +kernel
theorem d_L_law_454 : decode code 454 = .ok (.iconst 1, 1) := by decide +kernel
theorem d_L_law_455 : decode code 455 = .ok (.iadd, 1) := by decide +kernel
theorem d_L_law_456 : decode code 456 = .ok (.iaload, 1) := by decide +kernel
theorem d_L_law_457 : decode code 457 = .ok (.aload_n 0, 1) := by decide +kernel
theorem d_L_law_458 : decode code 458 = .ok (.iload_n 3, 1) := by decide +kernel
theorem d_L_law_459 : decode code 459 = .ok (.iconst 2, 1) := by decide +kernel
theorem d_L_law_460 : decode code 460 = .ok (.iadd, 1) := by decide +kernel
theorem d_L_law_461 : decode code 461 = .ok (.iaload, 1) := by decide +kernel
theorem d_L_law_462 : decode code 462 = .ok (.invokevirtual 46, 3) := by decide +kernel
theorem d_L_law_465 : decode code 465 = .ok (.pop, 1) := by decide +kernel
theorem d_L_law_466 : decode code 466 = .ok (.aload_n 2, 1) := by decide +kernel
theorem d_L_law_467 : decode code 467 = .ok (.aload_n 0, 1) := by decide +kernel
theorem d_L_law_468 : decode code 468 = .ok (.iload_n 3, 1) := by decide +kernel
theorem d_L_law_469 : decode code 469 = .ok (.iconst 1, 1) := by decide +kernel
theorem d_L_law_470 : decode code 470 = .ok (.iadd, 1) := by decide +kernel
theorem d_L_law_471 : decode code 471 = .ok (.iaload, 1) := by decide +kernel
theorem d_L_law_472 : decode code 472 = .ok (.aload_n 0, 1) := by decide +kernel
theorem d_L_law_473 : decode code 473 = .ok (.iload_n 3, 1) := by decide +kernel
theorem d_L_law_474 : decode code 474 = .ok (.iconst 2, 1) := by decide +kernel
theorem d_L_law_475 : decode code 475 = .ok (.iadd, 1) := by decide +kernel
theorem d_L_law_476 : decode code 476 = .ok (.iaload, 1) := by decide +kernel
theorem d_L_law_477 : decode code 477 = .ok (.invokevirtual 49, 3) := by decide +kernel
theorem d_L_law_480 : decode code 480 = .ok (.pop, 1) := by decide +kernel
theorem d_L_law_481 : decode code 481 = .ok (.goto 584, 3) := by decide +kernel
theorem d_L_law_484 : decode code 484 = .ok (.aload_n 1, 1) := by decide +kernel
theorem d_L_law_485 : decode code 485 = .ok (.aload_n 0, 1) := by decide +kernel
theorem d_L_law_486 : decode code 486 = .ok (.iload_n 3, 1) := by decide +kernel
theorem d_L_law_487 : decode code 487 = .ok (.iconst 1, 1) := by decide +kernel
theorem d_L_law_488 : decode code 488 = .ok (.iadd, 1) := by decide +kernel
theorem d_L_law_489 : decode code 489 = .ok (.iaload, 1) := by decide +kernel
theorem d_L_law_490 : decode code 490 = .ok (.i2l, 1) := by decide +kernel
theorem d_L_law_491 : decode code 491 = .ok (.bipush 32, 2) := by decide +kernel
theorem d_L_law_493 : decode code 493 = .ok (.lshl, 1) := by decide +kernel
theorem d_L_law_494 : decode code 494 = .ok (.aload_n 0, 1) := by decide +kernel
theorem d_L_law_495 : decode code 495 = .ok (.iload_n 3, 1) := by decide +kernel
theorem d_L_law_496 : decode code 496 = .ok (.iconst 2, 1) := by decide +kernel
theorem d_L_law_497 : decode code 497 = .ok (.iadd, 1) := by decide +kernel
theorem d_L_law_498 : decode code 498 = .ok (.iaload, 1) := by decide +kernel
theorem d_L_law_499 : decode code 499 = .ok (.i2l, 1) := by decide +kernel
theorem d_L_law_500 : decode code 500 = .ok (.ldc2_w 50, 3) := by decide +kernel
theorem d_L_law_503 : decode code 503 = .ok (.land, 1) := by decide +kernel
theorem d_L_law_504 : decode code 504 = .ok (.lor, 1) := by decide +kernel
theorem d_L_law_505 : decode code 505 = .ok (.aload_n 0, 1) := by decide +kernel
theorem d_L_law_506 : decode code 506 = .ok (.iload_n 3, 1) := by decide +kernel
theorem d_L_law_507 : decode code 507 = .ok (.iconst 3, 1) := by decide +kernel
theorem d_L_law_508 : decode code 508 = .ok (.iadd, 1) := by decide +kernel
theorem d_L_law_509 : decode code 509 = .ok (.iaload, 1) := by decide +kernel
theorem d_L_law_510 : decode code 510 = .ok (.invokevirtual 52, 3) := by decide +kernel
theorem d_L_law_513 : decode code 513 = .ok (.pop, 1) := by decide +kernel
theorem d_L_law_514 : decode code 514 = .ok (.aload_n 2, 1) := by decide +kernel
theorem d_L_law_515 : decode code 515 = .ok (.aload_n 0, 1) := by decide +kernel
theorem d_L_law_516 : decode code 516 = .ok (.iload_n 3, 1) := by decide +kernel
theorem d_L_law_517 : decode code 517 = .ok (.iconst 1, 1) := by decide +kernel
theorem d_L_law_518 : decode code 518 = .ok (.iadd, 1) := by decide +kernel
theorem d_L_law_519 : decode code 519 = .ok (.iaload, 1) := by decide +kernel
theorem d_L_law_520 : decode code 520 = .ok (.i2l, 1) := by decide +kernel
theorem d_L_law_521 : decode code 521 = .ok (.bipush 32, 2) := by decide +kernel
theorem d_L_law_523 : decode code 523 = .ok (.lshl, 1) := by decide +kernel
theorem d_L_law_524 : decode code 524 = .ok (.aload_n 0, 1) := by decide +kernel
theorem d_L_law_525 : decode code 525 = .ok (.iload_n 3, 1) := by decide +kernel
theorem d_L_law_526 : decode code 526 = .ok (.iconst 2, 1) := by decide +kernel
theorem d_L_law_527 : decode code 527 = .ok (.iadd, 1) := by decide +kernel
theorem d_L_law_528 : decode code 528 = .ok (.iaload, 1) := by decide +kernel
theorem d_L_law_529 : decode code 529 = .ok (.i2l, 1) := by decide +kernel
theorem d_L_law_530 : decode code 530 = .ok (.ldc2_w 50, 3) := by decide +kernel
theorem d_L_law_533 : decode code 533 = .ok (.land, 1) := by decide +kernel
theorem d_L_law_534 : decode code 534 = .ok (.lor, 1) := by decide +kernel
theorem d_L_law_535 : decode code 535 = .ok (.aload_n 0, 1) := by decide +kernel
theorem d_L_law_536 : decode code 536 = .ok (.iload_n 3, 1) := by decide +kernel
theorem d_L_law_537 : decode code 537 = .ok (.iconst 3, 1) := by decide +kernel
theorem d_L_law_538 : decode code 538 = .ok (.iadd, 1) := by decide +kernel
theorem d_L_law_539 : decode code 539 = .ok (.iaload, 1) := by decide +kernel
theorem d_L_law_540 : decode code 540 = .ok (.invokevirtual 56, 3) := by decide +kernel
theorem d_L_law_543 : decode code 543 = .ok (.pop, 1) := by decide +kernel
theorem d_L_law_544 : decode code 544 = .ok (.goto 521, 3) := by decide +kernel
theorem d_L_law_547 : decode code 547 = .ok (.aload_n 1, 1) := by decide +kernel
theorem d_L_law_548 : decode code 548 = .ok (.aload_n 0, 1) := by decide +kernel
theorem d_L_law_549 : decode code 549 = .ok (.iload_n 3, 1) := by decide +kernel
theorem d_L_law_550 : decode code 550 = .ok (.iconst 1, 1) := by decide +kernel
theorem d_L_law_551 : decode code 551 = .ok (.iadd, 1) := by decide +kernel
theorem d_L_law_552 : decode code 552 = .ok (.iaload, 1) := by decide +kernel
theorem d_L_law_553 : decode code 553 = .ok (.invokevirtual 57, 3) := by decide +kernel
theorem d_L_law_556 : decode code 556 = .ok (.pop, 1) := by decide +kernel
theorem d_L_law_557 : decode code 557 = .ok (.aload_n 2, 1) := by decide +kernel
theorem d_L_law_558 : decode code 558 = .ok (.aload_n 0, 1) := by decide +kernel
theorem d_L_law_559 : decode code 559 = .ok (.iload_n 3, 1) := by decide +kernel
theorem d_L_law_560 : decode code 560 = .ok (.iconst 1, 1) := by decide +kernel
theorem d_L_law_561 : decode code 561 = .ok (.iadd, 1) := by decide +kernel
theorem d_L_law_562 : decode code 562 = .ok (.iaload, 1) := by decide +kernel
theorem d_L_law_563 : decode code 563 = .ok (.invokevirtual 60, 3) := by decide +kernel
theorem d_L_law_566 : decode code 566 = .ok (.pop, 1) := by decide +kernel
theorem d_L_law_567 : decode code 567 = .ok (.goto 498, 3) := by decide +kernel
theorem d_L_law_570 : decode code 570 = .ok (.aload_n 1, 1) := by decide +kernel
theorem d_L_law_571 : decode code 571 = .ok (.aload_n 0, 1) := by decide +kernel
theorem d_L_law_572 : decode code 572 = .ok (.iload_n 3, 1) := by decide +kernel
theorem d_L_law_573 : decode code 573 = .ok (.iconst 1, 1) := by decide +kernel
theorem d_L_law_574 : decode code 574 = .ok (.iadd, 1) := by decide +kernel
theorem d_L_law_575 : decode code 575 = .ok (.iaload, 1) := by decide +kernel
theorem d_L_law_576 : decode code 576 = .ok (.invokevirtual 61, 3) := by decide +kernel
theorem d_L_law_579 : decode code 579 = .ok (.pop, 1) := by decide +kernel
theorem d_L_law_580 : decode code 580 = .ok (.aload_n 2, 1) := by decide +kernel
theorem d_L_law_581 : decode code 581 = .ok (.aload_n 0, 1) := by decide +kernel
theorem d_L_law_582 : decode code 582 = .ok (.iload_n 3, 1) := by decide +kernel
theorem d_L_law_583 : decode code 583 = .ok (.iconst 1, 1) := by decide +kernel
theorem d_L_law_584 : decode code 584 = .ok (.iadd, 1) := by decide +kernel
theorem d_L_law_585 : decode code 585 = .ok (.iaload, 1) := by decide +kernel
theorem d_L_law_586 : decode code 586 = .ok (.invokevirtual 64, 3) := by decide +kernel
theorem d_L_law_589 : decode code 589 = .ok (.pop, 1) := by decide +kernel
theorem d_L_law_590 : decode code 590 = .ok (.goto 475, 3) := by decide +kernel
theorem d_L_law_593 : decode code 593 = .ok (.aload_n 1, 1) := by decide +kernel
theorem d_L_law_594 : decode code 594 = .ok (.aload_n 0, 1) := by decide +kernel
theorem d_L_law_595 : decode code 595 = .ok (.iload_n 3, 1) := by decide +kernel
theorem d_L_law_596 : decode code 596 = .ok (.iconst 1, 1) := by decide +kernel
theorem d_L_law_597 : decode code 597 = .ok (.iadd, 1) := by decide +kernel
theorem d_L_law_598 : decode code 598 = .ok (.iaload, 1) := by decide +kernel
theorem d_L_law_599 : decode code 599 = .ok (.aload_n 0, 1) := by decide +kernel
theorem d_L_law_600 : decode code 600 = .ok (.iload_n 3, 1) := by decide +kernel
theorem d_L_law_601 : decode code 601 = .ok (.iconst 2, 1) := by decide +kernel
theorem d_L_law_602 : decode code 602 = .ok (.iadd, 1) := by decide +kernel
theorem d_L_law_603 : decode code 603 = .ok (.iaload, 1) := by decide +kernel
theorem d_L_law_604 : decode code 604 = .ok (.invokevirtual 65, 3) := by decide +kernel
theorem d_L_law_607 : decode code 607 = .ok (.pop, 1) := by decide +kernel
theorem d_L_law_608 : decode code 608 = .ok (.aload_n 2, 1) := by decide +kernel
theorem d_L_law_609 : decode code 609 = .ok (.aload_n 0, 1) := by decide +kernel
theorem d_L_law_610 : decode code 610 = .ok (.iload_n 3, 1) := by decide +kernel
theorem d_L_law_611 : decode code 611 = .ok (.iconst 1, 1) := by decide +kernel
theorem d_L_law_612 : decode code 612 = .ok (.iadd, 1) := by decide +kernel
theorem d_L_law_613 : decode code 613 = .ok (.iaload, 1) := by decide +kernel
theorem d_L_law_614 : decode code 614 = .ok (.aload_n 0, 1) := by decide +kernel
theorem d_L_law_615 : decode code 615 = .ok (.iload_n 3, 1) := by decide +kernel
theorem d_L_law_616 : decode code 616 = .ok (.iconst 2, 1) := by decide +kernel
theorem d_L_law_617 : decode code 617 = .ok (.iadd, 1) := by decide +kernel
theorem d_L_law_618 : decode code 618 = .ok (.iaload, 1) := by decide +kernel
theorem d_L_law_619 : decode code 619 = .ok (.invokevirtual 68, 3) := by decide +kernel
theorem d_L_law_622 : decode code 622 = .ok (.pop, 1) := by decide +kernel
theorem d_L_law_623 : decode code 623 = .ok (.goto 442, 3) := by decide +kernel
theorem d_L_law_626 : decode code 626 = .ok (.aload_n 1, 1) := by decide +kernel
theorem d_L_law_627 : decode code 627 = .ok (.aload_n 0, 1) := by decide +kernel
theorem d_L_law_628 : decode code 628 = .ok (.iload_n 3, 1) := by decide +kernel
theorem d_L_law_629 : decode code 629 = .ok (.iconst 1, 1) := by decide +kernel
theorem d_L_law_630 : decode code 630 = .ok (.iadd, 1) := by decide +kernel
theorem d_L_law_631 : decode code 631 = .ok (.iaload, 1) := by decide +kernel
theorem d_L_law_632 : decode code 632 = .ok (.invokevirtual 69, 3) := by decide +kernel
theorem d_L_law_635 : decode code 635 = .ok (.pop, 1) := by decide +kernel
theorem d_L_law_636 : decode code 636 = .ok (.aload_n 2, 1) := by decide +kernel
theorem d_L_law_637 : decode code 637 = .ok (.aload_n 0, 1) := by decide +kernel
theorem d_L_law_638 : decode code 638 = .ok (.iload_n 3, 1) := by decide +kernel
theorem d_L_law_639 : decode code 639 = .ok (.iconst 1, 1) := by decide +kernel
theorem d_L_law_640 : decode code 640 = .ok (.iadd, 1) := by decide +kernel
theorem d_L_law_641 : decode code 641 = .ok (.iaload, 1) := by decide +kernel
theorem d_L_law_642 : decode code 642 = .ok (.invokevirtual 72, 3) := by decide +kernel
theorem d_L_law_645 : decode code 645 = .ok (.pop, 1) := by decide +kernel
theorem d_L_law_646 : decode code 646 = .ok (.goto 419, 3) := by decide +kernel
theorem d_L_law_649 : decode code 649 = .ok (.aload_n 1, 1) := by decide +kernel
theorem d_L_law_650 : decode code 650 = .ok (.aload_n 0, 1) := by decide +kernel
theorem d_L_law_651 : decode code 651 = .ok (.iload_n 3, 1) := by decide +kernel
theorem d_L_law_652 : decode code 652 = .ok (.iconst 1, 1) := by decide +kernel
theorem d_L_law_653 : decode code 653 = .ok (.iadd, 1) := by decide +kernel
theorem d_L_law_654 : decode code 654 = .ok (.iaload, 1) := by decide +kernel
theorem d_L_law_655 : decode code 655 = .ok (.aload_n 0, 1) := by decide +kernel
theorem d_L_law_656 : decode code 656 = .ok (.iload_n 3, 1) := by decide +kernel
theorem d_L_law_657 : decode code 657 = .ok (.iconst 2, 1) := by decide +kernel
theorem d_L_law_658 : decode code 658 = .ok (.iadd, 1) := by decide +kernel
theorem d_L_law_659 : decode code 659 = .ok (.iaload, 1) := by decide +kernel
theorem d_L_law_660 : decode code 660 = .ok (.aload_n 0, 1) := by decide +kernel
theorem d_L_law_661 : decode code 661 = .ok (.iload_n 3, 1) := by decide +kernel
theorem d_L_law_662 : decode code 662 = .ok (.iconst 3, 1) := by decide +kernel
theorem d_L_law_663 : decode code 663 = .ok (.iadd, 1) := by decide +kernel
theorem d_L_law_664 : decode code 664 = .ok (.iaload, 1) := by decide +kernel
theorem d_L_law_665 : decode code 665 = .ok (.invokevirtual 73, 3) := by decide +kernel
theorem d_L_law_668 : decode code 668 = .ok (.pop, 1) := by decide +kernel
theorem d_L_law_669 : decode code 669 = .ok (.aload_n 2, 1) := by decide +kernel
theorem d_L_law_670 : decode code 670 = .ok (.aload_n 0, 1) := by decide +kernel
theorem d_L_law_671 : decode code 671 = .ok (.iload_n 3, 1) := by decide +kernel
theorem d_L_law_672 : decode code 672 = .ok (.iconst 1, 1) := by decide +kernel
theorem d_L_law_673 : decode code 673 = .ok (.iadd, 1) := by decide +kernel
theorem d_L_law_674 : decode code 674 = .ok (.iaload, 1) := by decide +kernel
theorem d_L_law_675 : decode code 675 = .ok (.aload_n 0, 1) := by decide +kernel
theorem d_L_law_676 : decode code 676 = .ok (.iload_n 3, 1) := by decide +kernel
theorem d_L_law_677 : decode code 677 = .ok (.iconst 2, 1) := by decide +kernel
theorem d_L_law_678 : decode code 678 = .ok (.iadd, 1) := by decide +kernel
theorem d_L_law_679 : decode code 679 = .ok (.iaload, 1) := by decide +kernel
theorem d_L_law_680 : decode code 680 = .ok (.aload_n 0, 1) := by decide +kernel
theorem d_L_law_681 : decode code 681 = .ok (.iload_n 3, 1) := by decide +kernel
theorem d_L_law_682 : decode code 682 = .ok (.iconst 3, 1) := by decide +kernel
theorem d_L_law_683 : decode code 683 = .ok (.iadd, 1) := by decide +kernel
theorem d_L_law_684 : decode code 684 = .ok (.iaload, 1) := by decide +kernel
theorem d_L_law_685 : decode code 685 = .ok (.invokevirtual 76, 3) := by decide +kernel
theorem d_L_law_688 : decode code 688 = .ok (.pop, 1) := by decide +kernel
theorem d_L_law_689 : decode code 689 = .ok (.goto 376, 3) := by decide +kernel
theorem d_L_law_692 : decode code 692 = .ok (.aload_n 1, 1) := by decide +kernel
theorem d_L_law_693 : decode code 693 = .ok (.aload_n 0, 1) := by decide +kernel
theorem d_L_law_694 : decode code 694 = .ok (.iload_n 3, 1) := by decide +kernel
theorem d_L_law_695 : decode code 695 = .ok (.iconst 1, 1) := by decide +kernel
theorem d_L_law_696 : decode code 696 = .ok (.iadd, 1) := by decide +kernel
theorem d_L_law_697 : decode code 697 = .ok (.iaload, 1) := by decide +kernel
theorem d_L_law_698 : decode code 698 = .ok (.aload_n 0, 1) := by decide +kernel
theorem d_L_law_699 : decode code 699 = .ok (.iload_n 3, 1) := by decide +kernel
theorem d_L_law_700 : decode code 700 = .ok (.iconst 2, 1) := by decide +kernel
theorem d_L_law_701 : decode code 701 = .ok (.iadd, 1) := by decide +kernel
theorem d_L_law_702 : decode code 702 = .ok (.iaload, 1) := by decide +kernel
theorem d_L_law_703 : decode code 703 = .ok (.invokevirtual 77, 3) := by decide +kernel
theorem d_L_law_706 : decode code 706 = .ok (.pop, 1) := by decide +kernel
theorem d_L_law_707 : decode code 707 = .ok (.aload_n 2, 1) := by decide +kernel
theorem d_L_law_708 : decode code 708 = .ok (.aload_n 0, 1) := by decide +kernel
theorem d_L_law_709 : decode code 709 = .ok (.iload_n 3, 1) := by decide +kernel
theorem d_L_law_710 : decode code 710 = .ok (.iconst 1, 1) := by decide +kernel
theorem d_L_law_711 : decode code 711 = .ok (.iadd, 1) := by decide +kernel
theorem d_L_law_712 : decode code 712 = .ok (.iaload, 1) := by decide +kernel
theorem d_L_law_713 : decode code 713 = .ok (.aload_n 0, 1) := by decide +kernel
theorem d_L_law_714 : decode code 714 = .ok (.iload_n 3, 1) := by decide +kernel
theorem d_L_law_715 : decode code 715 = .ok (.iconst 2, 1) := by decide +kernel
theorem d_L_law_716 : decode code 716 = .ok (.iadd, 1) := by decide +kernel
theorem d_L_law_717 : decode code 717 = .ok (.iaload, 1) := by decide +kernel
theorem d_L_law_718 : decode code 718 = .ok (.invokevirtual 80, 3) := by decide +kernel
theorem d_L_law_721 : decode code 721 = .ok (.pop, 1) := by decide +kernel
theorem d_L_law_722 : decode code 722 = .ok (.goto 343, 3) := by decide +kernel
theorem d_L_law_725 : decode code 725 = .ok (.aload_n 1, 1) := by decide +kernel
theorem d_L_law_726 : decode code 726 = .ok (.aload_n 0, 1) := by decide +kernel
theorem d_L_law_727 : decode code 727 = .ok (.iload_n 3, 1) := by decide +kernel
theorem d_L_law_728 : decode code 728 = .ok (.iconst 1, 1) := by decide +kernel
theorem d_L_law_729 : decode code 729 = .ok (.iadd, 1) := by decide +kernel
theorem d_L_law_730 : decode code 730 = .ok (.iaload, 1) := by decide +kernel
theorem d_L_law_731 : decode code 731 = .ok (.aload_n 0, 1) := by decide +kernel
theorem d_L_law_732 : decode code 732 = .ok (.iload_n 3, 1) := by decide +kernel
theorem d_L_law_733 : decode code 733 = .ok (.iconst 2, 1) := by decide +kernel
theorem d_L_law_734 : decode code 734 = .ok (.iadd, 1) := by decide +kernel
theorem d_L_law_735 : decode code 735 = .ok (.iaload, 1) := by decide +kernel
theorem d_L_law_736 : decode code 736 = .ok (.invokevirtual 81, 3) := by decide +kernel
theorem d_L_law_739 : decode code 739 = .ok (.aload_n 2, 1) := by decide +kernel
theorem d_L_law_740 : decode code 740 = .ok (.aload_n 0, 1) := by decide +kernel
theorem d_L_law_741 : decode code 741 = .ok (.iload_n 3, 1) := by decide +kernel
theorem d_L_law_742 : decode code 742 = .ok (.iconst 1, 1) := by decide +kernel
theorem d_L_law_743 : decode code 743 = .ok (.iadd, 1) := by decide +kernel
theorem d_L_law_744 : decode code 744 = .ok (.iaload, 1) := by decide +kernel
theorem d_L_law_745 : decode code 745 = .ok (.aload_n 0, 1) := by decide +kernel
theorem d_L_law_746 : decode code 746 = .ok (.iload_n 3, 1) := by decide +kernel
theorem d_L_law_747 : decode code 747 = .ok (.iconst 2, 1) := by decide +kernel
theorem d_L_law_748 : decode code 748 = .ok (.iadd, 1) := by decide +kernel
theorem d_L_law_749 : decode code 749 = .ok (.iaload, 1) := by decide +kernel
theorem d_L_law_750 : decode code 750 = .ok (.invokevirtual 84, 3) := by decide +kernel
theorem d_L_law_753 : decode code 753 = .ok (.if_icmp .eq 312, 3) := by decide +kernel
theorem d_L_law_756 : decode code 756 = .ok (.iconst 0, 1) := by decide +kernel
theorem d_L_law_757 : decode code 757 = .ok (.ireturn, 1) := by decide +kernel
theorem d_L_law_758 : decode code 758 = .ok (.aload_n 1, 1) := by decide +kernel
theorem d_L_law_759 : decode code 759 = .ok (.aload_n 0, 1) := by decide +kernel
theorem d_L_law_760 : decode code 760 = .ok (.iload_n 3, 1) := by decide +kernel
theorem d_L_law_761 : decode code 761 = .ok (.iconst 1, 1) := by decide +kernel
theorem d_L_law_762 : decode code 762 = .ok (.iadd, 1) := by decide +kernel
theorem d_L_law_763 : decode code 763 = .ok (.iaload, 1) := by decide +kernel
theorem d_L_law_764 : decode code 764 = .ok (.invokevirtual 85, 3) := by decide +kernel
theorem d_L_law_767 : decode code 767 = .ok (.pop, 1) := by decide +kernel
theorem d_L_law_768 : decode code 768 = .ok (.aload_n 2, 1) := by decide +kernel
theorem d_L_law_769 : decode code 769 = .ok (.aload_n 0, 1) := by decide +kernel
theorem d_L_law_770 : decode code 770 = .ok (.iload_n 3, 1) := by decide +kernel
theorem d_L_law_771 : decode code 771 = .ok (.iconst 1, 1) := by decide +kernel
theorem d_L_law_772 : decode code 772 = .ok (.iadd, 1) := by decide +kernel
theorem d_L_law_773 : decode code 773 = .ok (.iaload, 1) := by decide +kernel
theorem d_L_law_774 : decode code 774 = .ok (.invokevirtual 88, 3) := by decide +kernel
theorem d_L_law_777 : decode code 777 = .ok (.pop, 1) := by decide +kernel
theorem d_L_law_778 : decode code 778 = .ok (.goto 287, 3) := by decide +kernel
theorem d_L_law_781 : decode code 781 = .ok (.aload_n 1, 1) := by decide +kernel
theorem d_L_law_782 : decode code 782 = .ok (.aload_n 0, 1) := by decide +kernel
theorem d_L_law_783 : decode code 783 = .ok (.iload_n 3, 1) := by decide +kernel
theorem d_L_law_784 : decode code 784 = .ok (.iconst 1, 1) := by decide +kernel
theorem d_L_law_785 : decode code 785 = .ok (.iadd, 1) := by decide +kernel
theorem d_L_law_786 : decode code 786 = .ok (.iaload, 1) := by decide +kernel
theorem d_L_law_787 : decode code 787 = .ok (.invokevirtual 89, 3) := by decide +kernel
theorem d_L_law_790 : decode code 790 = .ok (.pop, 1) := by decide +kernel
theorem d_L_law_791 : decode code 791 = .ok (.aload_n 2, 1) := by decide +kernel
theorem d_L_law_792 : decode code 792 = .ok (.aload_n 0, 1) := by decide +kernel
theorem d_L_law_793 : decode code 793 = .ok (.iload_n 3, 1) := by decide +kernel
theorem d_L_law_794 : decode code 794 = .ok (.iconst 1, 1) := by decide +kernel
theorem d_L_law_795 : decode code 795 = .ok (.iadd, 1) := by decide +kernel
theorem d_L_law_796 : decode code 796 = .ok (.iaload, 1) := by decide +kernel
theorem d_L_law_797 : decode code 797 = .ok (.invokevirtual 92, 3) := by decide +kernel
theorem d_L_law_800 : decode code 800 = .ok (.pop, 1) := by decide +kernel
theorem d_L_law_801 : decode code 801 = .ok (.goto 264, 3) := by decide +kernel
theorem d_L_law_804 : decode code 804 = .ok (.aload_n 1, 1) := by decide +kernel
theorem d_L_law_805 : decode code 805 = .ok (.aload_n 0, 1) := by decide +kernel
theorem d_L_law_806 : decode code 806 = .ok (.iload_n 3, 1) := by decide +kernel
theorem d_L_law_807 : decode code 807 = .ok (.iconst 1, 1) := by decide +kernel
theorem d_L_law_808 : decode code 808 = .ok (.iadd, 1) := by decide +kernel
theorem d_L_law_809 : decode code 809 = .ok (.iaload, 1) := by decide +kernel
theorem d_L_law_810 : decode code 810 = .ok (.aload_n 0, 1) := by decide +kernel
theorem d_L_law_811 : decode code 811 = .ok (.iload_n 3, 1) := by decide +kernel
theorem d_L_law_812 : decode code 812 = .ok (.iconst 2, 1) := by decide +kernel
theorem d_L_law_813 : decode code 813 = .ok (.iadd, 1) := by decide +kernel
theorem d_L_law_814 : decode code 814 = .ok (.iaload, 1) := by decide +kernel
theorem d_L_law_815 : decode code 815 = .ok (.invokevirtual 93, 3) := by decide +kernel
theorem d_L_law_818 : decode code 818 = .ok (.pop, 1) := by decide +kernel
theorem d_L_law_819 : decode code 819 = .ok (.aload_n 2, 1) := by decide +kernel
theorem d_L_law_820 : decode code 820 = .ok (.aload_n 0, 1) := by decide +kernel
theorem d_L_law_821 : decode code 821 = .ok (.iload_n 3, 1) := by decide +kernel
theorem d_L_law_822 : decode code 822 = .ok (.iconst 1, 1) := by decide +kernel
theorem d_L_law_823 : decode code 823 = .ok (.iadd, 1) := by decide +kernel
theorem d_L_law_824 : decode code 824 = .ok (.iaload, 1) := by decide +kernel
theorem d_L_law_825 : decode code 825 = .ok (.aload_n 0, 1) := by decide +kernel
theorem d_L_law_826 : decode code 826 = .ok (.iload_n 3, 1) := by decide +kernel
theorem d_L_law_827 : decode code 827 = .ok (.iconst 2, 1) := by decide +kernel
theorem d_L_law_828 : decode code 828 = .ok (.iadd, 1) := by decide +kernel
theorem d_L_law_829 : decode code 829 = .ok (.iaload, 1) := by decide +kernel
theorem d_L_law_830 : decode code 830 = .ok (.invokevirtual 96, 3) := by decide +kernel
theorem d_L_law_833 : decode code 833 = .ok (.pop, 1) := by decide +kernel
theorem d_L_law_834 : decode code 834 = .ok (.goto 231, 3) := by decide +kernel
theorem d_L_law_837 : decode code 837 = .ok (.aload_n 1, 1) := by decide +kernel
theorem d_L_law_838 : decode code 838 = .ok (.aload_n 0, 1) := by decide +kernel
theorem d_L_law_839 : decode code 839 = .ok (.iload_n 3, 1) := by decide +kernel
theorem d_L_law_840 : decode code 840 = .ok (.iconst 1, 1) := by decide +kernel
theorem d_L_law_841 : decode code 841 = .ok (.iadd, 1) := by decide +kernel
theorem d_L_law_842 : decode code 842 = .ok (.iaload, 1) := by decide +kernel
theorem d_L_law_843 : decode code 843 = .ok (.aload_n 0, 1) := by decide +kernel
theorem d_L_law_844 : decode code 844 = .ok (.iload_n 3, 1) := by decide +kernel
theorem d_L_law_845 : decode code 845 = .ok (.iconst 2, 1) := by decide +kernel
theorem d_L_law_846 : decode code 846 = .ok (.iadd, 1) := by decide +kernel
theorem d_L_law_847 : decode code 847 = .ok (.iaload, 1) := by decide +kernel
theorem d_L_law_848 : decode code 848 = .ok (.aload_n 0, 1) := by decide +kernel
theorem d_L_law_849 : decode code 849 = .ok (.iload_n 3, 1) := by decide +kernel
theorem d_L_law_850 : decode code 850 = .ok (.iconst 3, 1) := by decide +kernel
theorem d_L_law_851 : decode code 851 = .ok (.iadd, 1) := by decide +kernel
theorem d_L_law_852 : decode code 852 = .ok (.iaload, 1) := by decide +kernel
theorem d_L_law_853 : decode code 853 = .ok (.aload_n 0, 1) := by decide +kernel
theorem d_L_law_854 : decode code 854 = .ok (.iload_n 3, 1) := by decide +kernel
theorem d_L_law_855 : decode code 855 = .ok (.iconst 4, 1) := by decide +kernel
theorem d_L_law_856 : decode code 856 = .ok (.iadd, 1) := by decide +kernel
theorem d_L_law_857 : decode code 857 = .ok (.iaload, 1) := by decide +kernel
theorem d_L_law_858 : decode code 858 = .ok (.invokevirtual 97, 3) := by decide +kernel
theorem d_L_law_861 : decode code 861 = .ok (.pop, 1) := by decide +kernel
theorem d_L_law_862 : decode code 862 = .ok (.aload_n 2, 1) := by decide +kernel
theorem d_L_law_863 : decode code 863 = .ok (.aload_n 0, 1) := by decide +kernel
theorem d_L_law_864 : decode code 864 = .ok (.iload_n 3, 1) := by decide +kernel
theorem d_L_law_865 : decode code 865 = .ok (.iconst 1, 1) := by decide +kernel
theorem d_L_law_866 : decode code 866 = .ok (.iadd, 1) := by decide +kernel
theorem d_L_law_867 : decode code 867 = .ok (.iaload, 1) := by decide +kernel
theorem d_L_law_868 : decode code 868 = .ok (.aload_n 0, 1) := by decide +kernel
theorem d_L_law_869 : decode code 869 = .ok (.iload_n 3, 1) := by decide +kernel
theorem d_L_law_870 : decode code 870 = .ok (.iconst 2, 1) := by decide +kernel
theorem d_L_law_871 : decode code 871 = .ok (.iadd, 1) := by decide +kernel
theorem d_L_law_872 : decode code 872 = .ok (.iaload, 1) := by decide +kernel
theorem d_L_law_873 : decode code 873 = .ok (.aload_n 0, 1) := by decide +kernel
theorem d_L_law_874 : decode code 874 = .ok (.iload_n 3, 1) := by decide +kernel
theorem d_L_law_875 : decode code 875 = .ok (.iconst 3, 1) := by decide +kernel
theorem d_L_law_876 : decode code 876 = .ok (.iadd, 1) := by decide +kernel
theorem d_L_law_877 : decode code 877 = .ok (.iaload, 1) := by decide +kernel
theorem d_L_law_878 : decode code 878 = .ok (.aload_n 0, 1) := by decide +kernel
theorem d_L_law_879 : decode code 879 = .ok (.iload_n 3, 1) := by decide +kernel
theorem d_L_law_880 : decode code 880 = .ok (.iconst 4, 1) := by decide +kernel
theorem d_L_law_881 : decode code 881 = .ok (.iadd, 1) := by decide +kernel
theorem d_L_law_882 : decode code 882 = .ok (.iaload, 1) := by decide +kernel
theorem d_L_law_883 : decode code 883 = .ok (.invokevirtual 100, 3) := by decide +kernel
theorem d_L_law_886 : decode code 886 = .ok (.pop, 1) := by decide +kernel
theorem d_L_law_887 : decode code 887 = .ok (.goto 178, 3) := by decide +kernel
theorem d_L_law_890 : decode code 890 = .ok (.aload_n 1, 1) := by decide +kernel
theorem d_L_law_891 : decode code 891 = .ok (.aload_n 0, 1) := by decide +kernel
theorem d_L_law_892 : decode code 892 = .ok (.iload_n 3, 1) := by decide +kernel
theorem d_L_law_893 : decode code 893 = .ok (.iconst 1, 1) := by decide +kernel
theorem d_L_law_894 : decode code 894 = .ok (.iadd, 1) := by decide +kernel
theorem d_L_law_895 : decode code 895 = .ok (.iaload, 1) := by decide +kernel
theorem d_L_law_896 : decode code 896 = .ok (.aload_n 0, 1) := by decide +kernel
theorem d_L_law_897 : decode code 897 = .ok (.iload_n 3, 1) := by decide +kernel
theorem d_L_law_898 : decode code 898 = .ok (.iconst 2, 1) := by decide +kernel
theorem d_L_law_899 : decode code 899 = .ok (.iadd, 1) := by decide +kernel
theorem d_L_law_900 : decode code 900 = .ok (.iaload, 1) := by decide +kernel
theorem d_L_law_901 : decode code 901 = .ok (.invokevirtual 101, 3) := by decide +kernel
theorem d_L_law_904 : decode code 904 = .ok (.pop, 1) := by decide +kernel
theorem d_L_law_905 : decode code 905 = .ok (.aload_n 2, 1) := by decide +kernel
theorem d_L_law_906 : decode code 906 = .ok (.aload_n 0, 1) := by decide +kernel
theorem d_L_law_907 : decode code 907 = .ok (.iload_n 3, 1) := by decide +kernel
theorem d_L_law_908 : decode code 908 = .ok (.iconst 1, 1) := by decide +kernel
theorem d_L_law_909 : decode code 909 = .ok (.iadd, 1) := by decide +kernel
theorem d_L_law_910 : decode code 910 = .ok (.iaload, 1) := by decide +kernel
theorem d_L_law_911 : decode code 911 = .ok (.aload_n 0, 1) := by decide +kernel
theorem d_L_law_912 : decode code 912 = .ok (.iload_n 3, 1) := by decide +kernel
theorem d_L_law_913 : decode code 913 = .ok (.iconst 2, 1) := by decide +kernel
theorem d_L_law_914 : decode code 914 = .ok (.iadd, 1) := by decide +kernel
theorem d_L_law_915 : decode code 915 = .ok (.iaload, 1) := by decide +kernel
theorem d_L_law_916 : decode code 916 = .ok (.invokevirtual 104, 3) := by decide +kernel
theorem d_L_law_919 : decode code 919 = .ok (.pop, 1) := by decide +kernel
theorem d_L_law_920 : decode code 920 = .ok (.goto 145, 3) := by decide +kernel
theorem d_L_law_923 : decode code 923 = .ok (.aload_n 1, 1) := by decide +kernel
theorem d_L_law_924 : decode code 924 = .ok (.aload_n 0, 1) := by decide +kernel
theorem d_L_law_925 : decode code 925 = .ok (.iload_n 3, 1) := by decide +kernel
theorem d_L_law_926 : decode code 926 = .ok (.iconst 1, 1) := by decide +kernel
theorem d_L_law_927 : decode code 927 = .ok (.iadd, 1) := by decide +kernel
theorem d_L_law_928 : decode code 928 = .ok (.iaload, 1) := by decide +kernel
theorem d_L_law_929 : decode code 929 = .ok (.aload_n 0, 1) := by decide +kernel
theorem d_L_law_930 : decode code 930 = .ok (.iload_n 3, 1) := by decide +kernel
theorem d_L_law_931 : decode code 931 = .ok (.iconst 2, 1) := by decide +kernel
theorem d_L_law_932 : decode code 932 = .ok (.iadd, 1) := by decide +kernel
theorem d_L_law_933 : decode code 933 = .ok (.iaload, 1) := by decide +kernel
theorem d_L_law_934 : decode code 934 = .ok (.invokevirtual 105, 3) := by decide +kernel
theorem d_L_law_937 : decode code 937 = .ok (.pop, 1) := by decide +kernel
theorem d_L_law_938 : decode code 938 = .ok (.aload_n 2, 1) := by decide +kernel
theorem d_L_law_939 : decode code 939 = .ok (.aload_n 0, 1) := by decide +kernel
theorem d_L_law_940 : decode code 940 = .ok (.iload_n 3, 1) := by decide +kernel
theorem d_L_law_941 : decode code 941 = .ok (.iconst 1, 1) := by decide +kernel
theorem d_L_law_942 : decode code 942 = .ok (.iadd, 1) := by decide +kernel
theorem d_L_law_943 : decode code 943 = .ok (.iaload, 1) := by decide +kernel
theorem d_L_law_944 : decode code 944 = .ok (.aload_n 0, 1) := by decide +kernel
theorem d_L_law_945 : decode code 945 = .ok (.iload_n 3, 1) := by decide +kernel
theorem d_L_law_946 : decode code 946 = .ok (.iconst 2, 1) := by decide +kernel
theorem d_L_law_947 : decode code 947 = .ok (.iadd, 1) := by decide +kernel
theorem d_L_law_948 : decode code 948 = .ok (.iaload, 1) := by decide +kernel
theorem d_L_law_949 : decode code 949 = .ok (.invokevirtual 108, 3) := by decide +kernel
theorem d_L_law_952 : decode code 952 = .ok (.pop, 1) := by decide +kernel
theorem d_L_law_953 : decode code 953 = .ok (.goto 112, 3) := by decide +kernel
theorem d_L_law_956 : decode code 956 = .ok (.aload_n 1, 1) := by decide +kernel
theorem d_L_law_957 : decode code 957 = .ok (.aload_n 0, 1) := by decide +kernel
theorem d_L_law_958 : decode code 958 = .ok (.iload_n 3, 1) := by decide +kernel
theorem d_L_law_959 : decode code 959 = .ok (.iconst 1, 1) := by decide +kernel
theorem d_L_law_960 : decode code 960 = .ok (.iadd, 1) := by decide +kernel
theorem d_L_law_961 : decode code 961 = .ok (.iaload, 1) := by decide +kernel
theorem d_L_law_962 : decode code 962 = .ok (.aload_n 0, 1) := by decide +kernel
theorem d_L_law_963 : decode code 963 = .ok (.iload_n 3, 1) := by decide +kernel
theorem d_L_law_964 : decode code 964 = .ok (.iconst 2, 1) := by decide +kernel
theorem d_L_law_965 : decode code 965 = .ok (.iadd, 1) := by decide +kernel
theorem d_L_law_966 : decode code 966 = .ok (.iaload, 1) := by decide +kernel
theorem d_L_law_967 : decode code 967 = .ok (.aload_n 0, 1) := by decide +kernel
theorem d_L_law_968 : decode code 968 = .ok (.iload_n 3, 1) := by decide +kernel
theorem d_L_law_969 : decode code 969 = .ok (.iconst 3, 1) := by decide +kernel
theorem d_L_law_970 : decode code 970 = .ok (.iadd, 1) := by decide +kernel
theorem d_L_law_971 : decode code 971 = .ok (.iaload, 1) := by decide +kernel
theorem d_L_law_972 : decode code 972 = .ok (.aload_n 0, 1) := by decide +kernel
theorem d_L_law_973 : decode code 973 = .ok (.iload_n 3, 1) := by decide +kernel
theorem d_L_law_974 : decode code 974 = .ok (.iconst 4, 1) := by decide +kernel
theorem d_L_law_975 : decode code 975 = .ok (.iadd, 1) := by decide +kernel
theorem d_L_law_976 : decode code 976 = .ok (.iaload, 1) := by decide +kernel
theorem d_L_law_977 : decode code 977 = .ok (.aload_n 0, 1) := by decide +kernel
theorem d_L_law_978 : decode code 978 = .ok (.iload_n 3, 1) := by decide +kernel
theorem d_L_law_979 : decode code 979 = .ok (.iconst 5, 1) := by decide +kernel
theorem d_L_law_980 : decode code 980 = .ok (.iadd, 1) := by decide +kernel
theorem d_L_law_981 : decode code 981 = .ok (.iaload, 1) := by decide +kernel
theorem d_L_law_982 : decode code 982 = .ok (.invokevirtual 109, 3) := by decide +kernel
theorem d_L_law_985 : decode code 985 = .ok (.pop, 1) := by decide +kernel
theorem d_L_law_986 : decode code 986 = .ok (.aload_n 2, 1) := by decide +kernel
theorem d_L_law_987 : decode code 987 = .ok (.aload_n 0, 1) := by decide +kernel
theorem d_L_law_988 : decode code 988 = .ok (.iload_n 3, 1) := by decide +kernel
theorem d_L_law_989 : decode code 989 = .ok (.iconst 1, 1) := by decide +kernel
theorem d_L_law_990 : decode code 990 = .ok (.iadd, 1) := by decide +kernel
theorem d_L_law_991 : decode code 991 = .ok (.iaload, 1) := by decide +kernel
theorem d_L_law_992 : decode code 992 = .ok (.aload_n 0, 1) := by decide +kernel
theorem d_L_law_993 : decode code 993 = .ok (.iload_n 3, 1) := by decide +kernel
theorem d_L_law_994 : decode code 994 = .ok (.iconst 2, 1) := by decide +kernel
theorem d_L_law_995 : decode code 995 = .ok (.iadd, 1) := by decide +kernel
theorem d_L_law_996 : decode code 996 = .ok (.iaload, 1) := by decide +kernel
theorem d_L_law_997 : decode code 997 = .ok (.aload_n 0, 1) := by decide +kernel
theorem d_L_law_998 : decode code 998 = .ok (.iload_n 3, 1) := by decide +kernel
theorem d_L_law_999 : decode code 999 = .ok (.iconst 3, 1) := by decide +kernel
theorem d_L_law_1000 : decode code 1000 = .ok (.iadd, 1) := by decide +kernel
theorem d_L_law_1001 : decode code 1001 = .ok (.iaload, 1) := by decide +kernel
theorem d_L_law_1002 : decode code 1002 = .ok (.aload_n 0, 1) := by decide +kernel
theorem d_L_law_1003 : decode code 1003 = .ok (.iload_n 3, 1) := by decide +kernel
theorem d_L_law_1004 : decode code 1004 = .ok (.iconst 4, 1) := by decide +kernel
theorem d_L_law_1005 : decode code 1005 = .ok (.iadd, 1) := by decide +kernel
theorem d_L_law_1006 : decode code 1006 = .ok (.iaload, 1) := by decide +kernel
theorem d_L_law_1007 : decode code 1007 = .ok (.aload_n 0, 1) := by decide +kernel
theorem d_L_law_1008 : decode code 1008 = .ok (.iload_n 3, 1) := by decide +kernel
theorem d_L_law_1009 : decode code 1009 = .ok (.iconst 5, 1) := by decide +kernel
theorem d_L_law_1010 : decode code 1010 = .ok (.iadd, 1) := by decide +kernel
theorem d_L_law_1011 : decode code 1011 = .ok (.iaload, 1) := by decide +kernel
theorem d_L_law_1012 : decode code 1012 = .ok (.invokevirtual 113, 3) := by decide +kernel
theorem d_L_law_1015 : decode code 1015 = .ok (.pop, 1) := by decide +kernel
theorem d_L_law_1016 : decode code 1016 = .ok (.goto 49, 3) := by decide +kernel
theorem d_L_law_1019 : decode code 1019 = .ok (.aload_n 1, 1) := by decide +kernel
theorem d_L_law_1020 : decode code 1020 = .ok (.aload_n 0, 1) := by decide +kernel
theorem d_L_law_1021 : decode code 1021 = .ok (.iload_n 3, 1) := by decide +kernel
theorem d_L_law_1022 : decode code 1022 = .ok (.iconst 1, 1) := by decide +kernel
theorem d_L_law_1023 : decode code 1023 = .ok (.iadd, 1) := by decide +kernel
theorem d_L_law_1024 : decode code 1024 = .ok (.iaload, 1) := by decide +kernel
theorem d_L_law_1025 : decode code 1025 = .ok (.invokevirtual 114, 3) := by decide +kernel
theorem d_L_law_1028 : decode code 1028 = .ok (.pop, 1) := by decide +kernel
theorem d_L_law_1029 : decode code 1029 = .ok (.aload_n 2, 1) := by decide +kernel
theorem d_L_law_1030 : decode code 1030 = .ok (.aload_n 0, 1) := by decide +kernel
theorem d_L_law_1031 : decode code 1031 = .ok (.iload_n 3, 1) := by decide +kernel
theorem d_L_law_1032 : decode code 1032 = .ok (.iconst 1, 1) := by decide +kernel
theorem d_L_law_1033 : decode code 1033 = .ok (.iadd, 1) := by decide +kernel
theorem d_L_law_1034 : decode code 1034 = .ok (.iaload, 1) := by decide +kernel
theorem d_L_law_1035 : decode code 1035 = .ok (.invokevirtual 117, 3) := by decide +kernel
theorem d_L_law_1038 : decode code 1038 = .ok (.pop, 1) := by decide +kernel
theorem d_L_law_1039 : decode code 1039 = .ok (.goto 26, 3) := by decide +kernel
theorem d_L_law_1042 : decode code 1042 = .ok (.aload_n 1, 1) := by decide +kernel
theorem d_L_law_1043 : decode code 1043 = .ok (.aload_n 0, 1) := by decide +kernel
theorem d_L_law_1044 : decode code 1044 = .ok (.iload_n 3, 1) := by decide +kernel
theorem d_L_law_1045 : decode code 1045 = .ok (.iconst 1, 1) := by decide +kernel
theorem d_L_law_1046 : decode code 1046 = .ok (.iadd, 1) := by decide +kernel
theorem d_L_law_1047 : decode code 1047 = .ok (.iaload, 1) := by decide +kernel
theorem d_L_law_1048 : decode code 1048 = .ok (.invokevirtual 118, 3) := by decide +kernel
theorem d_L_law_1051 : decode code 1051 = .ok (.pop, 1) := by decide +kernel
theorem d_L_law_1052 : decode code 1052 = .ok (.aload_n 2, 1) := by decide +kernel
theorem d_L_law_1053 : decode code 1053 = .ok (.aload_n 0, 1) := by decide +kernel
theorem d_L_law_1054 : decode code 1054 = .ok (.iload_n 3, 1) := by decide +kernel
theorem d_L_law_1055 : decode code 1055 = .ok (.iconst 1, 1) := by decide +kernel
theorem d_L_law_1056 : decode code 1056 = .ok (.iadd, 1) := by decide +kernel
theorem d_L_law_1057 : decode code 1057 = .ok (.iaload, 1) := by decide +kernel
theorem d_L_law_1058 : decode code 1058 = .ok (.invokevirtual 121, 3) := by decide +kernel
theorem d_L_law_1061 : decode code 1061 = .ok (.pop, 1) := by decide +kernel
theorem d_L_law_1062 : decode code 1062 = .ok (.goto 3, 3) := by decide +kernel
theorem d_L_law_1065 : decode code 1065 = .ok (.iinc 3 7, 3) := by decide +kernel
theorem d_L_law_1068 : decode code 1068 = .ok (.goto (-1050), 3) := by decide +kernel
theorem d_L_law_1071 : decode code 1071 = .ok (.iconst 1, 1) := by decide +kernel
theorem d_L_law_1072 : decode code 1072 = .ok (.ireturn, 1) := by decide +kernel
set_option maxRecDepth 1000000 in
theorem gc_L_13 : GoodIn BIG [.methodLink R_law 13 m_X10_ship, .instanceMethod m_X10_ship, .selects N_X10 m_X10_ship m_X10_ship, .initialized N_X10, .code m_X10_ship c_X10_ship 8 (some .int)] := tb_good5 [397, 398, 399, 37, 400] rfl (by decide +kernel) (by decide +kernel)
set_option maxRecDepth 1000000 in
theorem gc_L_17 : GoodIn BIG [.methodLink R_law 17 m_X11_ship, .instanceMethod m_X11_ship, .selects N_X11 m_X11_ship m_X11_ship, .initialized N_X11, .code m_X11_ship c_X11_ship 8 (some .int)] := tb_good5 [1023, 1024, 1025, 48, 1026] rfl (by decide +kernel) (by decide +kernel)
set_option maxRecDepth 1000000 in
theorem gc_L_18 : GoodIn BIG [.methodLink R_law 18 m_X10_ask, .instanceMethod m_X10_ask, .selects N_X10 m_X10_ask m_X10_ask, .initialized N_X10, .code m_X10_ask c_X10_ask 4 (some .int)] := tb_good5 [411, 412, 413, 37, 414] rfl (by decide +kernel) (by decide +kernel)
set_option maxRecDepth 1000000 in
theorem gc_L_22 : GoodIn BIG [.methodLink R_law 22 m_X11_ask, .instanceMethod m_X11_ask, .selects N_X11 m_X11_ask m_X11_ask, .initialized N_X11, .code m_X11_ask c_X11_ask 4 (some .int)] := tb_good5 [1030, 1031, 1032, 48, 1033] rfl (by decide +kernel) (by decide +kernel)
set_option maxRecDepth 1000000 in
theorem gc_L_23 : GoodIn BIG [.methodLink R_law 23 m_X10_wreck, .instanceMethod m_X10_wreck, .selects N_X10 m_X10_wreck m_X10_wreck, .initialized N_X10, .code m_X10_wreck c_X10_wreck 4 (some .int)] := tb_good5 [420, 421, 422, 37, 423] rfl (by decide +kernel) (by decide +kernel)
set_option maxRecDepth 1000000 in
theorem gc_L_26 : GoodIn BIG [.methodLink R_law 26 m_X11_wreck, .instanceMethod m_X11_wreck, .selects N_X11 m_X11_wreck m_X11_wreck, .initialized N_X11, .code m_X11_wreck c_X11_wreck 3 (some .int)] := tb_good5 [1038, 1039, 1040, 48, 1041] rfl (by decide +kernel) (by decide +kernel)
set_option maxRecDepth 1000000 in
theorem gc_L_27 : GoodIn BIG [.methodLink R_law 27 m_X10_goOn, .instanceMethod m_X10_goOn, .selects N_X10 m_X10_goOn m_X10_goOn, .initialized N_X10, .code m_X10_goOn c_X10_goOn 3 (some .int)] := tb_good5 [432, 433, 434, 37, 435] rfl (by decide +kernel) (by decide +kernel)
set_option maxRecDepth 1000000 in
theorem gc_L_31 : GoodIn BIG [.methodLink R_law 31 m_X11_goOn, .instanceMethod m_X11_goOn, .selects N_X11 m_X11_goOn m_X11_goOn, .initialized N_X11, .code m_X11_goOn c_X11_goOn 2 (some .int)] := tb_good5 [1046, 1047, 1048, 48, 1049] rfl (by decide +kernel) (by decide +kernel)
set_option maxRecDepth 1000000 in
theorem gc_L_32 : GoodIn BIG [.methodLink R_law 32 m_X10_buyer, .instanceMethod m_X10_buyer, .selects N_X10 m_X10_buyer m_X10_buyer, .initialized N_X10, .code m_X10_buyer c_X10_buyer 5 (some .int)] := tb_good5 [440, 441, 442, 37, 443] rfl (by decide +kernel) (by decide +kernel)
set_option maxRecDepth 1000000 in
theorem gc_L_36 : GoodIn BIG [.methodLink R_law 36 m_X11_buyer, .instanceMethod m_X11_buyer, .selects N_X11 m_X11_buyer m_X11_buyer, .initialized N_X11, .code m_X11_buyer c_X11_buyer 5 (some .int)] := tb_good5 [1050, 1051, 1052, 48, 1053] rfl (by decide +kernel) (by decide +kernel)
set_option maxRecDepth 1000000 in
theorem gc_L_37 : GoodIn BIG [.methodLink R_law 37 m_X10_want, .instanceMethod m_X10_want, .selects N_X10 m_X10_want m_X10_want, .initialized N_X10, .code m_X10_want c_X10_want 6 (some .int)] := tb_good5 [457, 458, 459, 37, 460] rfl (by decide +kernel) (by decide +kernel)
set_option maxRecDepth 1000000 in
theorem gc_L_41 : GoodIn BIG [.methodLink R_law 41 m_X11_want, .instanceMethod m_X11_want, .selects N_X11 m_X11_want m_X11_want, .initialized N_X11, .code m_X11_want c_X11_want 5 (some .int)] := tb_good5 [1057, 1058, 1059, 48, 1060] rfl (by decide +kernel) (by decide +kernel)
set_option maxRecDepth 1000000 in
theorem gc_L_42 : GoodIn BIG [.methodLink R_law 42 m_X10_burn, .instanceMethod m_X10_burn, .selects N_X10 m_X10_burn m_X10_burn, .initialized N_X10, .code m_X10_burn c_X10_burn 6 (some .int)] := tb_good5 [461, 462, 463, 37, 464] rfl (by decide +kernel) (by decide +kernel)
set_option maxRecDepth 1000000 in
theorem gc_L_45 : GoodIn BIG [.methodLink R_law 45 m_X11_burn, .instanceMethod m_X11_burn, .selects N_X11 m_X11_burn m_X11_burn, .initialized N_X11, .code m_X11_burn c_X11_burn 5 (some .int)] := tb_good5 [1065, 1066, 1067, 48, 1068] rfl (by decide +kernel) (by decide +kernel)
set_option maxRecDepth 1000000 in
theorem gc_L_46 : GoodIn BIG [.methodLink R_law 46 m_X10_store, .instanceMethod m_X10_store, .selects N_X10 m_X10_store m_X10_store, .initialized N_X10, .code m_X10_store c_X10_store 3 (some .int)] := tb_good5 [468, 469, 470, 37, 471] rfl (by decide +kernel) (by decide +kernel)
set_option maxRecDepth 1000000 in
theorem gc_L_49 : GoodIn BIG [.methodLink R_law 49 m_X11_store, .instanceMethod m_X11_store, .selects N_X11 m_X11_store m_X11_store, .initialized N_X11, .code m_X11_store c_X11_store 3 (some .int)] := tb_good5 [1069, 1070, 1071, 48, 1072] rfl (by decide +kernel) (by decide +kernel)
set_option maxRecDepth 1000000 in
theorem gc_L_52 : GoodIn BIG [.methodLink R_law 52 m_X10_feed, .instanceMethod m_X10_feed, .selects N_X10 m_X10_feed m_X10_feed, .initialized N_X10, .code m_X10_feed c_X10_feed 5 (some .int)] := tb_good5 [472, 473, 474, 37, 475] rfl (by decide +kernel) (by decide +kernel)
set_option maxRecDepth 1000000 in
theorem gc_L_56 : GoodIn BIG [.methodLink R_law 56 m_X11_feed, .instanceMethod m_X11_feed, .selects N_X11 m_X11_feed m_X11_feed, .initialized N_X11, .code m_X11_feed c_X11_feed 5 (some .int)] := tb_good5 [1073, 1074, 1075, 48, 1076] rfl (by decide +kernel) (by decide +kernel)
set_option maxRecDepth 1000000 in
theorem gc_L_57 : GoodIn BIG [.methodLink R_law 57 m_X10_order, .instanceMethod m_X10_order, .selects N_X10 m_X10_order m_X10_order, .initialized N_X10, .code m_X10_order c_X10_order 4 (some .int)] := tb_good5 [480, 481, 482, 37, 483] rfl (by decide +kernel) (by decide +kernel)
set_option maxRecDepth 1000000 in
theorem gc_L_60 : GoodIn BIG [.methodLink R_law 60 m_X11_order, .instanceMethod m_X11_order, .selects N_X11 m_X11_order m_X11_order, .initialized N_X11, .code m_X11_order c_X11_order 3 (some .int)] := tb_good5 [1077, 1078, 1079, 48, 1080] rfl (by decide +kernel) (by decide +kernel)
set_option maxRecDepth 1000000 in
theorem gc_L_61 : GoodIn BIG [.methodLink R_law 61 m_X10_force, .instanceMethod m_X10_force, .selects N_X10 m_X10_force m_X10_force, .initialized N_X10, .code m_X10_force c_X10_force 2 (some .int)] := tb_good5 [578, 579, 580, 37, 581] rfl (by decide +kernel) (by decide +kernel)
set_option maxRecDepth 1000000 in
theorem gc_L_64 : GoodIn BIG [.methodLink R_law 64 m_X11_force, .instanceMethod m_X11_force, .selects N_X11 m_X11_force m_X11_force, .initialized N_X11, .code m_X11_force c_X11_force 2 (some .int)] := tb_good5 [1104, 1105, 1106, 48, 1107] rfl (by decide +kernel) (by decide +kernel)
set_option maxRecDepth 1000000 in
theorem gc_L_65 : GoodIn BIG [.methodLink R_law 65 m_X10_many, .instanceMethod m_X10_many, .selects N_X10 m_X10_many m_X10_many, .initialized N_X10, .code m_X10_many c_X10_many 3 (some .int)] := tb_good5 [586, 587, 588, 37, 589] rfl (by decide +kernel) (by decide +kernel)
set_option maxRecDepth 1000000 in
theorem gc_L_68 : GoodIn BIG [.methodLink R_law 68 m_X11_many, .instanceMethod m_X11_many, .selects N_X11 m_X11_many m_X11_many, .initialized N_X11, .code m_X11_many c_X11_many 3 (some .int)] := tb_good5 [1112, 1113, 1114, 48, 1115] rfl (by decide +kernel) (by decide +kernel)
set_option maxRecDepth 1000000 in
theorem gc_L_69 : GoodIn BIG [.methodLink R_law 69 m_X10_turn, .instanceMethod m_X10_turn, .selects N_X10 m_X10_turn m_X10_turn, .initialized N_X10, .code m_X10_turn c_X10_turn 2 (some .int)] := tb_good5 [599, 600, 601, 37, 602] rfl (by decide +kernel) (by decide +kernel)
set_option maxRecDepth 1000000 in
theorem gc_L_72 : GoodIn BIG [.methodLink R_law 72 m_X11_turn, .instanceMethod m_X11_turn, .selects N_X11 m_X11_turn m_X11_turn, .initialized N_X11, .code m_X11_turn c_X11_turn 2 (some .int)] := tb_good5 [1120, 1121, 1122, 48, 1123] rfl (by decide +kernel) (by decide +kernel)
set_option maxRecDepth 1000000 in
theorem gc_L_73 : GoodIn BIG [.methodLink R_law 73 m_X10_day, .instanceMethod m_X10_day, .selects N_X10 m_X10_day m_X10_day, .initialized N_X10, .code m_X10_day c_X10_day 4 (some .int)] := tb_good5 [633, 634, 635, 37, 636] rfl (by decide +kernel) (by decide +kernel)
set_option maxRecDepth 1000000 in
theorem gc_L_76 : GoodIn BIG [.methodLink R_law 76 m_X11_day, .instanceMethod m_X11_day, .selects N_X11 m_X11_day m_X11_day, .initialized N_X11, .code m_X11_day c_X11_day 4 (some .int)] := tb_good5 [1136, 1137, 1138, 48, 1139] rfl (by decide +kernel) (by decide +kernel)
set_option maxRecDepth 1000000 in
theorem gc_L_77 : GoodIn BIG [.methodLink R_law 77 m_X10_about, .instanceMethod m_X10_about, .selects N_X10 m_X10_about m_X10_about, .initialized N_X10, .code m_X10_about c_X10_about 3 (some .int)] := tb_good5 [719, 720, 721, 37, 722] rfl (by decide +kernel) (by decide +kernel)
set_option maxRecDepth 1000000 in
theorem gc_L_80 : GoodIn BIG [.methodLink R_law 80 m_X11_about, .instanceMethod m_X11_about, .selects N_X11 m_X11_about m_X11_about, .initialized N_X11, .code m_X11_about c_X11_about 3 (some .int)] := tb_good5 [1168, 1169, 1170, 48, 1171] rfl (by decide +kernel) (by decide +kernel)
set_option maxRecDepth 1000000 in
theorem gc_L_81 : GoodIn BIG [.methodLink R_law 81 m_X10_bargain, .instanceMethod m_X10_bargain, .selects N_X10 m_X10_bargain m_X10_bargain, .initialized N_X10, .code m_X10_bargain c_X10_bargain 3 (some .int)] := tb_good5 [727, 728, 729, 37, 730] rfl (by decide +kernel) (by decide +kernel)
set_option maxRecDepth 1000000 in
theorem gc_L_84 : GoodIn BIG [.methodLink R_law 84 m_X11_bargain, .instanceMethod m_X11_bargain, .selects N_X11 m_X11_bargain m_X11_bargain, .initialized N_X11, .code m_X11_bargain c_X11_bargain 3 (some .int)] := tb_good5 [1172, 1173, 1174, 48, 1175] rfl (by decide +kernel) (by decide +kernel)
set_option maxRecDepth 1000000 in
theorem gc_L_85 : GoodIn BIG [.methodLink R_law 85 m_X10_clear, .instanceMethod m_X10_clear, .selects N_X10 m_X10_clear m_X10_clear, .initialized N_X10, .code m_X10_clear c_X10_clear 2 (some .int)] := tb_good5 [736, 737, 738, 37, 739] rfl (by decide +kernel) (by decide +kernel)
set_option maxRecDepth 1000000 in
theorem gc_L_88 : GoodIn BIG [.methodLink R_law 88 m_X11_clear, .instanceMethod m_X11_clear, .selects N_X11 m_X11_clear m_X11_clear, .initialized N_X11, .code m_X11_clear c_X11_clear 8 (some .int)] := tb_good5 [1176, 1177, 1178, 48, 1179] rfl (by decide +kernel) (by decide +kernel)
set_option maxRecDepth 1000000 in
theorem gc_L_89 : GoodIn BIG [.methodLink R_law 89 m_X10_held, .instanceMethod m_X10_held, .selects N_X10 m_X10_held m_X10_held, .initialized N_X10, .code m_X10_held c_X10_held 3 (some .int)] := tb_good5 [759, 760, 761, 37, 762] rfl (by decide +kernel) (by decide +kernel)
set_option maxRecDepth 1000000 in
theorem gc_L_92 : GoodIn BIG [.methodLink R_law 92 m_X11_held, .instanceMethod m_X11_held, .selects N_X11 m_X11_held m_X11_held, .initialized N_X11, .code m_X11_held c_X11_held 5 (some .int)] := tb_good5 [1184, 1185, 1186, 48, 1187] rfl (by decide +kernel) (by decide +kernel)
set_option maxRecDepth 1000000 in
theorem gc_L_93 : GoodIn BIG [.methodLink R_law 93 m_X10_measure, .instanceMethod m_X10_measure, .selects N_X10 m_X10_measure m_X10_measure, .initialized N_X10, .code m_X10_measure c_X10_measure 3 (some .int)] := tb_good5 [767, 768, 769, 37, 770] rfl (by decide +kernel) (by decide +kernel)
set_option maxRecDepth 1000000 in
theorem gc_L_96 : GoodIn BIG [.methodLink R_law 96 m_X11_measure, .instanceMethod m_X11_measure, .selects N_X11 m_X11_measure m_X11_measure, .initialized N_X11, .code m_X11_measure c_X11_measure 3 (some .int)] := tb_good5 [1192, 1193, 1194, 48, 1195] rfl (by decide +kernel) (by decide +kernel)
set_option maxRecDepth 1000000 in
theorem gc_L_97 : GoodIn BIG [.methodLink R_law 97 m_X10_weighed, .instanceMethod m_X10_weighed, .selects N_X10 m_X10_weighed m_X10_weighed, .initialized N_X10, .code m_X10_weighed c_X10_weighed 7 (some .int)] := tb_good5 [771, 772, 773, 37, 774] rfl (by decide +kernel) (by decide +kernel)
set_option maxRecDepth 1000000 in
theorem gc_L_100 : GoodIn BIG [.methodLink R_law 100 m_X11_weighed, .instanceMethod m_X11_weighed, .selects N_X11 m_X11_weighed m_X11_weighed, .initialized N_X11, .code m_X11_weighed c_X11_weighed 7 (some .int)] := tb_good5 [1196, 1197, 1198, 48, 1199] rfl (by decide +kernel) (by decide +kernel)
set_option maxRecDepth 1000000 in
theorem gc_L_101 : GoodIn BIG [.methodLink R_law 101 m_X10_ward, .instanceMethod m_X10_ward, .selects N_X10 m_X10_ward m_X10_ward, .initialized N_X10, .code m_X10_ward c_X10_ward 3 (some .int)] := tb_good5 [775, 776, 777, 37, 778] rfl (by decide +kernel) (by decide +kernel)
set_option maxRecDepth 1000000 in
theorem gc_L_104 : GoodIn BIG [.methodLink R_law 104 m_X11_ward, .instanceMethod m_X11_ward, .selects N_X11 m_X11_ward m_X11_ward, .initialized N_X11, .code m_X11_ward c_X11_ward 3 (some .int)] := tb_good5 [1200, 1201, 1202, 48, 1203] rfl (by decide +kernel) (by decide +kernel)
set_option maxRecDepth 1000000 in
theorem gc_L_105 : GoodIn BIG [.methodLink R_law 105 m_X10_lasts, .instanceMethod m_X10_lasts, .selects N_X10 m_X10_lasts m_X10_lasts, .initialized N_X10, .code m_X10_lasts c_X10_lasts 4 (some .int)] := tb_good5 [783, 784, 785, 37, 786] rfl (by decide +kernel) (by decide +kernel)
set_option maxRecDepth 1000000 in
theorem gc_L_108 : GoodIn BIG [.methodLink R_law 108 m_X11_lasts, .instanceMethod m_X11_lasts, .selects N_X11 m_X11_lasts m_X11_lasts, .initialized N_X11, .code m_X11_lasts c_X11_lasts 4 (some .int)] := tb_good5 [1204, 1205, 1206, 48, 1207] rfl (by decide +kernel) (by decide +kernel)
set_option maxRecDepth 1000000 in
theorem gc_L_109 : GoodIn BIG [.methodLink R_law 109 m_X10_tried, .instanceMethod m_X10_tried, .selects N_X10 m_X10_tried m_X10_tried, .initialized N_X10, .code m_X10_tried c_X10_tried 9 (some .int)] := tb_good5 [788, 789, 790, 37, 791] rfl (by decide +kernel) (by decide +kernel)
set_option maxRecDepth 1000000 in
theorem gc_L_113 : GoodIn BIG [.methodLink R_law 113 m_X11_tried, .instanceMethod m_X11_tried, .selects N_X11 m_X11_tried m_X11_tried, .initialized N_X11, .code m_X11_tried c_X11_tried 9 (some .int)] := tb_good5 [1208, 1209, 1210, 48, 1211] rfl (by decide +kernel) (by decide +kernel)
set_option maxRecDepth 1000000 in
theorem gc_L_114 : GoodIn BIG [.methodLink R_law 114 m_X10_count, .instanceMethod m_X10_count, .selects N_X10 m_X10_count m_X10_count, .initialized N_X10, .code m_X10_count c_X10_count 2 (some .int)] := tb_good5 [800, 801, 802, 37, 803] rfl (by decide +kernel) (by decide +kernel)
set_option maxRecDepth 1000000 in
theorem gc_L_117 : GoodIn BIG [.methodLink R_law 117 m_X11_count, .instanceMethod m_X11_count, .selects N_X11 m_X11_count m_X11_count, .initialized N_X11, .code m_X11_count c_X11_count 4 (some .int)] := tb_good5 [1224, 1225, 1226, 48, 1227] rfl (by decide +kernel) (by decide +kernel)
set_option maxRecDepth 1000000 in
theorem gc_L_118 : GoodIn BIG [.methodLink R_law 118 m_X10_factor, .instanceMethod m_X10_factor, .selects N_X10 m_X10_factor m_X10_factor, .initialized N_X10, .code m_X10_factor c_X10_factor 2 (some .int)] := tb_good5 [808, 809, 810, 37, 811] rfl (by decide +kernel) (by decide +kernel)
set_option maxRecDepth 1000000 in
theorem gc_L_121 : GoodIn BIG [.methodLink R_law 121 m_X11_factor, .instanceMethod m_X11_factor, .selects N_X11 m_X11_factor m_X11_factor, .initialized N_X11, .code m_X11_factor c_X11_factor 4 (some .int)] := tb_good5 [1228, 1229, 1230, 48, 1231] rfl (by decide +kernel) (by decide +kernel)
set_option maxRecDepth 1000000 in
theorem gi_L_9 : GoodIn BIG [.methodLink R_law 9 m_X10_init, .instanceMethod m_X10_init, .initialized N_X10, .code m_X10_init c_X10_init 1 none] := tb_good5 [58, 59, 37, 60] rfl (by decide +kernel) (by decide +kernel)
theorem kl_L_7 : Cond.classLink R_law 7 N_X10 ∈ BIG := tb_in 56 (by decide +kernel) rfl
set_option maxRecDepth 1000000 in
theorem gi_L_12 : GoodIn BIG [.methodLink R_law 12 m_X11_init, .instanceMethod m_X11_init, .initialized N_X11, .code m_X11_init c_X11_init 1 none] := tb_good5 [818, 819, 48, 820] rfl (by decide +kernel) (by decide +kernel)
theorem kl_L_10 : Cond.classLink R_law 10 N_X11 ∈ BIG := tb_in 816 (by decide +kernel) rfl
theorem kj_L_50 : Cond.constantLong R_law 50 4294967295 ∈ BIG := tb_in 1232 (by decide +kernel) rfl
/-- what the law knows as it goes -/
def LX (p : Program) (s : State) (m : MethodId) (c : Code) (b L : Nat) (xs : Nat → Int32) (D : va_G) (dA : Nat → ClassId) (ad sa : Nat → Nat) : Prop :=
  CX p s m #[Value.ref b] c code R_law 4 D dA ∧ va_X b L xs s s.heap ∧ b < s.heap.size ∧ ¬ tA ad b ∧ SC sa (tA ad) s s.heap ∧ L ≤ 3584
section R27
variable {p : Program} {l : Launch} {e : Env} {s : State} {m : MethodId} {below : List Frame} {meth : Method} {c : Code} {b L : Nat} {xs : Nat → Int32} {D : va_G} {dA : Nat → ClassId} {ad sa : Nat → Nat} {Q : State → Prop}
set_option maxHeartbeats 4000000 in
set_option maxRecDepth 100000 in
theorem lc_0 (Y : LX p s m c b L xs D dA ad sa) {v : tV} {H : Heap} {locs : List Loc} {ls : Array Slot} {x3 : Int32} (hI : Inv v) (hR : RelS v) (hw : tI D dA ad v H) (hS : va_S (tA ad) s.heap H locs) (hl : lv_has ls 4 [(0, .ref b), (1, .ref (ad 0)), (2, .ref (ad 400)), (3, .int x3)]) (h0 : 0 ≤ x3.toInt) (h7 : x3.toInt + 7 ≤ (L : Int))
    (kk : ∀ (v' : tV) (H : Heap) (locs : List Loc), Inv v' → RelS v' → tI D dA ad v' H → va_S (tA ad) s.heap H locs → W p l e room_1 s m #[Value.ref b] below meth c H locs 600000 7302250 Q (F0 m 1065 ls [])) : W p l e room_1 s m #[Value.ref b] below meth c H locs 600000 7302250 Q (F0 m 148 ls []) := by
  obtain ⟨X, hsx, hbl, hbA, hSC, hL⟩ := Y
  have hx := X.1
  have hb := X.2.1
  have rx3 : Rg x3 0 3577 := ⟨h0, by omega⟩
  refine lv_aload_n hx hb d_L_law_148 rfl (lv_at hl 1 rfl) ?_
  refine lv_aload_n hx hb d_L_law_149 rfl (lv_at hl 0 rfl) ?_
  refine lv_iload_n hx hb d_L_law_150 rfl (lv_at hl 3 rfl) ?_
  refine lv_iconst (v := 1) hx hb d_L_law_151 (by decide) ?_
  refine lv_iadd hx hb d_L_law_152 ?_
  refine lv_topi (fun x1 ex1 => ?_)
  have r2 : Rg x1 1 3578 := rg_add ex1 rx3 (⟨by decide, by decide⟩ : Rg 1 1 1) (by decide) (by decide)
  have s3 : x1.toInt = x3.toInt + (1 : Int32).toInt := by rw [ex1]; exact i_add (by obtain ⟨_, _⟩ := rx3; obtain ⟨_, _⟩ := (⟨by decide, by decide⟩ : Rg 1 1 1); omega) (by obtain ⟨_, _⟩ := rx3; obtain ⟨_, _⟩ := (⟨by decide, by decide⟩ : Rg 1 1 1); omega)
  have s3l : (1 : Int32).toInt = 1 := rfl
  refine va_sld hx hb hsx hbl hbA hS (vp_in_iff.mpr ⟨by omega, by omega⟩) d_L_law_153 ?_
  refine lv_topi (fun x4 ex4 => ?_)
  refine lv_aload_n hx hb d_L_law_154 rfl (lv_at hl 0 rfl) ?_
  refine lv_iload_n hx hb d_L_law_155 rfl (lv_at hl 3 rfl) ?_
  refine lv_iconst (v := 2) hx hb d_L_law_156 (by decide) ?_
  refine lv_iadd hx hb d_L_law_157 ?_
  refine lv_topi (fun x5 ex5 => ?_)
  have r6 : Rg x5 2 3579 := rg_add ex5 rx3 (⟨by decide, by decide⟩ : Rg 2 2 2) (by decide) (by decide)
  have s7 : x5.toInt = x3.toInt + (2 : Int32).toInt := by rw [ex5]; exact i_add (by obtain ⟨_, _⟩ := rx3; obtain ⟨_, _⟩ := (⟨by decide, by decide⟩ : Rg 2 2 2); omega) (by obtain ⟨_, _⟩ := rx3; obtain ⟨_, _⟩ := (⟨by decide, by decide⟩ : Rg 2 2 2); omega)
  have s7l : (2 : Int32).toInt = 2 := rfl
  refine va_sld hx hb hsx hbl hbA hS (vp_in_iff.mpr ⟨by omega, by omega⟩) d_L_law_158 ?_
  refine lv_topi (fun x8 ex8 => ?_)
  refine lv_aload_n hx hb d_L_law_159 rfl (lv_at hl 0 rfl) ?_
  refine lv_iload_n hx hb d_L_law_160 rfl (lv_at hl 3 rfl) ?_
  refine lv_iconst (v := 3) hx hb d_L_law_161 (by decide) ?_
  refine lv_iadd hx hb d_L_law_162 ?_
  refine lv_topi (fun x9 ex9 => ?_)
  have r10 : Rg x9 3 3580 := rg_add ex9 rx3 (⟨by decide, by decide⟩ : Rg 3 3 3) (by decide) (by decide)
  have s11 : x9.toInt = x3.toInt + (3 : Int32).toInt := by rw [ex9]; exact i_add (by obtain ⟨_, _⟩ := rx3; obtain ⟨_, _⟩ := (⟨by decide, by decide⟩ : Rg 3 3 3); omega) (by obtain ⟨_, _⟩ := rx3; obtain ⟨_, _⟩ := (⟨by decide, by decide⟩ : Rg 3 3 3); omega)
  have s11l : (3 : Int32).toInt = 3 := rfl
  refine va_sld hx hb hsx hbl hbA hS (vp_in_iff.mpr ⟨by omega, by omega⟩) d_L_law_163 ?_
  refine lv_topi (fun x12 ex12 => ?_)
  refine lv_aload_n hx hb d_L_law_164 rfl (lv_at hl 0 rfl) ?_
  refine lv_iload_n hx hb d_L_law_165 rfl (lv_at hl 3 rfl) ?_
  refine lv_iconst (v := 4) hx hb d_L_law_166 (by decide) ?_
  refine lv_iadd hx hb d_L_law_167 ?_
  refine lv_topi (fun x13 ex13 => ?_)
  have r14 : Rg x13 4 3581 := rg_add ex13 rx3 (⟨by decide, by decide⟩ : Rg 4 4 4) (by decide) (by decide)
  have s15 : x13.toInt = x3.toInt + (4 : Int32).toInt := by rw [ex13]; exact i_add (by obtain ⟨_, _⟩ := rx3; obtain ⟨_, _⟩ := (⟨by decide, by decide⟩ : Rg 4 4 4); omega) (by obtain ⟨_, _⟩ := rx3; obtain ⟨_, _⟩ := (⟨by decide, by decide⟩ : Rg 4 4 4); omega)
  have s15l : (4 : Int32).toInt = 4 := rfl
  refine va_sld hx hb hsx hbl hbA hS (vp_in_iff.mpr ⟨by omega, by omega⟩) d_L_law_168 ?_
  refine lv_topi (fun x16 ex16 => ?_)
  refine lv_aload_n hx hb d_L_law_169 rfl (lv_at hl 0 rfl) ?_
  refine lv_iload_n hx hb d_L_law_170 rfl (lv_at hl 3 rfl) ?_
  refine lv_iconst (v := 5) hx hb d_L_law_171 (by decide) ?_
  refine lv_iadd hx hb d_L_law_172 ?_
  refine lv_topi (fun x17 ex17 => ?_)
  have r18 : Rg x17 5 3582 := rg_add ex17 rx3 (⟨by decide, by decide⟩ : Rg 5 5 5) (by decide) (by decide)
  have s19 : x17.toInt = x3.toInt + (5 : Int32).toInt := by rw [ex17]; exact i_add (by obtain ⟨_, _⟩ := rx3; obtain ⟨_, _⟩ := (⟨by decide, by decide⟩ : Rg 5 5 5); omega) (by obtain ⟨_, _⟩ := rx3; obtain ⟨_, _⟩ := (⟨by decide, by decide⟩ : Rg 5 5 5); omega)
  have s19l : (5 : Int32).toInt = 5 := rfl
  refine va_sld hx hb hsx hbl hbA hS (vp_in_iff.mpr ⟨by omega, by omega⟩) d_L_law_173 ?_
  refine lv_topi (fun x20 ex20 => ?_)
  refine lv_aload_n hx hb d_L_law_174 rfl (lv_at hl 0 rfl) ?_
  refine lv_iload_n hx hb d_L_law_175 rfl (lv_at hl 3 rfl) ?_
  refine lv_bipush (v := 6) hx hb d_L_law_176 (by decide) ?_
  refine lv_iadd hx hb d_L_law_178 ?_
  refine lv_topi (fun x21 ex21 => ?_)
  have r22 : Rg x21 6 3583 := rg_add ex21 rx3 (⟨by decide, by decide⟩ : Rg 6 6 6) (by decide) (by decide)
  have s23 : x21.toInt = x3.toInt + (6 : Int32).toInt := by rw [ex21]; exact i_add (by obtain ⟨_, _⟩ := rx3; obtain ⟨_, _⟩ := (⟨by decide, by decide⟩ : Rg 6 6 6); omega) (by obtain ⟨_, _⟩ := rx3; obtain ⟨_, _⟩ := (⟨by decide, by decide⟩ : Rg 6 6 6); omega)
  have s23l : (6 : Int32).toInt = 6 := rfl
  refine va_sld hx hb hsx hbl hbA hS (vp_in_iff.mpr ⟨by omega, by omega⟩) d_L_law_179 ?_
  refine lv_topi (fun x24 ex24 => ?_)
  refine r_ci (r_runV (n := 6) (As := [.int x4, .int x8, .int x12, .int x16, .int x20, .int x24]) (rest := []) X hw (ct_X10_ship_0 l D dA ad v hI x4 x8 x12 x16 x20 x24) gc_L_13 (rfl : KD 0 = _) (by decide) rfl (by decide +kernel) ⟨rfl, rfl, Nat.le_of_ble_eq_true rfl, Nat.le_of_ble_eq_true rfl⟩ rfl hl.1 rfl (Nat.le_of_ble_eq_true rfl) ⟨Nat.le_of_ble_eq_true rfl, Nat.le_of_ble_eq_true rfl⟩ d_L_law_180) hS (fun x26 v27 H locs hp25 hw hS => ?_)
  obtain ⟨hp25, hE28⟩ := hp25
  obtain ⟨hI29, hK30⟩ := hp25
  refine lv_pop hx hb d_L_law_183 rfl ?_
  refine lv_aload_n hx hb d_L_law_184 rfl (lv_at hl 2 rfl) ?_
  refine lv_aload_n hx hb d_L_law_185 rfl (lv_at hl 0 rfl) ?_
  refine lv_iload_n hx hb d_L_law_186 rfl (lv_at hl 3 rfl) ?_
  refine lv_iconst (v := 1) hx hb d_L_law_187 (by decide) ?_
  refine lv_iadd hx hb d_L_law_188 ?_
  refine lv_topi (fun x31 ex31 => ?_)
  have r32 : Rg x31 1 3578 := rg_add ex31 rx3 (⟨by decide, by decide⟩ : Rg 1 1 1) (by decide) (by decide)
  have s33 : x31.toInt = x3.toInt + (1 : Int32).toInt := by rw [ex31]; exact i_add (by obtain ⟨_, _⟩ := rx3; obtain ⟨_, _⟩ := (⟨by decide, by decide⟩ : Rg 1 1 1); omega) (by obtain ⟨_, _⟩ := rx3; obtain ⟨_, _⟩ := (⟨by decide, by decide⟩ : Rg 1 1 1); omega)
  have s33l : (1 : Int32).toInt = 1 := rfl
  refine va_sld hx hb hsx hbl hbA hS (vp_in_iff.mpr ⟨by omega, by omega⟩) d_L_law_189 ?_
  refine lv_seti (y := x4) (by rw [ex4, ex31, ex1]) ?_
  refine lv_aload_n hx hb d_L_law_190 rfl (lv_at hl 0 rfl) ?_
  refine lv_iload_n hx hb d_L_law_191 rfl (lv_at hl 3 rfl) ?_
  refine lv_iconst (v := 2) hx hb d_L_law_192 (by decide) ?_
  refine lv_iadd hx hb d_L_law_193 ?_
  refine lv_topi (fun x34 ex34 => ?_)
  have r35 : Rg x34 2 3579 := rg_add ex34 rx3 (⟨by decide, by decide⟩ : Rg 2 2 2) (by decide) (by decide)
  have s36 : x34.toInt = x3.toInt + (2 : Int32).toInt := by rw [ex34]; exact i_add (by obtain ⟨_, _⟩ := rx3; obtain ⟨_, _⟩ := (⟨by decide, by decide⟩ : Rg 2 2 2); omega) (by obtain ⟨_, _⟩ := rx3; obtain ⟨_, _⟩ := (⟨by decide, by decide⟩ : Rg 2 2 2); omega)
  have s36l : (2 : Int32).toInt = 2 := rfl
  refine va_sld hx hb hsx hbl hbA hS (vp_in_iff.mpr ⟨by omega, by omega⟩) d_L_law_194 ?_
  refine lv_seti (y := x8) (by rw [ex8, ex34, ex5]) ?_
  refine lv_aload_n hx hb d_L_law_195 rfl (lv_at hl 0 rfl) ?_
  refine lv_iload_n hx hb d_L_law_196 rfl (lv_at hl 3 rfl) ?_
  refine lv_iconst (v := 3) hx hb d_L_law_197 (by decide) ?_
  refine lv_iadd hx hb d_L_law_198 ?_
  refine lv_topi (fun x37 ex37 => ?_)
  have r38 : Rg x37 3 3580 := rg_add ex37 rx3 (⟨by decide, by decide⟩ : Rg 3 3 3) (by decide) (by decide)
  have s39 : x37.toInt = x3.toInt + (3 : Int32).toInt := by rw [ex37]; exact i_add (by obtain ⟨_, _⟩ := rx3; obtain ⟨_, _⟩ := (⟨by decide, by decide⟩ : Rg 3 3 3); omega) (by obtain ⟨_, _⟩ := rx3; obtain ⟨_, _⟩ := (⟨by decide, by decide⟩ : Rg 3 3 3); omega)
  have s39l : (3 : Int32).toInt = 3 := rfl
  refine va_sld hx hb hsx hbl hbA hS (vp_in_iff.mpr ⟨by omega, by omega⟩) d_L_law_199 ?_
  refine lv_seti (y := x12) (by rw [ex12, ex37, ex9]) ?_
  refine lv_aload_n hx hb d_L_law_200 rfl (lv_at hl 0 rfl) ?_
  refine lv_iload_n hx hb d_L_law_201 rfl (lv_at hl 3 rfl) ?_
  refine lv_iconst (v := 4) hx hb d_L_law_202 (by decide) ?_
  refine lv_iadd hx hb d_L_law_203 ?_
  refine lv_topi (fun x40 ex40 => ?_)
  have r41 : Rg x40 4 3581 := rg_add ex40 rx3 (⟨by decide, by decide⟩ : Rg 4 4 4) (by decide) (by decide)
  have s42 : x40.toInt = x3.toInt + (4 : Int32).toInt := by rw [ex40]; exact i_add (by obtain ⟨_, _⟩ := rx3; obtain ⟨_, _⟩ := (⟨by decide, by decide⟩ : Rg 4 4 4); omega) (by obtain ⟨_, _⟩ := rx3; obtain ⟨_, _⟩ := (⟨by decide, by decide⟩ : Rg 4 4 4); omega)
  have s42l : (4 : Int32).toInt = 4 := rfl
  refine va_sld hx hb hsx hbl hbA hS (vp_in_iff.mpr ⟨by omega, by omega⟩) d_L_law_204 ?_
  refine lv_seti (y := x16) (by rw [ex16, ex40, ex13]) ?_
  refine lv_aload_n hx hb d_L_law_205 rfl (lv_at hl 0 rfl) ?_
  refine lv_iload_n hx hb d_L_law_206 rfl (lv_at hl 3 rfl) ?_
  refine lv_iconst (v := 5) hx hb d_L_law_207 (by decide) ?_
  refine lv_iadd hx hb d_L_law_208 ?_
  refine lv_topi (fun x43 ex43 => ?_)
  have r44 : Rg x43 5 3582 := rg_add ex43 rx3 (⟨by decide, by decide⟩ : Rg 5 5 5) (by decide) (by decide)
  have s45 : x43.toInt = x3.toInt + (5 : Int32).toInt := by rw [ex43]; exact i_add (by obtain ⟨_, _⟩ := rx3; obtain ⟨_, _⟩ := (⟨by decide, by decide⟩ : Rg 5 5 5); omega) (by obtain ⟨_, _⟩ := rx3; obtain ⟨_, _⟩ := (⟨by decide, by decide⟩ : Rg 5 5 5); omega)
  have s45l : (5 : Int32).toInt = 5 := rfl
  refine va_sld hx hb hsx hbl hbA hS (vp_in_iff.mpr ⟨by omega, by omega⟩) d_L_law_209 ?_
  refine lv_seti (y := x20) (by rw [ex20, ex43, ex17]) ?_
  refine lv_aload_n hx hb d_L_law_210 rfl (lv_at hl 0 rfl) ?_
  refine lv_iload_n hx hb d_L_law_211 rfl (lv_at hl 3 rfl) ?_
  refine lv_bipush (v := 6) hx hb d_L_law_212 (by decide) ?_
  refine lv_iadd hx hb d_L_law_214 ?_
  refine lv_topi (fun x46 ex46 => ?_)
  have r47 : Rg x46 6 3583 := rg_add ex46 rx3 (⟨by decide, by decide⟩ : Rg 6 6 6) (by decide) (by decide)
  have s48 : x46.toInt = x3.toInt + (6 : Int32).toInt := by rw [ex46]; exact i_add (by obtain ⟨_, _⟩ := rx3; obtain ⟨_, _⟩ := (⟨by decide, by decide⟩ : Rg 6 6 6); omega) (by obtain ⟨_, _⟩ := rx3; obtain ⟨_, _⟩ := (⟨by decide, by decide⟩ : Rg 6 6 6); omega)
  have s48l : (6 : Int32).toInt = 6 := rfl
  refine va_sld hx hb hsx hbl hbA hS (vp_in_iff.mpr ⟨by omega, by omega⟩) d_L_law_215 ?_
  refine lv_seti (y := x24) (by rw [ex24, ex46, ex21]) ?_
  refine r_ci (r_runV (n := 6) (As := [.int x4, .int x8, .int x12, .int x16, .int x20, .int x24]) (rest := []) X hw (ct_X11_ship_400 l D dA ad v27 hI29 x4 x8 x12 x16 x20 x24) gc_L_17 (rfl : KD 400 = _) (by decide) rfl (by decide +kernel) ⟨rfl, rfl, Nat.le_of_ble_eq_true rfl, Nat.le_of_ble_eq_true rfl⟩ rfl hl.1 rfl (Nat.le_of_ble_eq_true rfl) ⟨Nat.le_of_ble_eq_true rfl, Nat.le_of_ble_eq_true rfl⟩ d_L_law_216) hS (fun x50 v51 H locs hp49 hw hS => ?_)
  obtain ⟨hp49, hE52⟩ := hp49
  obtain ⟨hI53, hK54⟩ := hp49
  refine lv_pop hx hb d_L_law_219 rfl ?_
  refine lv_goto (tgt := 1065) hx hb d_L_law_220 (by decide) ?_
  exact kk _ _ _ hI53 (rel_ship x4 x8 x12 x16 x20 x24 hI hR hI29 hK30 hE28 hI53 hK54 hE52) hw hS
set_option maxHeartbeats 4000000 in
set_option maxRecDepth 100000 in
theorem lc_1 (Y : LX p s m c b L xs D dA ad sa) {v : tV} {H : Heap} {locs : List Loc} {ls : Array Slot} {x3 : Int32} (hI : Inv v) (hR : RelS v) (hw : tI D dA ad v H) (hS : va_S (tA ad) s.heap H locs) (hl : lv_has ls 4 [(0, .ref b), (1, .ref (ad 0)), (2, .ref (ad 400)), (3, .int x3)]) (h0 : 0 ≤ x3.toInt) (h7 : x3.toInt + 7 ≤ (L : Int))
    (kk : ∀ (v' : tV) (H : Heap) (locs : List Loc), Inv v' → RelS v' → tI D dA ad v' H → va_S (tA ad) s.heap H locs → W p l e room_1 s m #[Value.ref b] below meth c H locs 600000 7302250 Q (F0 m 1065 ls [])) : W p l e room_1 s m #[Value.ref b] below meth c H locs 600000 7302250 Q (F0 m 223 ls []) := by
  obtain ⟨X, hsx, hbl, hbA, hSC, hL⟩ := Y
  have hx := X.1
  have hb := X.2.1
  have rx3 : Rg x3 0 3577 := ⟨h0, by omega⟩
  refine lv_aload_n hx hb d_L_law_223 rfl (lv_at hl 1 rfl) ?_
  refine lv_aload_n hx hb d_L_law_224 rfl (lv_at hl 0 rfl) ?_
  refine lv_iload_n hx hb d_L_law_225 rfl (lv_at hl 3 rfl) ?_
  refine lv_iconst (v := 1) hx hb d_L_law_226 (by decide) ?_
  refine lv_iadd hx hb d_L_law_227 ?_
  refine lv_topi (fun x1 ex1 => ?_)
  have r2 : Rg x1 1 3578 := rg_add ex1 rx3 (⟨by decide, by decide⟩ : Rg 1 1 1) (by decide) (by decide)
  have s3 : x1.toInt = x3.toInt + (1 : Int32).toInt := by rw [ex1]; exact i_add (by obtain ⟨_, _⟩ := rx3; obtain ⟨_, _⟩ := (⟨by decide, by decide⟩ : Rg 1 1 1); omega) (by obtain ⟨_, _⟩ := rx3; obtain ⟨_, _⟩ := (⟨by decide, by decide⟩ : Rg 1 1 1); omega)
  have s3l : (1 : Int32).toInt = 1 := rfl
  refine va_sld hx hb hsx hbl hbA hS (vp_in_iff.mpr ⟨by omega, by omega⟩) d_L_law_228 ?_
  refine lv_topi (fun x4 ex4 => ?_)
  refine lv_aload_n hx hb d_L_law_229 rfl (lv_at hl 0 rfl) ?_
  refine lv_iload_n hx hb d_L_law_230 rfl (lv_at hl 3 rfl) ?_
  refine lv_iconst (v := 2) hx hb d_L_law_231 (by decide) ?_
  refine lv_iadd hx hb d_L_law_232 ?_
  refine lv_topi (fun x5 ex5 => ?_)
  have r6 : Rg x5 2 3579 := rg_add ex5 rx3 (⟨by decide, by decide⟩ : Rg 2 2 2) (by decide) (by decide)
  have s7 : x5.toInt = x3.toInt + (2 : Int32).toInt := by rw [ex5]; exact i_add (by obtain ⟨_, _⟩ := rx3; obtain ⟨_, _⟩ := (⟨by decide, by decide⟩ : Rg 2 2 2); omega) (by obtain ⟨_, _⟩ := rx3; obtain ⟨_, _⟩ := (⟨by decide, by decide⟩ : Rg 2 2 2); omega)
  have s7l : (2 : Int32).toInt = 2 := rfl
  refine va_sld hx hb hsx hbl hbA hS (vp_in_iff.mpr ⟨by omega, by omega⟩) d_L_law_233 ?_
  refine lv_topi (fun x8 ex8 => ?_)
  refine r_ci (r_runV (n := 2) (As := [.int x4, .int x8]) (rest := []) X hw (ct_X10_ask_0 l D dA ad v hI x4 x8) gc_L_18 (rfl : KD 0 = _) (by decide) rfl (by decide +kernel) ⟨rfl, rfl, Nat.le_of_ble_eq_true rfl, Nat.le_of_ble_eq_true rfl⟩ rfl hl.1 rfl (Nat.le_of_ble_eq_true rfl) ⟨Nat.le_of_ble_eq_true rfl, Nat.le_of_ble_eq_true rfl⟩ d_L_law_234) hS (fun x10 v11 H locs hp9 hw hS => ?_)
  obtain ⟨hp9, hE12⟩ := hp9
  obtain ⟨hI13, hK14⟩ := hp9
  refine lv_pop hx hb d_L_law_237 rfl ?_
  refine lv_aload_n hx hb d_L_law_238 rfl (lv_at hl 2 rfl) ?_
  refine lv_aload_n hx hb d_L_law_239 rfl (lv_at hl 0 rfl) ?_
  refine lv_iload_n hx hb d_L_law_240 rfl (lv_at hl 3 rfl) ?_
  refine lv_iconst (v := 1) hx hb d_L_law_241 (by decide) ?_
  refine lv_iadd hx hb d_L_law_242 ?_
  refine lv_topi (fun x15 ex15 => ?_)
  have r16 : Rg x15 1 3578 := rg_add ex15 rx3 (⟨by decide, by decide⟩ : Rg 1 1 1) (by decide) (by decide)
  have s17 : x15.toInt = x3.toInt + (1 : Int32).toInt := by rw [ex15]; exact i_add (by obtain ⟨_, _⟩ := rx3; obtain ⟨_, _⟩ := (⟨by decide, by decide⟩ : Rg 1 1 1); omega) (by obtain ⟨_, _⟩ := rx3; obtain ⟨_, _⟩ := (⟨by decide, by decide⟩ : Rg 1 1 1); omega)
  have s17l : (1 : Int32).toInt = 1 := rfl
  refine va_sld hx hb hsx hbl hbA hS (vp_in_iff.mpr ⟨by omega, by omega⟩) d_L_law_243 ?_
  refine lv_seti (y := x4) (by rw [ex4, ex15, ex1]) ?_
  refine lv_aload_n hx hb d_L_law_244 rfl (lv_at hl 0 rfl) ?_
  refine lv_iload_n hx hb d_L_law_245 rfl (lv_at hl 3 rfl) ?_
  refine lv_iconst (v := 2) hx hb d_L_law_246 (by decide) ?_
  refine lv_iadd hx hb d_L_law_247 ?_
  refine lv_topi (fun x18 ex18 => ?_)
  have r19 : Rg x18 2 3579 := rg_add ex18 rx3 (⟨by decide, by decide⟩ : Rg 2 2 2) (by decide) (by decide)
  have s20 : x18.toInt = x3.toInt + (2 : Int32).toInt := by rw [ex18]; exact i_add (by obtain ⟨_, _⟩ := rx3; obtain ⟨_, _⟩ := (⟨by decide, by decide⟩ : Rg 2 2 2); omega) (by obtain ⟨_, _⟩ := rx3; obtain ⟨_, _⟩ := (⟨by decide, by decide⟩ : Rg 2 2 2); omega)
  have s20l : (2 : Int32).toInt = 2 := rfl
  refine va_sld hx hb hsx hbl hbA hS (vp_in_iff.mpr ⟨by omega, by omega⟩) d_L_law_248 ?_
  refine lv_seti (y := x8) (by rw [ex8, ex18, ex5]) ?_
  refine r_ci (r_runV (n := 2) (As := [.int x4, .int x8]) (rest := []) X hw (ct_X11_ask_400 l D dA ad v11 hI13 x4 x8) gc_L_22 (rfl : KD 400 = _) (by decide) rfl (by decide +kernel) ⟨rfl, rfl, Nat.le_of_ble_eq_true rfl, Nat.le_of_ble_eq_true rfl⟩ rfl hl.1 rfl (Nat.le_of_ble_eq_true rfl) ⟨Nat.le_of_ble_eq_true rfl, Nat.le_of_ble_eq_true rfl⟩ d_L_law_249) hS (fun x22 v23 H locs hp21 hw hS => ?_)
  obtain ⟨hp21, hE24⟩ := hp21
  obtain ⟨hI25, hK26⟩ := hp21
  refine lv_pop hx hb d_L_law_252 rfl ?_
  refine lv_goto (tgt := 1065) hx hb d_L_law_253 (by decide) ?_
  exact kk _ _ _ hI25 (rel_ask x4 x8 hI hR hI13 hK14 hE12 hI25 hK26 hE24) hw hS
set_option maxHeartbeats 4000000 in
set_option maxRecDepth 100000 in
theorem lc_2 (Y : LX p s m c b L xs D dA ad sa) {v : tV} {H : Heap} {locs : List Loc} {ls : Array Slot} {x3 : Int32} (hI : Inv v) (hR : RelS v) (hw : tI D dA ad v H) (hS : va_S (tA ad) s.heap H locs) (hl : lv_has ls 4 [(0, .ref b), (1, .ref (ad 0)), (2, .ref (ad 400)), (3, .int x3)]) (h0 : 0 ≤ x3.toInt) (h7 : x3.toInt + 7 ≤ (L : Int))
    (kk : ∀ (v' : tV) (H : Heap) (locs : List Loc), Inv v' → RelS v' → tI D dA ad v' H → va_S (tA ad) s.heap H locs → W p l e room_1 s m #[Value.ref b] below meth c H locs 600000 7302250 Q (F0 m 1065 ls [])) : W p l e room_1 s m #[Value.ref b] below meth c H locs 600000 7302250 Q (F0 m 256 ls []) := by
  obtain ⟨X, hsx, hbl, hbA, hSC, hL⟩ := Y
  have hx := X.1
  have hb := X.2.1
  have rx3 : Rg x3 0 3577 := ⟨h0, by omega⟩
  refine lv_aload_n hx hb d_L_law_256 rfl (lv_at hl 1 rfl) ?_
  refine lv_aload_n hx hb d_L_law_257 rfl (lv_at hl 0 rfl) ?_
  refine lv_iload_n hx hb d_L_law_258 rfl (lv_at hl 3 rfl) ?_
  refine lv_iconst (v := 1) hx hb d_L_law_259 (by decide) ?_
  refine lv_iadd hx hb d_L_law_260 ?_
  refine lv_topi (fun x1 ex1 => ?_)
  have r2 : Rg x1 1 3578 := rg_add ex1 rx3 (⟨by decide, by decide⟩ : Rg 1 1 1) (by decide) (by decide)
  have s3 : x1.toInt = x3.toInt + (1 : Int32).toInt := by rw [ex1]; exact i_add (by obtain ⟨_, _⟩ := rx3; obtain ⟨_, _⟩ := (⟨by decide, by decide⟩ : Rg 1 1 1); omega) (by obtain ⟨_, _⟩ := rx3; obtain ⟨_, _⟩ := (⟨by decide, by decide⟩ : Rg 1 1 1); omega)
  have s3l : (1 : Int32).toInt = 1 := rfl
  refine va_sld hx hb hsx hbl hbA hS (vp_in_iff.mpr ⟨by omega, by omega⟩) d_L_law_261 ?_
  refine lv_topi (fun x4 ex4 => ?_)
  refine lv_aload_n hx hb d_L_law_262 rfl (lv_at hl 0 rfl) ?_
  refine lv_iload_n hx hb d_L_law_263 rfl (lv_at hl 3 rfl) ?_
  refine lv_iconst (v := 2) hx hb d_L_law_264 (by decide) ?_
  refine lv_iadd hx hb d_L_law_265 ?_
  refine lv_topi (fun x5 ex5 => ?_)
  have r6 : Rg x5 2 3579 := rg_add ex5 rx3 (⟨by decide, by decide⟩ : Rg 2 2 2) (by decide) (by decide)
  have s7 : x5.toInt = x3.toInt + (2 : Int32).toInt := by rw [ex5]; exact i_add (by obtain ⟨_, _⟩ := rx3; obtain ⟨_, _⟩ := (⟨by decide, by decide⟩ : Rg 2 2 2); omega) (by obtain ⟨_, _⟩ := rx3; obtain ⟨_, _⟩ := (⟨by decide, by decide⟩ : Rg 2 2 2); omega)
  have s7l : (2 : Int32).toInt = 2 := rfl
  refine va_sld hx hb hsx hbl hbA hS (vp_in_iff.mpr ⟨by omega, by omega⟩) d_L_law_266 ?_
  refine lv_topi (fun x8 ex8 => ?_)
  refine r_ci (r_runV (n := 2) (As := [.int x4, .int x8]) (rest := []) X hw (ct_X10_wreck_0 l D dA ad v hI x4 x8) gc_L_23 (rfl : KD 0 = _) (by decide) rfl (by decide +kernel) ⟨rfl, rfl, Nat.le_of_ble_eq_true rfl, Nat.le_of_ble_eq_true rfl⟩ rfl hl.1 rfl (Nat.le_of_ble_eq_true rfl) ⟨Nat.le_of_ble_eq_true rfl, Nat.le_of_ble_eq_true rfl⟩ d_L_law_267) hS (fun x10 v11 H locs hp9 hw hS => ?_)
  obtain ⟨hp9, hE12⟩ := hp9
  obtain ⟨hI13, hK14⟩ := hp9
  refine lv_pop hx hb d_L_law_270 rfl ?_
  refine lv_aload_n hx hb d_L_law_271 rfl (lv_at hl 2 rfl) ?_
  refine lv_aload_n hx hb d_L_law_272 rfl (lv_at hl 0 rfl) ?_
  refine lv_iload_n hx hb d_L_law_273 rfl (lv_at hl 3 rfl) ?_
  refine lv_iconst (v := 1) hx hb d_L_law_274 (by decide) ?_
  refine lv_iadd hx hb d_L_law_275 ?_
  refine lv_topi (fun x15 ex15 => ?_)
  have r16 : Rg x15 1 3578 := rg_add ex15 rx3 (⟨by decide, by decide⟩ : Rg 1 1 1) (by decide) (by decide)
  have s17 : x15.toInt = x3.toInt + (1 : Int32).toInt := by rw [ex15]; exact i_add (by obtain ⟨_, _⟩ := rx3; obtain ⟨_, _⟩ := (⟨by decide, by decide⟩ : Rg 1 1 1); omega) (by obtain ⟨_, _⟩ := rx3; obtain ⟨_, _⟩ := (⟨by decide, by decide⟩ : Rg 1 1 1); omega)
  have s17l : (1 : Int32).toInt = 1 := rfl
  refine va_sld hx hb hsx hbl hbA hS (vp_in_iff.mpr ⟨by omega, by omega⟩) d_L_law_276 ?_
  refine lv_seti (y := x4) (by rw [ex4, ex15, ex1]) ?_
  refine lv_aload_n hx hb d_L_law_277 rfl (lv_at hl 0 rfl) ?_
  refine lv_iload_n hx hb d_L_law_278 rfl (lv_at hl 3 rfl) ?_
  refine lv_iconst (v := 2) hx hb d_L_law_279 (by decide) ?_
  refine lv_iadd hx hb d_L_law_280 ?_
  refine lv_topi (fun x18 ex18 => ?_)
  have r19 : Rg x18 2 3579 := rg_add ex18 rx3 (⟨by decide, by decide⟩ : Rg 2 2 2) (by decide) (by decide)
  have s20 : x18.toInt = x3.toInt + (2 : Int32).toInt := by rw [ex18]; exact i_add (by obtain ⟨_, _⟩ := rx3; obtain ⟨_, _⟩ := (⟨by decide, by decide⟩ : Rg 2 2 2); omega) (by obtain ⟨_, _⟩ := rx3; obtain ⟨_, _⟩ := (⟨by decide, by decide⟩ : Rg 2 2 2); omega)
  have s20l : (2 : Int32).toInt = 2 := rfl
  refine va_sld hx hb hsx hbl hbA hS (vp_in_iff.mpr ⟨by omega, by omega⟩) d_L_law_281 ?_
  refine lv_seti (y := x8) (by rw [ex8, ex18, ex5]) ?_
  refine r_ci (r_runV (n := 2) (As := [.int x4, .int x8]) (rest := []) X hw (ct_X11_wreck_400 l D dA ad v11 hI13 x4 x8) gc_L_26 (rfl : KD 400 = _) (by decide) rfl (by decide +kernel) ⟨rfl, rfl, Nat.le_of_ble_eq_true rfl, Nat.le_of_ble_eq_true rfl⟩ rfl hl.1 rfl (Nat.le_of_ble_eq_true rfl) ⟨Nat.le_of_ble_eq_true rfl, Nat.le_of_ble_eq_true rfl⟩ d_L_law_282) hS (fun x22 v23 H locs hp21 hw hS => ?_)
  obtain ⟨hp21, hE24⟩ := hp21
  obtain ⟨hI25, hK26⟩ := hp21
  refine lv_pop hx hb d_L_law_285 rfl ?_
  refine lv_goto (tgt := 1065) hx hb d_L_law_286 (by decide) ?_
  exact kk _ _ _ hI25 (rel_wreck x4 x8 hI hR hI13 hK14 hE12 hI25 hK26 hE24) hw hS
set_option maxHeartbeats 4000000 in
set_option maxRecDepth 100000 in
theorem lc_3 (Y : LX p s m c b L xs D dA ad sa) {v : tV} {H : Heap} {locs : List Loc} {ls : Array Slot} {x3 : Int32} (hI : Inv v) (hR : RelS v) (hw : tI D dA ad v H) (hS : va_S (tA ad) s.heap H locs) (hl : lv_has ls 4 [(0, .ref b), (1, .ref (ad 0)), (2, .ref (ad 400)), (3, .int x3)]) (h0 : 0 ≤ x3.toInt) (h7 : x3.toInt + 7 ≤ (L : Int))
    (kk : ∀ (v' : tV) (H : Heap) (locs : List Loc), Inv v' → RelS v' → tI D dA ad v' H → va_S (tA ad) s.heap H locs → W p l e room_1 s m #[Value.ref b] below meth c H locs 600000 7302250 Q (F0 m 1065 ls [])) : W p l e room_1 s m #[Value.ref b] below meth c H locs 600000 7302250 Q (F0 m 289 ls []) := by
  obtain ⟨X, hsx, hbl, hbA, hSC, hL⟩ := Y
  have hx := X.1
  have hb := X.2.1
  have rx3 : Rg x3 0 3577 := ⟨h0, by omega⟩
  refine lv_aload_n hx hb d_L_law_289 rfl (lv_at hl 1 rfl) ?_
  refine lv_aload_n hx hb d_L_law_290 rfl (lv_at hl 0 rfl) ?_
  refine lv_iload_n hx hb d_L_law_291 rfl (lv_at hl 3 rfl) ?_
  refine lv_iconst (v := 1) hx hb d_L_law_292 (by decide) ?_
  refine lv_iadd hx hb d_L_law_293 ?_
  refine lv_topi (fun x1 ex1 => ?_)
  have r2 : Rg x1 1 3578 := rg_add ex1 rx3 (⟨by decide, by decide⟩ : Rg 1 1 1) (by decide) (by decide)
  have s3 : x1.toInt = x3.toInt + (1 : Int32).toInt := by rw [ex1]; exact i_add (by obtain ⟨_, _⟩ := rx3; obtain ⟨_, _⟩ := (⟨by decide, by decide⟩ : Rg 1 1 1); omega) (by obtain ⟨_, _⟩ := rx3; obtain ⟨_, _⟩ := (⟨by decide, by decide⟩ : Rg 1 1 1); omega)
  have s3l : (1 : Int32).toInt = 1 := rfl
  refine va_sld hx hb hsx hbl hbA hS (vp_in_iff.mpr ⟨by omega, by omega⟩) d_L_law_294 ?_
  refine lv_topi (fun x4 ex4 => ?_)
  refine r_ci (r_runV (n := 1) (As := [.int x4]) (rest := []) X hw (ct_X10_goOn_0 l D dA ad v hI x4) gc_L_27 (rfl : KD 0 = _) (by decide) rfl (by decide +kernel) ⟨rfl, rfl, Nat.le_of_ble_eq_true rfl, Nat.le_of_ble_eq_true rfl⟩ rfl hl.1 rfl (Nat.le_of_ble_eq_true rfl) ⟨Nat.le_of_ble_eq_true rfl, Nat.le_of_ble_eq_true rfl⟩ d_L_law_295) hS (fun x6 v7 H locs hp5 hw hS => ?_)
  obtain ⟨hp5, hE8⟩ := hp5
  obtain ⟨hI9, hK10⟩ := hp5
  refine lv_pop hx hb d_L_law_298 rfl ?_
  refine lv_aload_n hx hb d_L_law_299 rfl (lv_at hl 2 rfl) ?_
  refine lv_aload_n hx hb d_L_law_300 rfl (lv_at hl 0 rfl) ?_
  refine lv_iload_n hx hb d_L_law_301 rfl (lv_at hl 3 rfl) ?_
  refine lv_iconst (v := 1) hx hb d_L_law_302 (by decide) ?_
  refine lv_iadd hx hb d_L_law_303 ?_
  refine lv_topi (fun x11 ex11 => ?_)
  have r12 : Rg x11 1 3578 := rg_add ex11 rx3 (⟨by decide, by decide⟩ : Rg 1 1 1) (by decide) (by decide)
  have s13 : x11.toInt = x3.toInt + (1 : Int32).toInt := by rw [ex11]; exact i_add (by obtain ⟨_, _⟩ := rx3; obtain ⟨_, _⟩ := (⟨by decide, by decide⟩ : Rg 1 1 1); omega) (by obtain ⟨_, _⟩ := rx3; obtain ⟨_, _⟩ := (⟨by decide, by decide⟩ : Rg 1 1 1); omega)
  have s13l : (1 : Int32).toInt = 1 := rfl
  refine va_sld hx hb hsx hbl hbA hS (vp_in_iff.mpr ⟨by omega, by omega⟩) d_L_law_304 ?_
  refine lv_seti (y := x4) (by rw [ex4, ex11, ex1]) ?_
  refine r_ci (r_runV (n := 1) (As := [.int x4]) (rest := []) X hw (ct_X11_goOn_400 l D dA ad v7 hI9 x4) gc_L_31 (rfl : KD 400 = _) (by decide) rfl (by decide +kernel) ⟨rfl, rfl, Nat.le_of_ble_eq_true rfl, Nat.le_of_ble_eq_true rfl⟩ rfl hl.1 rfl (Nat.le_of_ble_eq_true rfl) ⟨Nat.le_of_ble_eq_true rfl, Nat.le_of_ble_eq_true rfl⟩ d_L_law_305) hS (fun x15 v16 H locs hp14 hw hS => ?_)
  obtain ⟨hp14, hE17⟩ := hp14
  obtain ⟨hI18, hK19⟩ := hp14
  refine lv_pop hx hb d_L_law_308 rfl ?_
  refine lv_goto (tgt := 1065) hx hb d_L_law_309 (by decide) ?_
  exact kk _ _ _ hI18 (rel_goOn x4 hI hR hI9 hK10 hE8 hI18 hK19 hE17) hw hS
set_option maxHeartbeats 4000000 in
set_option maxRecDepth 100000 in
theorem lc_4 (Y : LX p s m c b L xs D dA ad sa) {v : tV} {H : Heap} {locs : List Loc} {ls : Array Slot} {x3 : Int32} (hI : Inv v) (hR : RelS v) (hw : tI D dA ad v H) (hS : va_S (tA ad) s.heap H locs) (hl : lv_has ls 4 [(0, .ref b), (1, .ref (ad 0)), (2, .ref (ad 400)), (3, .int x3)]) (h0 : 0 ≤ x3.toInt) (h7 : x3.toInt + 7 ≤ (L : Int))
    (kk : ∀ (v' : tV) (H : Heap) (locs : List Loc), Inv v' → RelS v' → tI D dA ad v' H → va_S (tA ad) s.heap H locs → W p l e room_1 s m #[Value.ref b] below meth c H locs 600000 7302250 Q (F0 m 1065 ls [])) : W p l e room_1 s m #[Value.ref b] below meth c H locs 600000 7302250 Q (F0 m 312 ls []) := by
  obtain ⟨X, hsx, hbl, hbA, hSC, hL⟩ := Y
  have hx := X.1
  have hb := X.2.1
  have rx3 : Rg x3 0 3577 := ⟨h0, by omega⟩
  refine lv_aload_n hx hb d_L_law_312 rfl (lv_at hl 1 rfl) ?_
  refine lv_aload_n hx hb d_L_law_313 rfl (lv_at hl 0 rfl) ?_
  refine lv_iload_n hx hb d_L_law_314 rfl (lv_at hl 3 rfl) ?_
  refine lv_iconst (v := 1) hx hb d_L_law_315 (by decide) ?_
  refine lv_iadd hx hb d_L_law_316 ?_
  refine lv_topi (fun x1 ex1 => ?_)
  have r2 : Rg x1 1 3578 := rg_add ex1 rx3 (⟨by decide, by decide⟩ : Rg 1 1 1) (by decide) (by decide)
  have s3 : x1.toInt = x3.toInt + (1 : Int32).toInt := by rw [ex1]; exact i_add (by obtain ⟨_, _⟩ := rx3; obtain ⟨_, _⟩ := (⟨by decide, by decide⟩ : Rg 1 1 1); omega) (by obtain ⟨_, _⟩ := rx3; obtain ⟨_, _⟩ := (⟨by decide, by decide⟩ : Rg 1 1 1); omega)
  have s3l : (1 : Int32).toInt = 1 := rfl
  refine va_sld hx hb hsx hbl hbA hS (vp_in_iff.mpr ⟨by omega, by omega⟩) d_L_law_317 ?_
  refine lv_topi (fun x4 ex4 => ?_)
  refine lv_aload_n hx hb d_L_law_318 rfl (lv_at hl 0 rfl) ?_
  refine lv_iload_n hx hb d_L_law_319 rfl (lv_at hl 3 rfl) ?_
  refine lv_iconst (v := 2) hx hb d_L_law_320 (by decide) ?_
  refine lv_iadd hx hb d_L_law_321 ?_
  refine lv_topi (fun x5 ex5 => ?_)
  have r6 : Rg x5 2 3579 := rg_add ex5 rx3 (⟨by decide, by decide⟩ : Rg 2 2 2) (by decide) (by decide)
  have s7 : x5.toInt = x3.toInt + (2 : Int32).toInt := by rw [ex5]; exact i_add (by obtain ⟨_, _⟩ := rx3; obtain ⟨_, _⟩ := (⟨by decide, by decide⟩ : Rg 2 2 2); omega) (by obtain ⟨_, _⟩ := rx3; obtain ⟨_, _⟩ := (⟨by decide, by decide⟩ : Rg 2 2 2); omega)
  have s7l : (2 : Int32).toInt = 2 := rfl
  refine va_sld hx hb hsx hbl hbA hS (vp_in_iff.mpr ⟨by omega, by omega⟩) d_L_law_322 ?_
  refine lv_topi (fun x8 ex8 => ?_)
  refine lv_aload_n hx hb d_L_law_323 rfl (lv_at hl 0 rfl) ?_
  refine lv_iload_n hx hb d_L_law_324 rfl (lv_at hl 3 rfl) ?_
  refine lv_iconst (v := 3) hx hb d_L_law_325 (by decide) ?_
  refine lv_iadd hx hb d_L_law_326 ?_
  refine lv_topi (fun x9 ex9 => ?_)
  have r10 : Rg x9 3 3580 := rg_add ex9 rx3 (⟨by decide, by decide⟩ : Rg 3 3 3) (by decide) (by decide)
  have s11 : x9.toInt = x3.toInt + (3 : Int32).toInt := by rw [ex9]; exact i_add (by obtain ⟨_, _⟩ := rx3; obtain ⟨_, _⟩ := (⟨by decide, by decide⟩ : Rg 3 3 3); omega) (by obtain ⟨_, _⟩ := rx3; obtain ⟨_, _⟩ := (⟨by decide, by decide⟩ : Rg 3 3 3); omega)
  have s11l : (3 : Int32).toInt = 3 := rfl
  refine va_sld hx hb hsx hbl hbA hS (vp_in_iff.mpr ⟨by omega, by omega⟩) d_L_law_327 ?_
  refine lv_topi (fun x12 ex12 => ?_)
  refine lv_aload_n hx hb d_L_law_328 rfl (lv_at hl 0 rfl) ?_
  refine lv_iload_n hx hb d_L_law_329 rfl (lv_at hl 3 rfl) ?_
  refine lv_iconst (v := 4) hx hb d_L_law_330 (by decide) ?_
  refine lv_iadd hx hb d_L_law_331 ?_
  refine lv_topi (fun x13 ex13 => ?_)
  have r14 : Rg x13 4 3581 := rg_add ex13 rx3 (⟨by decide, by decide⟩ : Rg 4 4 4) (by decide) (by decide)
  have s15 : x13.toInt = x3.toInt + (4 : Int32).toInt := by rw [ex13]; exact i_add (by obtain ⟨_, _⟩ := rx3; obtain ⟨_, _⟩ := (⟨by decide, by decide⟩ : Rg 4 4 4); omega) (by obtain ⟨_, _⟩ := rx3; obtain ⟨_, _⟩ := (⟨by decide, by decide⟩ : Rg 4 4 4); omega)
  have s15l : (4 : Int32).toInt = 4 := rfl
  refine va_sld hx hb hsx hbl hbA hS (vp_in_iff.mpr ⟨by omega, by omega⟩) d_L_law_332 ?_
  refine lv_topi (fun x16 ex16 => ?_)
  refine r_ci (r_runV (n := 4) (As := [.int x4, .int x8, .int x12, .int x16]) (rest := []) X hw (ct_X10_buyer_0 l D dA ad v hI x4 x8 x12 x16) gc_L_32 (rfl : KD 0 = _) (by decide) rfl (by decide +kernel) ⟨rfl, rfl, Nat.le_of_ble_eq_true rfl, Nat.le_of_ble_eq_true rfl⟩ rfl hl.1 rfl (Nat.le_of_ble_eq_true rfl) ⟨Nat.le_of_ble_eq_true rfl, Nat.le_of_ble_eq_true rfl⟩ d_L_law_333) hS (fun x18 v19 H locs hp17 hw hS => ?_)
  obtain ⟨hp17, hE20⟩ := hp17
  obtain ⟨hI21, hK22⟩ := hp17
  refine lv_pop hx hb d_L_law_336 rfl ?_
  refine lv_aload_n hx hb d_L_law_337 rfl (lv_at hl 2 rfl) ?_
  refine lv_aload_n hx hb d_L_law_338 rfl (lv_at hl 0 rfl) ?_
  refine lv_iload_n hx hb d_L_law_339 rfl (lv_at hl 3 rfl) ?_
  refine lv_iconst (v := 1) hx hb d_L_law_340 (by decide) ?_
  refine lv_iadd hx hb d_L_law_341 ?_
  refine lv_topi (fun x23 ex23 => ?_)
  have r24 : Rg x23 1 3578 := rg_add ex23 rx3 (⟨by decide, by decide⟩ : Rg 1 1 1) (by decide) (by decide)
  have s25 : x23.toInt = x3.toInt + (1 : Int32).toInt := by rw [ex23]; exact i_add (by obtain ⟨_, _⟩ := rx3; obtain ⟨_, _⟩ := (⟨by decide, by decide⟩ : Rg 1 1 1); omega) (by obtain ⟨_, _⟩ := rx3; obtain ⟨_, _⟩ := (⟨by decide, by decide⟩ : Rg 1 1 1); omega)
  have s25l : (1 : Int32).toInt = 1 := rfl
  refine va_sld hx hb hsx hbl hbA hS (vp_in_iff.mpr ⟨by omega, by omega⟩) d_L_law_342 ?_
  refine lv_seti (y := x4) (by rw [ex4, ex23, ex1]) ?_
  refine lv_aload_n hx hb d_L_law_343 rfl (lv_at hl 0 rfl) ?_
  refine lv_iload_n hx hb d_L_law_344 rfl (lv_at hl 3 rfl) ?_
  refine lv_iconst (v := 2) hx hb d_L_law_345 (by decide) ?_
  refine lv_iadd hx hb d_L_law_346 ?_
  refine lv_topi (fun x26 ex26 => ?_)
  have r27 : Rg x26 2 3579 := rg_add ex26 rx3 (⟨by decide, by decide⟩ : Rg 2 2 2) (by decide) (by decide)
  have s28 : x26.toInt = x3.toInt + (2 : Int32).toInt := by rw [ex26]; exact i_add (by obtain ⟨_, _⟩ := rx3; obtain ⟨_, _⟩ := (⟨by decide, by decide⟩ : Rg 2 2 2); omega) (by obtain ⟨_, _⟩ := rx3; obtain ⟨_, _⟩ := (⟨by decide, by decide⟩ : Rg 2 2 2); omega)
  have s28l : (2 : Int32).toInt = 2 := rfl
  refine va_sld hx hb hsx hbl hbA hS (vp_in_iff.mpr ⟨by omega, by omega⟩) d_L_law_347 ?_
  refine lv_seti (y := x8) (by rw [ex8, ex26, ex5]) ?_
  refine lv_aload_n hx hb d_L_law_348 rfl (lv_at hl 0 rfl) ?_
  refine lv_iload_n hx hb d_L_law_349 rfl (lv_at hl 3 rfl) ?_
  refine lv_iconst (v := 3) hx hb d_L_law_350 (by decide) ?_
  refine lv_iadd hx hb d_L_law_351 ?_
  refine lv_topi (fun x29 ex29 => ?_)
  have r30 : Rg x29 3 3580 := rg_add ex29 rx3 (⟨by decide, by decide⟩ : Rg 3 3 3) (by decide) (by decide)
  have s31 : x29.toInt = x3.toInt + (3 : Int32).toInt := by rw [ex29]; exact i_add (by obtain ⟨_, _⟩ := rx3; obtain ⟨_, _⟩ := (⟨by decide, by decide⟩ : Rg 3 3 3); omega) (by obtain ⟨_, _⟩ := rx3; obtain ⟨_, _⟩ := (⟨by decide, by decide⟩ : Rg 3 3 3); omega)
  have s31l : (3 : Int32).toInt = 3 := rfl
  refine va_sld hx hb hsx hbl hbA hS (vp_in_iff.mpr ⟨by omega, by omega⟩) d_L_law_352 ?_
  refine lv_seti (y := x12) (by rw [ex12, ex29, ex9]) ?_
  refine lv_aload_n hx hb d_L_law_353 rfl (lv_at hl 0 rfl) ?_
  refine lv_iload_n hx hb d_L_law_354 rfl (lv_at hl 3 rfl) ?_
  refine lv_iconst (v := 4) hx hb d_L_law_355 (by decide) ?_
  refine lv_iadd hx hb d_L_law_356 ?_
  refine lv_topi (fun x32 ex32 => ?_)
  have r33 : Rg x32 4 3581 := rg_add ex32 rx3 (⟨by decide, by decide⟩ : Rg 4 4 4) (by decide) (by decide)
  have s34 : x32.toInt = x3.toInt + (4 : Int32).toInt := by rw [ex32]; exact i_add (by obtain ⟨_, _⟩ := rx3; obtain ⟨_, _⟩ := (⟨by decide, by decide⟩ : Rg 4 4 4); omega) (by obtain ⟨_, _⟩ := rx3; obtain ⟨_, _⟩ := (⟨by decide, by decide⟩ : Rg 4 4 4); omega)
  have s34l : (4 : Int32).toInt = 4 := rfl
  refine va_sld hx hb hsx hbl hbA hS (vp_in_iff.mpr ⟨by omega, by omega⟩) d_L_law_357 ?_
  refine lv_seti (y := x16) (by rw [ex16, ex32, ex13]) ?_
  refine r_ci (r_runV (n := 4) (As := [.int x4, .int x8, .int x12, .int x16]) (rest := []) X hw (ct_X11_buyer_400 l D dA ad v19 hI21 x4 x8 x12 x16) gc_L_36 (rfl : KD 400 = _) (by decide) rfl (by decide +kernel) ⟨rfl, rfl, Nat.le_of_ble_eq_true rfl, Nat.le_of_ble_eq_true rfl⟩ rfl hl.1 rfl (Nat.le_of_ble_eq_true rfl) ⟨Nat.le_of_ble_eq_true rfl, Nat.le_of_ble_eq_true rfl⟩ d_L_law_358) hS (fun x36 v37 H locs hp35 hw hS => ?_)
  obtain ⟨hp35, hE38⟩ := hp35
  obtain ⟨hI39, hK40⟩ := hp35
  refine lv_pop hx hb d_L_law_361 rfl ?_
  refine lv_goto (tgt := 1065) hx hb d_L_law_362 (by decide) ?_
  exact kk _ _ _ hI39 (rel_buyer x4 x8 x12 x16 hI hR hI21 hK22 hE20 hI39 hK40 hE38) hw hS
set_option maxHeartbeats 4000000 in
set_option maxRecDepth 100000 in
theorem lc_5 (Y : LX p s m c b L xs D dA ad sa) {v : tV} {H : Heap} {locs : List Loc} {ls : Array Slot} {x3 : Int32} (hI : Inv v) (hR : RelS v) (hw : tI D dA ad v H) (hS : va_S (tA ad) s.heap H locs) (hl : lv_has ls 4 [(0, .ref b), (1, .ref (ad 0)), (2, .ref (ad 400)), (3, .int x3)]) (h0 : 0 ≤ x3.toInt) (h7 : x3.toInt + 7 ≤ (L : Int))
    (kk : ∀ (v' : tV) (H : Heap) (locs : List Loc), Inv v' → RelS v' → tI D dA ad v' H → va_S (tA ad) s.heap H locs → W p l e room_1 s m #[Value.ref b] below meth c H locs 600000 7302250 Q (F0 m 1065 ls [])) : W p l e room_1 s m #[Value.ref b] below meth c H locs 600000 7302250 Q (F0 m 365 ls []) := by
  obtain ⟨X, hsx, hbl, hbA, hSC, hL⟩ := Y
  have hx := X.1
  have hb := X.2.1
  have rx3 : Rg x3 0 3577 := ⟨h0, by omega⟩
  refine lv_aload_n hx hb d_L_law_365 rfl (lv_at hl 1 rfl) ?_
  refine lv_aload_n hx hb d_L_law_366 rfl (lv_at hl 0 rfl) ?_
  refine lv_iload_n hx hb d_L_law_367 rfl (lv_at hl 3 rfl) ?_
  refine lv_iconst (v := 1) hx hb d_L_law_368 (by decide) ?_
  refine lv_iadd hx hb d_L_law_369 ?_
  refine lv_topi (fun x1 ex1 => ?_)
  have r2 : Rg x1 1 3578 := rg_add ex1 rx3 (⟨by decide, by decide⟩ : Rg 1 1 1) (by decide) (by decide)
  have s3 : x1.toInt = x3.toInt + (1 : Int32).toInt := by rw [ex1]; exact i_add (by obtain ⟨_, _⟩ := rx3; obtain ⟨_, _⟩ := (⟨by decide, by decide⟩ : Rg 1 1 1); omega) (by obtain ⟨_, _⟩ := rx3; obtain ⟨_, _⟩ := (⟨by decide, by decide⟩ : Rg 1 1 1); omega)
  have s3l : (1 : Int32).toInt = 1 := rfl
  refine va_sld hx hb hsx hbl hbA hS (vp_in_iff.mpr ⟨by omega, by omega⟩) d_L_law_370 ?_
  refine lv_topi (fun x4 ex4 => ?_)
  refine lv_aload_n hx hb d_L_law_371 rfl (lv_at hl 0 rfl) ?_
  refine lv_iload_n hx hb d_L_law_372 rfl (lv_at hl 3 rfl) ?_
  refine lv_iconst (v := 2) hx hb d_L_law_373 (by decide) ?_
  refine lv_iadd hx hb d_L_law_374 ?_
  refine lv_topi (fun x5 ex5 => ?_)
  have r6 : Rg x5 2 3579 := rg_add ex5 rx3 (⟨by decide, by decide⟩ : Rg 2 2 2) (by decide) (by decide)
  have s7 : x5.toInt = x3.toInt + (2 : Int32).toInt := by rw [ex5]; exact i_add (by obtain ⟨_, _⟩ := rx3; obtain ⟨_, _⟩ := (⟨by decide, by decide⟩ : Rg 2 2 2); omega) (by obtain ⟨_, _⟩ := rx3; obtain ⟨_, _⟩ := (⟨by decide, by decide⟩ : Rg 2 2 2); omega)
  have s7l : (2 : Int32).toInt = 2 := rfl
  refine va_sld hx hb hsx hbl hbA hS (vp_in_iff.mpr ⟨by omega, by omega⟩) d_L_law_375 ?_
  refine lv_topi (fun x8 ex8 => ?_)
  refine lv_aload_n hx hb d_L_law_376 rfl (lv_at hl 0 rfl) ?_
  refine lv_iload_n hx hb d_L_law_377 rfl (lv_at hl 3 rfl) ?_
  refine lv_iconst (v := 3) hx hb d_L_law_378 (by decide) ?_
  refine lv_iadd hx hb d_L_law_379 ?_
  refine lv_topi (fun x9 ex9 => ?_)
  have r10 : Rg x9 3 3580 := rg_add ex9 rx3 (⟨by decide, by decide⟩ : Rg 3 3 3) (by decide) (by decide)
  have s11 : x9.toInt = x3.toInt + (3 : Int32).toInt := by rw [ex9]; exact i_add (by obtain ⟨_, _⟩ := rx3; obtain ⟨_, _⟩ := (⟨by decide, by decide⟩ : Rg 3 3 3); omega) (by obtain ⟨_, _⟩ := rx3; obtain ⟨_, _⟩ := (⟨by decide, by decide⟩ : Rg 3 3 3); omega)
  have s11l : (3 : Int32).toInt = 3 := rfl
  refine va_sld hx hb hsx hbl hbA hS (vp_in_iff.mpr ⟨by omega, by omega⟩) d_L_law_380 ?_
  refine lv_topi (fun x12 ex12 => ?_)
  refine r_ci (r_runV (n := 3) (As := [.int x4, .int x8, .int x12]) (rest := []) X hw (ct_X10_want_0 l D dA ad v hI x4 x8 x12) gc_L_37 (rfl : KD 0 = _) (by decide) rfl (by decide +kernel) ⟨rfl, rfl, Nat.le_of_ble_eq_true rfl, Nat.le_of_ble_eq_true rfl⟩ rfl hl.1 rfl (Nat.le_of_ble_eq_true rfl) ⟨Nat.le_of_ble_eq_true rfl, Nat.le_of_ble_eq_true rfl⟩ d_L_law_381) hS (fun x14 v15 H locs hp13 hw hS => ?_)
  obtain ⟨hp13, hE16⟩ := hp13
  obtain ⟨hI17, hK18⟩ := hp13
  refine lv_pop hx hb d_L_law_384 rfl ?_
  refine lv_aload_n hx hb d_L_law_385 rfl (lv_at hl 2 rfl) ?_
  refine lv_aload_n hx hb d_L_law_386 rfl (lv_at hl 0 rfl) ?_
  refine lv_iload_n hx hb d_L_law_387 rfl (lv_at hl 3 rfl) ?_
  refine lv_iconst (v := 1) hx hb d_L_law_388 (by decide) ?_
  refine lv_iadd hx hb d_L_law_389 ?_
  refine lv_topi (fun x19 ex19 => ?_)
  have r20 : Rg x19 1 3578 := rg_add ex19 rx3 (⟨by decide, by decide⟩ : Rg 1 1 1) (by decide) (by decide)
  have s21 : x19.toInt = x3.toInt + (1 : Int32).toInt := by rw [ex19]; exact i_add (by obtain ⟨_, _⟩ := rx3; obtain ⟨_, _⟩ := (⟨by decide, by decide⟩ : Rg 1 1 1); omega) (by obtain ⟨_, _⟩ := rx3; obtain ⟨_, _⟩ := (⟨by decide, by decide⟩ : Rg 1 1 1); omega)
  have s21l : (1 : Int32).toInt = 1 := rfl
  refine va_sld hx hb hsx hbl hbA hS (vp_in_iff.mpr ⟨by omega, by omega⟩) d_L_law_390 ?_
  refine lv_seti (y := x4) (by rw [ex4, ex19, ex1]) ?_
  refine lv_aload_n hx hb d_L_law_391 rfl (lv_at hl 0 rfl) ?_
  refine lv_iload_n hx hb d_L_law_392 rfl (lv_at hl 3 rfl) ?_
  refine lv_iconst (v := 2) hx hb d_L_law_393 (by decide) ?_
  refine lv_iadd hx hb d_L_law_394 ?_
  refine lv_topi (fun x22 ex22 => ?_)
  have r23 : Rg x22 2 3579 := rg_add ex22 rx3 (⟨by decide, by decide⟩ : Rg 2 2 2) (by decide) (by decide)
  have s24 : x22.toInt = x3.toInt + (2 : Int32).toInt := by rw [ex22]; exact i_add (by obtain ⟨_, _⟩ := rx3; obtain ⟨_, _⟩ := (⟨by decide, by decide⟩ : Rg 2 2 2); omega) (by obtain ⟨_, _⟩ := rx3; obtain ⟨_, _⟩ := (⟨by decide, by decide⟩ : Rg 2 2 2); omega)
  have s24l : (2 : Int32).toInt = 2 := rfl
  refine va_sld hx hb hsx hbl hbA hS (vp_in_iff.mpr ⟨by omega, by omega⟩) d_L_law_395 ?_
  refine lv_seti (y := x8) (by rw [ex8, ex22, ex5]) ?_
  refine lv_aload_n hx hb d_L_law_396 rfl (lv_at hl 0 rfl) ?_
  refine lv_iload_n hx hb d_L_law_397 rfl (lv_at hl 3 rfl) ?_
  refine lv_iconst (v := 3) hx hb d_L_law_398 (by decide) ?_
  refine lv_iadd hx hb d_L_law_399 ?_
  refine lv_topi (fun x25 ex25 => ?_)
  have r26 : Rg x25 3 3580 := rg_add ex25 rx3 (⟨by decide, by decide⟩ : Rg 3 3 3) (by decide) (by decide)
  have s27 : x25.toInt = x3.toInt + (3 : Int32).toInt := by rw [ex25]; exact i_add (by obtain ⟨_, _⟩ := rx3; obtain ⟨_, _⟩ := (⟨by decide, by decide⟩ : Rg 3 3 3); omega) (by obtain ⟨_, _⟩ := rx3; obtain ⟨_, _⟩ := (⟨by decide, by decide⟩ : Rg 3 3 3); omega)
  have s27l : (3 : Int32).toInt = 3 := rfl
  refine va_sld hx hb hsx hbl hbA hS (vp_in_iff.mpr ⟨by omega, by omega⟩) d_L_law_400 ?_
  refine lv_seti (y := x12) (by rw [ex12, ex25, ex9]) ?_
  refine r_ci (r_runV (n := 3) (As := [.int x4, .int x8, .int x12]) (rest := []) X hw (ct_X11_want_400 l D dA ad v15 hI17 x4 x8 x12) gc_L_41 (rfl : KD 400 = _) (by decide) rfl (by decide +kernel) ⟨rfl, rfl, Nat.le_of_ble_eq_true rfl, Nat.le_of_ble_eq_true rfl⟩ rfl hl.1 rfl (Nat.le_of_ble_eq_true rfl) ⟨Nat.le_of_ble_eq_true rfl, Nat.le_of_ble_eq_true rfl⟩ d_L_law_401) hS (fun x29 v30 H locs hp28 hw hS => ?_)
  obtain ⟨hp28, hE31⟩ := hp28
  obtain ⟨hI32, hK33⟩ := hp28
  refine lv_pop hx hb d_L_law_404 rfl ?_
  refine lv_goto (tgt := 1065) hx hb d_L_law_405 (by decide) ?_
  exact kk _ _ _ hI32 (rel_want x4 x8 x12 hI hR hI17 hK18 hE16 hI32 hK33 hE31) hw hS
set_option maxHeartbeats 4000000 in
set_option maxRecDepth 100000 in
theorem lc_6 (Y : LX p s m c b L xs D dA ad sa) {v : tV} {H : Heap} {locs : List Loc} {ls : Array Slot} {x3 : Int32} (hI : Inv v) (hR : RelS v) (hw : tI D dA ad v H) (hS : va_S (tA ad) s.heap H locs) (hl : lv_has ls 4 [(0, .ref b), (1, .ref (ad 0)), (2, .ref (ad 400)), (3, .int x3)]) (h0 : 0 ≤ x3.toInt) (h7 : x3.toInt + 7 ≤ (L : Int))
    (kk : ∀ (v' : tV) (H : Heap) (locs : List Loc), Inv v' → RelS v' → tI D dA ad v' H → va_S (tA ad) s.heap H locs → W p l e room_1 s m #[Value.ref b] below meth c H locs 600000 7302250 Q (F0 m 1065 ls [])) : W p l e room_1 s m #[Value.ref b] below meth c H locs 600000 7302250 Q (F0 m 408 ls []) := by
  obtain ⟨X, hsx, hbl, hbA, hSC, hL⟩ := Y
  have hx := X.1
  have hb := X.2.1
  have rx3 : Rg x3 0 3577 := ⟨h0, by omega⟩
  refine lv_aload_n hx hb d_L_law_408 rfl (lv_at hl 1 rfl) ?_
  refine lv_aload_n hx hb d_L_law_409 rfl (lv_at hl 0 rfl) ?_
  refine lv_iload_n hx hb d_L_law_410 rfl (lv_at hl 3 rfl) ?_
  refine lv_iconst (v := 1) hx hb d_L_law_411 (by decide) ?_
  refine lv_iadd hx hb d_L_law_412 ?_
  refine lv_topi (fun x1 ex1 => ?_)
  have r2 : Rg x1 1 3578 := rg_add ex1 rx3 (⟨by decide, by decide⟩ : Rg 1 1 1) (by decide) (by decide)
  have s3 : x1.toInt = x3.toInt + (1 : Int32).toInt := by rw [ex1]; exact i_add (by obtain ⟨_, _⟩ := rx3; obtain ⟨_, _⟩ := (⟨by decide, by decide⟩ : Rg 1 1 1); omega) (by obtain ⟨_, _⟩ := rx3; obtain ⟨_, _⟩ := (⟨by decide, by decide⟩ : Rg 1 1 1); omega)
  have s3l : (1 : Int32).toInt = 1 := rfl
  refine va_sld hx hb hsx hbl hbA hS (vp_in_iff.mpr ⟨by omega, by omega⟩) d_L_law_413 ?_
  refine lv_topi (fun x4 ex4 => ?_)
  refine lv_aload_n hx hb d_L_law_414 rfl (lv_at hl 0 rfl) ?_
  refine lv_iload_n hx hb d_L_law_415 rfl (lv_at hl 3 rfl) ?_
  refine lv_iconst (v := 2) hx hb d_L_law_416 (by decide) ?_
  refine lv_iadd hx hb d_L_law_417 ?_
  refine lv_topi (fun x5 ex5 => ?_)
  have r6 : Rg x5 2 3579 := rg_add ex5 rx3 (⟨by decide, by decide⟩ : Rg 2 2 2) (by decide) (by decide)
  have s7 : x5.toInt = x3.toInt + (2 : Int32).toInt := by rw [ex5]; exact i_add (by obtain ⟨_, _⟩ := rx3; obtain ⟨_, _⟩ := (⟨by decide, by decide⟩ : Rg 2 2 2); omega) (by obtain ⟨_, _⟩ := rx3; obtain ⟨_, _⟩ := (⟨by decide, by decide⟩ : Rg 2 2 2); omega)
  have s7l : (2 : Int32).toInt = 2 := rfl
  refine va_sld hx hb hsx hbl hbA hS (vp_in_iff.mpr ⟨by omega, by omega⟩) d_L_law_418 ?_
  refine lv_topi (fun x8 ex8 => ?_)
  refine lv_aload_n hx hb d_L_law_419 rfl (lv_at hl 0 rfl) ?_
  refine lv_iload_n hx hb d_L_law_420 rfl (lv_at hl 3 rfl) ?_
  refine lv_iconst (v := 3) hx hb d_L_law_421 (by decide) ?_
  refine lv_iadd hx hb d_L_law_422 ?_
  refine lv_topi (fun x9 ex9 => ?_)
  have r10 : Rg x9 3 3580 := rg_add ex9 rx3 (⟨by decide, by decide⟩ : Rg 3 3 3) (by decide) (by decide)
  have s11 : x9.toInt = x3.toInt + (3 : Int32).toInt := by rw [ex9]; exact i_add (by obtain ⟨_, _⟩ := rx3; obtain ⟨_, _⟩ := (⟨by decide, by decide⟩ : Rg 3 3 3); omega) (by obtain ⟨_, _⟩ := rx3; obtain ⟨_, _⟩ := (⟨by decide, by decide⟩ : Rg 3 3 3); omega)
  have s11l : (3 : Int32).toInt = 3 := rfl
  refine va_sld hx hb hsx hbl hbA hS (vp_in_iff.mpr ⟨by omega, by omega⟩) d_L_law_423 ?_
  refine lv_topi (fun x12 ex12 => ?_)
  refine r_ci (r_runV (n := 3) (As := [.int x4, .int x8, .int x12]) (rest := []) X hw (ct_X10_burn_0 l D dA ad v hI x4 x8 x12) gc_L_42 (rfl : KD 0 = _) (by decide) rfl (by decide +kernel) ⟨rfl, rfl, Nat.le_of_ble_eq_true rfl, Nat.le_of_ble_eq_true rfl⟩ rfl hl.1 rfl (Nat.le_of_ble_eq_true rfl) ⟨Nat.le_of_ble_eq_true rfl, Nat.le_of_ble_eq_true rfl⟩ d_L_law_424) hS (fun x14 v15 H locs hp13 hw hS => ?_)
  obtain ⟨hp13, hE16⟩ := hp13
  obtain ⟨hI17, hK18⟩ := hp13
  refine lv_pop hx hb d_L_law_427 rfl ?_
  refine lv_aload_n hx hb d_L_law_428 rfl (lv_at hl 2 rfl) ?_
  refine lv_aload_n hx hb d_L_law_429 rfl (lv_at hl 0 rfl) ?_
  refine lv_iload_n hx hb d_L_law_430 rfl (lv_at hl 3 rfl) ?_
  refine lv_iconst (v := 1) hx hb d_L_law_431 (by decide) ?_
  refine lv_iadd hx hb d_L_law_432 ?_
  refine lv_topi (fun x19 ex19 => ?_)
  have r20 : Rg x19 1 3578 := rg_add ex19 rx3 (⟨by decide, by decide⟩ : Rg 1 1 1) (by decide) (by decide)
  have s21 : x19.toInt = x3.toInt + (1 : Int32).toInt := by rw [ex19]; exact i_add (by obtain ⟨_, _⟩ := rx3; obtain ⟨_, _⟩ := (⟨by decide, by decide⟩ : Rg 1 1 1); omega) (by obtain ⟨_, _⟩ := rx3; obtain ⟨_, _⟩ := (⟨by decide, by decide⟩ : Rg 1 1 1); omega)
  have s21l : (1 : Int32).toInt = 1 := rfl
  refine va_sld hx hb hsx hbl hbA hS (vp_in_iff.mpr ⟨by omega, by omega⟩) d_L_law_433 ?_
  refine lv_seti (y := x4) (by rw [ex4, ex19, ex1]) ?_
  refine lv_aload_n hx hb d_L_law_434 rfl (lv_at hl 0 rfl) ?_
  refine lv_iload_n hx hb d_L_law_435 rfl (lv_at hl 3 rfl) ?_
  refine lv_iconst (v := 2) hx hb d_L_law_436 (by decide) ?_
  refine lv_iadd hx hb d_L_law_437 ?_
  refine lv_topi (fun x22 ex22 => ?_)
  have r23 : Rg x22 2 3579 := rg_add ex22 rx3 (⟨by decide, by decide⟩ : Rg 2 2 2) (by decide) (by decide)
  have s24 : x22.toInt = x3.toInt + (2 : Int32).toInt := by rw [ex22]; exact i_add (by obtain ⟨_, _⟩ := rx3; obtain ⟨_, _⟩ := (⟨by decide, by decide⟩ : Rg 2 2 2); omega) (by obtain ⟨_, _⟩ := rx3; obtain ⟨_, _⟩ := (⟨by decide, by decide⟩ : Rg 2 2 2); omega)
  have s24l : (2 : Int32).toInt = 2 := rfl
  refine va_sld hx hb hsx hbl hbA hS (vp_in_iff.mpr ⟨by omega, by omega⟩) d_L_law_438 ?_
  refine lv_seti (y := x8) (by rw [ex8, ex22, ex5]) ?_
  refine lv_aload_n hx hb d_L_law_439 rfl (lv_at hl 0 rfl) ?_
  refine lv_iload_n hx hb d_L_law_440 rfl (lv_at hl 3 rfl) ?_
  refine lv_iconst (v := 3) hx hb d_L_law_441 (by decide) ?_
  refine lv_iadd hx hb d_L_law_442 ?_
  refine lv_topi (fun x25 ex25 => ?_)
  have r26 : Rg x25 3 3580 := rg_add ex25 rx3 (⟨by decide, by decide⟩ : Rg 3 3 3) (by decide) (by decide)
  have s27 : x25.toInt = x3.toInt + (3 : Int32).toInt := by rw [ex25]; exact i_add (by obtain ⟨_, _⟩ := rx3; obtain ⟨_, _⟩ := (⟨by decide, by decide⟩ : Rg 3 3 3); omega) (by obtain ⟨_, _⟩ := rx3; obtain ⟨_, _⟩ := (⟨by decide, by decide⟩ : Rg 3 3 3); omega)
  have s27l : (3 : Int32).toInt = 3 := rfl
  refine va_sld hx hb hsx hbl hbA hS (vp_in_iff.mpr ⟨by omega, by omega⟩) d_L_law_443 ?_
  refine lv_seti (y := x12) (by rw [ex12, ex25, ex9]) ?_
  refine r_ci (r_runV (n := 3) (As := [.int x4, .int x8, .int x12]) (rest := []) X hw (ct_X11_burn_400 l D dA ad v15 hI17 x4 x8 x12) gc_L_45 (rfl : KD 400 = _) (by decide) rfl (by decide +kernel) ⟨rfl, rfl, Nat.le_of_ble_eq_true rfl, Nat.le_of_ble_eq_true rfl⟩ rfl hl.1 rfl (Nat.le_of_ble_eq_true rfl) ⟨Nat.le_of_ble_eq_true rfl, Nat.le_of_ble_eq_true rfl⟩ d_L_law_444) hS (fun x29 v30 H locs hp28 hw hS => ?_)
  obtain ⟨hp28, hE31⟩ := hp28
  obtain ⟨hI32, hK33⟩ := hp28
  refine lv_pop hx hb d_L_law_447 rfl ?_
  refine lv_goto (tgt := 1065) hx hb d_L_law_448 (by decide) ?_
  exact kk _ _ _ hI32 (rel_burn x4 x8 x12 hI hR hI17 hK18 hE16 hI32 hK33 hE31) hw hS
set_option maxHeartbeats 4000000 in
set_option maxRecDepth 100000 in
theorem lc_7 (Y : LX p s m c b L xs D dA ad sa) {v : tV} {H : Heap} {locs : List Loc} {ls : Array Slot} {x3 : Int32} (hI : Inv v) (hR : RelS v) (hw : tI D dA ad v H) (hS : va_S (tA ad) s.heap H locs) (hl : lv_has ls 4 [(0, .ref b), (1, .ref (ad 0)), (2, .ref (ad 400)), (3, .int x3)]) (h0 : 0 ≤ x3.toInt) (h7 : x3.toInt + 7 ≤ (L : Int))
    (kk : ∀ (v' : tV) (H : Heap) (locs : List Loc), Inv v' → RelS v' → tI D dA ad v' H → va_S (tA ad) s.heap H locs → W p l e room_1 s m #[Value.ref b] below meth c H locs 600000 7302250 Q (F0 m 1065 ls [])) : W p l e room_1 s m #[Value.ref b] below meth c H locs 600000 7302250 Q (F0 m 451 ls []) := by
  obtain ⟨X, hsx, hbl, hbA, hSC, hL⟩ := Y
  have hx := X.1
  have hb := X.2.1
  have rx3 : Rg x3 0 3577 := ⟨h0, by omega⟩
  refine lv_aload_n hx hb d_L_law_451 rfl (lv_at hl 1 rfl) ?_
  refine lv_aload_n hx hb d_L_law_452 rfl (lv_at hl 0 rfl) ?_
  refine lv_iload_n hx hb d_L_law_453 rfl (lv_at hl 3 rfl) ?_
  refine lv_iconst (v := 1) hx hb d_L_law_454 (by decide) ?_
  refine lv_iadd hx hb d_L_law_455 ?_
  refine lv_topi (fun x1 ex1 => ?_)
  have r2 : Rg x1 1 3578 := rg_add ex1 rx3 (⟨by decide, by decide⟩ : Rg 1 1 1) (by decide) (by decide)
  have s3 : x1.toInt = x3.toInt + (1 : Int32).toInt := by rw [ex1]; exact i_add (by obtain ⟨_, _⟩ := rx3; obtain ⟨_, _⟩ := (⟨by decide, by decide⟩ : Rg 1 1 1); omega) (by obtain ⟨_, _⟩ := rx3; obtain ⟨_, _⟩ := (⟨by decide, by decide⟩ : Rg 1 1 1); omega)
  have s3l : (1 : Int32).toInt = 1 := rfl
  refine va_sld hx hb hsx hbl hbA hS (vp_in_iff.mpr ⟨by omega, by omega⟩) d_L_law_456 ?_
  refine lv_topi (fun x4 ex4 => ?_)
  refine lv_aload_n hx hb d_L_law_457 rfl (lv_at hl 0 rfl) ?_
  refine lv_iload_n hx hb d_L_law_458 rfl (lv_at hl 3 rfl) ?_
  refine lv_iconst (v := 2) hx hb d_L_law_459 (by decide) ?_
  refine lv_iadd hx hb d_L_law_460 ?_
  refine lv_topi (fun x5 ex5 => ?_)
  have r6 : Rg x5 2 3579 := rg_add ex5 rx3 (⟨by decide, by decide⟩ : Rg 2 2 2) (by decide) (by decide)
  have s7 : x5.toInt = x3.toInt + (2 : Int32).toInt := by rw [ex5]; exact i_add (by obtain ⟨_, _⟩ := rx3; obtain ⟨_, _⟩ := (⟨by decide, by decide⟩ : Rg 2 2 2); omega) (by obtain ⟨_, _⟩ := rx3; obtain ⟨_, _⟩ := (⟨by decide, by decide⟩ : Rg 2 2 2); omega)
  have s7l : (2 : Int32).toInt = 2 := rfl
  refine va_sld hx hb hsx hbl hbA hS (vp_in_iff.mpr ⟨by omega, by omega⟩) d_L_law_461 ?_
  refine lv_topi (fun x8 ex8 => ?_)
  refine r_ci (r_runV (n := 2) (As := [.int x4, .int x8]) (rest := []) X hw (ct_X10_store_0 l D dA ad v hI x4 x8) gc_L_46 (rfl : KD 0 = _) (by decide) rfl (by decide +kernel) ⟨rfl, rfl, Nat.le_of_ble_eq_true rfl, Nat.le_of_ble_eq_true rfl⟩ rfl hl.1 rfl (Nat.le_of_ble_eq_true rfl) ⟨Nat.le_of_ble_eq_true rfl, Nat.le_of_ble_eq_true rfl⟩ d_L_law_462) hS (fun x10 v11 H locs hp9 hw hS => ?_)
  obtain ⟨hp9, hE12⟩ := hp9
  obtain ⟨hI13, hK14⟩ := hp9
  refine lv_pop hx hb d_L_law_465 rfl ?_
  refine lv_aload_n hx hb d_L_law_466 rfl (lv_at hl 2 rfl) ?_
  refine lv_aload_n hx hb d_L_law_467 rfl (lv_at hl 0 rfl) ?_
  refine lv_iload_n hx hb d_L_law_468 rfl (lv_at hl 3 rfl) ?_
  refine lv_iconst (v := 1) hx hb d_L_law_469 (by decide) ?_
  refine lv_iadd hx hb d_L_law_470 ?_
  refine lv_topi (fun x15 ex15 => ?_)
  have r16 : Rg x15 1 3578 := rg_add ex15 rx3 (⟨by decide, by decide⟩ : Rg 1 1 1) (by decide) (by decide)
  have s17 : x15.toInt = x3.toInt + (1 : Int32).toInt := by rw [ex15]; exact i_add (by obtain ⟨_, _⟩ := rx3; obtain ⟨_, _⟩ := (⟨by decide, by decide⟩ : Rg 1 1 1); omega) (by obtain ⟨_, _⟩ := rx3; obtain ⟨_, _⟩ := (⟨by decide, by decide⟩ : Rg 1 1 1); omega)
  have s17l : (1 : Int32).toInt = 1 := rfl
  refine va_sld hx hb hsx hbl hbA hS (vp_in_iff.mpr ⟨by omega, by omega⟩) d_L_law_471 ?_
  refine lv_seti (y := x4) (by rw [ex4, ex15, ex1]) ?_
  refine lv_aload_n hx hb d_L_law_472 rfl (lv_at hl 0 rfl) ?_
  refine lv_iload_n hx hb d_L_law_473 rfl (lv_at hl 3 rfl) ?_
  refine lv_iconst (v := 2) hx hb d_L_law_474 (by decide) ?_
  refine lv_iadd hx hb d_L_law_475 ?_
  refine lv_topi (fun x18 ex18 => ?_)
  have r19 : Rg x18 2 3579 := rg_add ex18 rx3 (⟨by decide, by decide⟩ : Rg 2 2 2) (by decide) (by decide)
  have s20 : x18.toInt = x3.toInt + (2 : Int32).toInt := by rw [ex18]; exact i_add (by obtain ⟨_, _⟩ := rx3; obtain ⟨_, _⟩ := (⟨by decide, by decide⟩ : Rg 2 2 2); omega) (by obtain ⟨_, _⟩ := rx3; obtain ⟨_, _⟩ := (⟨by decide, by decide⟩ : Rg 2 2 2); omega)
  have s20l : (2 : Int32).toInt = 2 := rfl
  refine va_sld hx hb hsx hbl hbA hS (vp_in_iff.mpr ⟨by omega, by omega⟩) d_L_law_476 ?_
  refine lv_seti (y := x8) (by rw [ex8, ex18, ex5]) ?_
  refine r_ci (r_runV (n := 2) (As := [.int x4, .int x8]) (rest := []) X hw (ct_X11_store_400 l D dA ad v11 hI13 x4 x8) gc_L_49 (rfl : KD 400 = _) (by decide) rfl (by decide +kernel) ⟨rfl, rfl, Nat.le_of_ble_eq_true rfl, Nat.le_of_ble_eq_true rfl⟩ rfl hl.1 rfl (Nat.le_of_ble_eq_true rfl) ⟨Nat.le_of_ble_eq_true rfl, Nat.le_of_ble_eq_true rfl⟩ d_L_law_477) hS (fun x22 v23 H locs hp21 hw hS => ?_)
  obtain ⟨hp21, hE24⟩ := hp21
  obtain ⟨hI25, hK26⟩ := hp21
  refine lv_pop hx hb d_L_law_480 rfl ?_
  refine lv_goto (tgt := 1065) hx hb d_L_law_481 (by decide) ?_
  exact kk _ _ _ hI25 (rel_store x4 x8 hI hR hI13 hK14 hE12 hI25 hK26 hE24) hw hS
set_option maxHeartbeats 4000000 in
set_option maxRecDepth 100000 in
theorem lc_8 (Y : LX p s m c b L xs D dA ad sa) {v : tV} {H : Heap} {locs : List Loc} {ls : Array Slot} {x3 : Int32} (hI : Inv v) (hR : RelS v) (hw : tI D dA ad v H) (hS : va_S (tA ad) s.heap H locs) (hl : lv_has ls 4 [(0, .ref b), (1, .ref (ad 0)), (2, .ref (ad 400)), (3, .int x3)]) (h0 : 0 ≤ x3.toInt) (h7 : x3.toInt + 7 ≤ (L : Int))
    (kk : ∀ (v' : tV) (H : Heap) (locs : List Loc), Inv v' → RelS v' → tI D dA ad v' H → va_S (tA ad) s.heap H locs → W p l e room_1 s m #[Value.ref b] below meth c H locs 600000 7302250 Q (F0 m 1065 ls [])) : W p l e room_1 s m #[Value.ref b] below meth c H locs 600000 7302250 Q (F0 m 484 ls []) := by
  obtain ⟨X, hsx, hbl, hbA, hSC, hL⟩ := Y
  have hx := X.1
  have hb := X.2.1
  have rx3 : Rg x3 0 3577 := ⟨h0, by omega⟩
  refine lv_aload_n hx hb d_L_law_484 rfl (lv_at hl 1 rfl) ?_
  refine lv_aload_n hx hb d_L_law_485 rfl (lv_at hl 0 rfl) ?_
  refine lv_iload_n hx hb d_L_law_486 rfl (lv_at hl 3 rfl) ?_
  refine lv_iconst (v := 1) hx hb d_L_law_487 (by decide) ?_
  refine lv_iadd hx hb d_L_law_488 ?_
  refine lv_topi (fun x1 ex1 => ?_)
  have r2 : Rg x1 1 3578 := rg_add ex1 rx3 (⟨by decide, by decide⟩ : Rg 1 1 1) (by decide) (by decide)
  have s3 : x1.toInt = x3.toInt + (1 : Int32).toInt := by rw [ex1]; exact i_add (by obtain ⟨_, _⟩ := rx3; obtain ⟨_, _⟩ := (⟨by decide, by decide⟩ : Rg 1 1 1); omega) (by obtain ⟨_, _⟩ := rx3; obtain ⟨_, _⟩ := (⟨by decide, by decide⟩ : Rg 1 1 1); omega)
  have s3l : (1 : Int32).toInt = 1 := rfl
  refine va_sld hx hb hsx hbl hbA hS (vp_in_iff.mpr ⟨by omega, by omega⟩) d_L_law_489 ?_
  refine lv_topi (fun x4 ex4 => ?_)
  refine lv_i2l hx hb d_L_law_490 rfl ?_
  refine lv_topl (fun x5 ex5 => ?_)
  refine lv_bipush (v := 32) hx hb d_L_law_491 (by decide) ?_
  refine lv_lshl hx hb d_L_law_493 rfl ?_
  refine lv_topl (fun x6 ex6 => ?_)
  refine lv_aload_n hx hb d_L_law_494 rfl (lv_at hl 0 rfl) ?_
  refine lv_iload_n hx hb d_L_law_495 rfl (lv_at hl 3 rfl) ?_
  refine lv_iconst (v := 2) hx hb d_L_law_496 (by decide) ?_
  refine lv_iadd hx hb d_L_law_497 ?_
  refine lv_topi (fun x7 ex7 => ?_)
  have r8 : Rg x7 2 3579 := rg_add ex7 rx3 (⟨by decide, by decide⟩ : Rg 2 2 2) (by decide) (by decide)
  have s9 : x7.toInt = x3.toInt + (2 : Int32).toInt := by rw [ex7]; exact i_add (by obtain ⟨_, _⟩ := rx3; obtain ⟨_, _⟩ := (⟨by decide, by decide⟩ : Rg 2 2 2); omega) (by obtain ⟨_, _⟩ := rx3; obtain ⟨_, _⟩ := (⟨by decide, by decide⟩ : Rg 2 2 2); omega)
  have s9l : (2 : Int32).toInt = 2 := rfl
  refine va_sld hx hb hsx hbl hbA hS (vp_in_iff.mpr ⟨by omega, by omega⟩) d_L_law_498 ?_
  refine lv_topi (fun x10 ex10 => ?_)
  refine lv_i2l hx hb d_L_law_499 rfl ?_
  refine lv_topl (fun x11 ex11 => ?_)
  refine lv_ldc2 hx hb X.2.2.2.1 (X.2.2.2.2.1 _ kj_L_50) d_L_law_500 ?_
  refine lv_land hx hb d_L_law_503 ?_
  refine lv_topl (fun x12 ex12 => ?_)
  refine lv_lor hx hb d_L_law_504 ?_
  refine lv_topl (fun x13 ex13 => ?_)
  refine lv_aload_n hx hb d_L_law_505 rfl (lv_at hl 0 rfl) ?_
  refine lv_iload_n hx hb d_L_law_506 rfl (lv_at hl 3 rfl) ?_
  refine lv_iconst (v := 3) hx hb d_L_law_507 (by decide) ?_
  refine lv_iadd hx hb d_L_law_508 ?_
  refine lv_topi (fun x14 ex14 => ?_)
  have r15 : Rg x14 3 3580 := rg_add ex14 rx3 (⟨by decide, by decide⟩ : Rg 3 3 3) (by decide) (by decide)
  have s16 : x14.toInt = x3.toInt + (3 : Int32).toInt := by rw [ex14]; exact i_add (by obtain ⟨_, _⟩ := rx3; obtain ⟨_, _⟩ := (⟨by decide, by decide⟩ : Rg 3 3 3); omega) (by obtain ⟨_, _⟩ := rx3; obtain ⟨_, _⟩ := (⟨by decide, by decide⟩ : Rg 3 3 3); omega)
  have s16l : (3 : Int32).toInt = 3 := rfl
  refine va_sld hx hb hsx hbl hbA hS (vp_in_iff.mpr ⟨by omega, by omega⟩) d_L_law_509 ?_
  refine lv_topi (fun x17 ex17 => ?_)
  refine r_ci (r_runV (n := 2) (As := [.long x13, .int x17]) (rest := []) X hw (ct_X10_feed_0 l D dA ad v hI x13 x17) gc_L_52 (rfl : KD 0 = _) (by decide) rfl (by decide +kernel) ⟨rfl, rfl, Nat.le_of_ble_eq_true rfl, Nat.le_of_ble_eq_true rfl⟩ rfl hl.1 rfl (Nat.le_of_ble_eq_true rfl) ⟨Nat.le_of_ble_eq_true rfl, Nat.le_of_ble_eq_true rfl⟩ d_L_law_510) hS (fun x19 v20 H locs hp18 hw hS => ?_)
  obtain ⟨hp18, hE21⟩ := hp18
  obtain ⟨hI22, hK23⟩ := hp18
  refine lv_pop hx hb d_L_law_513 rfl ?_
  refine lv_aload_n hx hb d_L_law_514 rfl (lv_at hl 2 rfl) ?_
  refine lv_aload_n hx hb d_L_law_515 rfl (lv_at hl 0 rfl) ?_
  refine lv_iload_n hx hb d_L_law_516 rfl (lv_at hl 3 rfl) ?_
  refine lv_iconst (v := 1) hx hb d_L_law_517 (by decide) ?_
  refine lv_iadd hx hb d_L_law_518 ?_
  refine lv_topi (fun x24 ex24 => ?_)
  have r25 : Rg x24 1 3578 := rg_add ex24 rx3 (⟨by decide, by decide⟩ : Rg 1 1 1) (by decide) (by decide)
  have s26 : x24.toInt = x3.toInt + (1 : Int32).toInt := by rw [ex24]; exact i_add (by obtain ⟨_, _⟩ := rx3; obtain ⟨_, _⟩ := (⟨by decide, by decide⟩ : Rg 1 1 1); omega) (by obtain ⟨_, _⟩ := rx3; obtain ⟨_, _⟩ := (⟨by decide, by decide⟩ : Rg 1 1 1); omega)
  have s26l : (1 : Int32).toInt = 1 := rfl
  refine va_sld hx hb hsx hbl hbA hS (vp_in_iff.mpr ⟨by omega, by omega⟩) d_L_law_519 ?_
  refine lv_seti (y := x4) (by rw [ex4, ex24, ex1]) ?_
  refine lv_i2l hx hb d_L_law_520 rfl ?_
  refine lv_topl (fun x27 ex27 => ?_)
  have qx27 : x27 = x5 := by rw [ex27, ex5]
  rw [qx27]
  refine lv_bipush (v := 32) hx hb d_L_law_521 (by decide) ?_
  refine lv_lshl hx hb d_L_law_523 rfl ?_
  refine lv_topl (fun x28 ex28 => ?_)
  have qx28 : x28 = x6 := by rw [ex28, ex6]
  rw [qx28]
  refine lv_aload_n hx hb d_L_law_524 rfl (lv_at hl 0 rfl) ?_
  refine lv_iload_n hx hb d_L_law_525 rfl (lv_at hl 3 rfl) ?_
  refine lv_iconst (v := 2) hx hb d_L_law_526 (by decide) ?_
  refine lv_iadd hx hb d_L_law_527 ?_
  refine lv_topi (fun x29 ex29 => ?_)
  have r30 : Rg x29 2 3579 := rg_add ex29 rx3 (⟨by decide, by decide⟩ : Rg 2 2 2) (by decide) (by decide)
  have s31 : x29.toInt = x3.toInt + (2 : Int32).toInt := by rw [ex29]; exact i_add (by obtain ⟨_, _⟩ := rx3; obtain ⟨_, _⟩ := (⟨by decide, by decide⟩ : Rg 2 2 2); omega) (by obtain ⟨_, _⟩ := rx3; obtain ⟨_, _⟩ := (⟨by decide, by decide⟩ : Rg 2 2 2); omega)
  have s31l : (2 : Int32).toInt = 2 := rfl
  refine va_sld hx hb hsx hbl hbA hS (vp_in_iff.mpr ⟨by omega, by omega⟩) d_L_law_528 ?_
  refine lv_seti (y := x10) (by rw [ex10, ex29, ex7]) ?_
  refine lv_i2l hx hb d_L_law_529 rfl ?_
  refine lv_topl (fun x32 ex32 => ?_)
  have qx32 : x32 = x11 := by rw [ex32, ex11]
  rw [qx32]
  refine lv_ldc2 hx hb X.2.2.2.1 (X.2.2.2.2.1 _ kj_L_50) d_L_law_530 ?_
  refine lv_land hx hb d_L_law_533 ?_
  refine lv_topl (fun x33 ex33 => ?_)
  have qx33 : x33 = x12 := by rw [ex33, ex12]
  rw [qx33]
  refine lv_lor hx hb d_L_law_534 ?_
  refine lv_topl (fun x34 ex34 => ?_)
  have qx34 : x34 = x13 := by rw [ex34, ex13]
  rw [qx34]
  refine lv_aload_n hx hb d_L_law_535 rfl (lv_at hl 0 rfl) ?_
  refine lv_iload_n hx hb d_L_law_536 rfl (lv_at hl 3 rfl) ?_
  refine lv_iconst (v := 3) hx hb d_L_law_537 (by decide) ?_
  refine lv_iadd hx hb d_L_law_538 ?_
  refine lv_topi (fun x35 ex35 => ?_)
  have r36 : Rg x35 3 3580 := rg_add ex35 rx3 (⟨by decide, by decide⟩ : Rg 3 3 3) (by decide) (by decide)
  have s37 : x35.toInt = x3.toInt + (3 : Int32).toInt := by rw [ex35]; exact i_add (by obtain ⟨_, _⟩ := rx3; obtain ⟨_, _⟩ := (⟨by decide, by decide⟩ : Rg 3 3 3); omega) (by obtain ⟨_, _⟩ := rx3; obtain ⟨_, _⟩ := (⟨by decide, by decide⟩ : Rg 3 3 3); omega)
  have s37l : (3 : Int32).toInt = 3 := rfl
  refine va_sld hx hb hsx hbl hbA hS (vp_in_iff.mpr ⟨by omega, by omega⟩) d_L_law_539 ?_
  refine lv_seti (y := x17) (by rw [ex17, ex35, ex14]) ?_
  refine r_ci (r_runV (n := 2) (As := [.long x13, .int x17]) (rest := []) X hw (ct_X11_feed_400 l D dA ad v20 hI22 x13 x17) gc_L_56 (rfl : KD 400 = _) (by decide) rfl (by decide +kernel) ⟨rfl, rfl, Nat.le_of_ble_eq_true rfl, Nat.le_of_ble_eq_true rfl⟩ rfl hl.1 rfl (Nat.le_of_ble_eq_true rfl) ⟨Nat.le_of_ble_eq_true rfl, Nat.le_of_ble_eq_true rfl⟩ d_L_law_540) hS (fun x39 v40 H locs hp38 hw hS => ?_)
  obtain ⟨hp38, hE41⟩ := hp38
  obtain ⟨hI42, hK43⟩ := hp38
  refine lv_pop hx hb d_L_law_543 rfl ?_
  refine lv_goto (tgt := 1065) hx hb d_L_law_544 (by decide) ?_
  exact kk _ _ _ hI42 (rel_feed x13 x17 hI hR hI22 hK23 hE21 hI42 hK43 hE41) hw hS
set_option maxHeartbeats 4000000 in
set_option maxRecDepth 100000 in
theorem lc_9 (Y : LX p s m c b L xs D dA ad sa) {v : tV} {H : Heap} {locs : List Loc} {ls : Array Slot} {x3 : Int32} (hI : Inv v) (hR : RelS v) (hw : tI D dA ad v H) (hS : va_S (tA ad) s.heap H locs) (hl : lv_has ls 4 [(0, .ref b), (1, .ref (ad 0)), (2, .ref (ad 400)), (3, .int x3)]) (h0 : 0 ≤ x3.toInt) (h7 : x3.toInt + 7 ≤ (L : Int))
    (kk : ∀ (v' : tV) (H : Heap) (locs : List Loc), Inv v' → RelS v' → tI D dA ad v' H → va_S (tA ad) s.heap H locs → W p l e room_1 s m #[Value.ref b] below meth c H locs 600000 7302250 Q (F0 m 1065 ls [])) : W p l e room_1 s m #[Value.ref b] below meth c H locs 600000 7302250 Q (F0 m 547 ls []) := by
  obtain ⟨X, hsx, hbl, hbA, hSC, hL⟩ := Y
  have hx := X.1
  have hb := X.2.1
  have rx3 : Rg x3 0 3577 := ⟨h0, by omega⟩
  refine lv_aload_n hx hb d_L_law_547 rfl (lv_at hl 1 rfl) ?_
  refine lv_aload_n hx hb d_L_law_548 rfl (lv_at hl 0 rfl) ?_
  refine lv_iload_n hx hb d_L_law_549 rfl (lv_at hl 3 rfl) ?_
  refine lv_iconst (v := 1) hx hb d_L_law_550 (by decide) ?_
  refine lv_iadd hx hb d_L_law_551 ?_
  refine lv_topi (fun x1 ex1 => ?_)
  have r2 : Rg x1 1 3578 := rg_add ex1 rx3 (⟨by decide, by decide⟩ : Rg 1 1 1) (by decide) (by decide)
  have s3 : x1.toInt = x3.toInt + (1 : Int32).toInt := by rw [ex1]; exact i_add (by obtain ⟨_, _⟩ := rx3; obtain ⟨_, _⟩ := (⟨by decide, by decide⟩ : Rg 1 1 1); omega) (by obtain ⟨_, _⟩ := rx3; obtain ⟨_, _⟩ := (⟨by decide, by decide⟩ : Rg 1 1 1); omega)
  have s3l : (1 : Int32).toInt = 1 := rfl
  refine va_sld hx hb hsx hbl hbA hS (vp_in_iff.mpr ⟨by omega, by omega⟩) d_L_law_552 ?_
  refine lv_topi (fun x4 ex4 => ?_)
  refine r_ci (r_runVs (n := 1) (As := [.int x4]) (rest := []) X hw hSC hS (ct_X10_order_0 l D dA ad sa v hI x4) gc_L_57 (rfl : KD 0 = _) (by decide) rfl (by decide +kernel) ⟨rfl, rfl, Nat.le_of_ble_eq_true rfl, Nat.le_of_ble_eq_true rfl⟩ rfl hl.1 rfl (Nat.le_of_ble_eq_true rfl) ⟨Nat.le_of_ble_eq_true rfl, Nat.le_of_ble_eq_true rfl⟩ d_L_law_553) hS (fun x6 v7 H locs hp5 hw hS => ?_)
  obtain ⟨hp5, hE8⟩ := hp5
  obtain ⟨hI9, hK10⟩ := hp5
  refine lv_pop hx hb d_L_law_556 rfl ?_
  refine lv_aload_n hx hb d_L_law_557 rfl (lv_at hl 2 rfl) ?_
  refine lv_aload_n hx hb d_L_law_558 rfl (lv_at hl 0 rfl) ?_
  refine lv_iload_n hx hb d_L_law_559 rfl (lv_at hl 3 rfl) ?_
  refine lv_iconst (v := 1) hx hb d_L_law_560 (by decide) ?_
  refine lv_iadd hx hb d_L_law_561 ?_
  refine lv_topi (fun x11 ex11 => ?_)
  have r12 : Rg x11 1 3578 := rg_add ex11 rx3 (⟨by decide, by decide⟩ : Rg 1 1 1) (by decide) (by decide)
  have s13 : x11.toInt = x3.toInt + (1 : Int32).toInt := by rw [ex11]; exact i_add (by obtain ⟨_, _⟩ := rx3; obtain ⟨_, _⟩ := (⟨by decide, by decide⟩ : Rg 1 1 1); omega) (by obtain ⟨_, _⟩ := rx3; obtain ⟨_, _⟩ := (⟨by decide, by decide⟩ : Rg 1 1 1); omega)
  have s13l : (1 : Int32).toInt = 1 := rfl
  refine va_sld hx hb hsx hbl hbA hS (vp_in_iff.mpr ⟨by omega, by omega⟩) d_L_law_562 ?_
  refine lv_seti (y := x4) (by rw [ex4, ex11, ex1]) ?_
  refine r_ci (r_runV (n := 1) (As := [.int x4]) (rest := []) X hw (ct_X11_order_400 l D dA ad v7 hI9 x4) gc_L_60 (rfl : KD 400 = _) (by decide) rfl (by decide +kernel) ⟨rfl, rfl, Nat.le_of_ble_eq_true rfl, Nat.le_of_ble_eq_true rfl⟩ rfl hl.1 rfl (Nat.le_of_ble_eq_true rfl) ⟨Nat.le_of_ble_eq_true rfl, Nat.le_of_ble_eq_true rfl⟩ d_L_law_563) hS (fun x15 v16 H locs hp14 hw hS => ?_)
  obtain ⟨hp14, hE17⟩ := hp14
  obtain ⟨hI18, hK19⟩ := hp14
  refine lv_pop hx hb d_L_law_566 rfl ?_
  refine lv_goto (tgt := 1065) hx hb d_L_law_567 (by decide) ?_
  exact kk _ _ _ hI18 (rel_order x4 hI hR hI9 hK10 hE8 hI18 hK19 hE17) hw hS
set_option maxHeartbeats 4000000 in
set_option maxRecDepth 100000 in
theorem lc_10 (Y : LX p s m c b L xs D dA ad sa) {v : tV} {H : Heap} {locs : List Loc} {ls : Array Slot} {x3 : Int32} (hI : Inv v) (hR : RelS v) (hw : tI D dA ad v H) (hS : va_S (tA ad) s.heap H locs) (hl : lv_has ls 4 [(0, .ref b), (1, .ref (ad 0)), (2, .ref (ad 400)), (3, .int x3)]) (h0 : 0 ≤ x3.toInt) (h7 : x3.toInt + 7 ≤ (L : Int))
    (kk : ∀ (v' : tV) (H : Heap) (locs : List Loc), Inv v' → RelS v' → tI D dA ad v' H → va_S (tA ad) s.heap H locs → W p l e room_1 s m #[Value.ref b] below meth c H locs 600000 7302250 Q (F0 m 1065 ls [])) : W p l e room_1 s m #[Value.ref b] below meth c H locs 600000 7302250 Q (F0 m 570 ls []) := by
  obtain ⟨X, hsx, hbl, hbA, hSC, hL⟩ := Y
  have hx := X.1
  have hb := X.2.1
  have rx3 : Rg x3 0 3577 := ⟨h0, by omega⟩
  refine lv_aload_n hx hb d_L_law_570 rfl (lv_at hl 1 rfl) ?_
  refine lv_aload_n hx hb d_L_law_571 rfl (lv_at hl 0 rfl) ?_
  refine lv_iload_n hx hb d_L_law_572 rfl (lv_at hl 3 rfl) ?_
  refine lv_iconst (v := 1) hx hb d_L_law_573 (by decide) ?_
  refine lv_iadd hx hb d_L_law_574 ?_
  refine lv_topi (fun x1 ex1 => ?_)
  have r2 : Rg x1 1 3578 := rg_add ex1 rx3 (⟨by decide, by decide⟩ : Rg 1 1 1) (by decide) (by decide)
  have s3 : x1.toInt = x3.toInt + (1 : Int32).toInt := by rw [ex1]; exact i_add (by obtain ⟨_, _⟩ := rx3; obtain ⟨_, _⟩ := (⟨by decide, by decide⟩ : Rg 1 1 1); omega) (by obtain ⟨_, _⟩ := rx3; obtain ⟨_, _⟩ := (⟨by decide, by decide⟩ : Rg 1 1 1); omega)
  have s3l : (1 : Int32).toInt = 1 := rfl
  refine va_sld hx hb hsx hbl hbA hS (vp_in_iff.mpr ⟨by omega, by omega⟩) d_L_law_575 ?_
  refine lv_topi (fun x4 ex4 => ?_)
  refine r_ci (r_runV (n := 1) (As := [.int x4]) (rest := []) X hw (ct_X10_force_0 l D dA ad v hI x4) gc_L_61 (rfl : KD 0 = _) (by decide) rfl (by decide +kernel) ⟨rfl, rfl, Nat.le_of_ble_eq_true rfl, Nat.le_of_ble_eq_true rfl⟩ rfl hl.1 rfl (Nat.le_of_ble_eq_true rfl) ⟨Nat.le_of_ble_eq_true rfl, Nat.le_of_ble_eq_true rfl⟩ d_L_law_576) hS (fun x6 v7 H locs hp5 hw hS => ?_)
  obtain ⟨hp5, hE8⟩ := hp5
  rw [hp5] at hw
  refine lv_pop hx hb d_L_law_579 rfl ?_
  refine lv_aload_n hx hb d_L_law_580 rfl (lv_at hl 2 rfl) ?_
  refine lv_aload_n hx hb d_L_law_581 rfl (lv_at hl 0 rfl) ?_
  refine lv_iload_n hx hb d_L_law_582 rfl (lv_at hl 3 rfl) ?_
  refine lv_iconst (v := 1) hx hb d_L_law_583 (by decide) ?_
  refine lv_iadd hx hb d_L_law_584 ?_
  refine lv_topi (fun x9 ex9 => ?_)
  have r10 : Rg x9 1 3578 := rg_add ex9 rx3 (⟨by decide, by decide⟩ : Rg 1 1 1) (by decide) (by decide)
  have s11 : x9.toInt = x3.toInt + (1 : Int32).toInt := by rw [ex9]; exact i_add (by obtain ⟨_, _⟩ := rx3; obtain ⟨_, _⟩ := (⟨by decide, by decide⟩ : Rg 1 1 1); omega) (by obtain ⟨_, _⟩ := rx3; obtain ⟨_, _⟩ := (⟨by decide, by decide⟩ : Rg 1 1 1); omega)
  have s11l : (1 : Int32).toInt = 1 := rfl
  refine va_sld hx hb hsx hbl hbA hS (vp_in_iff.mpr ⟨by omega, by omega⟩) d_L_law_585 ?_
  refine lv_seti (y := x4) (by rw [ex4, ex9, ex1]) ?_
  refine r_ci (r_runV (n := 1) (As := [.int x4]) (rest := []) X hw (ct_X11_force_400 l D dA ad v hI x4) gc_L_64 (rfl : KD 400 = _) (by decide) rfl (by decide +kernel) ⟨rfl, rfl, Nat.le_of_ble_eq_true rfl, Nat.le_of_ble_eq_true rfl⟩ rfl hl.1 rfl (Nat.le_of_ble_eq_true rfl) ⟨Nat.le_of_ble_eq_true rfl, Nat.le_of_ble_eq_true rfl⟩ d_L_law_586) hS (fun x13 v14 H locs hp12 hw hS => ?_)
  obtain ⟨hp12, hE15⟩ := hp12
  rw [hp12] at hw
  refine lv_pop hx hb d_L_law_589 rfl ?_
  refine lv_goto (tgt := 1065) hx hb d_L_law_590 (by decide) ?_
  exact kk _ _ _ hI hR hw hS
set_option maxHeartbeats 4000000 in
set_option maxRecDepth 100000 in
theorem lc_11 (Y : LX p s m c b L xs D dA ad sa) {v : tV} {H : Heap} {locs : List Loc} {ls : Array Slot} {x3 : Int32} (hI : Inv v) (hR : RelS v) (hw : tI D dA ad v H) (hS : va_S (tA ad) s.heap H locs) (hl : lv_has ls 4 [(0, .ref b), (1, .ref (ad 0)), (2, .ref (ad 400)), (3, .int x3)]) (h0 : 0 ≤ x3.toInt) (h7 : x3.toInt + 7 ≤ (L : Int))
    (kk : ∀ (v' : tV) (H : Heap) (locs : List Loc), Inv v' → RelS v' → tI D dA ad v' H → va_S (tA ad) s.heap H locs → W p l e room_1 s m #[Value.ref b] below meth c H locs 600000 7302250 Q (F0 m 1065 ls [])) : W p l e room_1 s m #[Value.ref b] below meth c H locs 600000 7302250 Q (F0 m 593 ls []) := by
  obtain ⟨X, hsx, hbl, hbA, hSC, hL⟩ := Y
  have hx := X.1
  have hb := X.2.1
  have rx3 : Rg x3 0 3577 := ⟨h0, by omega⟩
  refine lv_aload_n hx hb d_L_law_593 rfl (lv_at hl 1 rfl) ?_
  refine lv_aload_n hx hb d_L_law_594 rfl (lv_at hl 0 rfl) ?_
  refine lv_iload_n hx hb d_L_law_595 rfl (lv_at hl 3 rfl) ?_
  refine lv_iconst (v := 1) hx hb d_L_law_596 (by decide) ?_
  refine lv_iadd hx hb d_L_law_597 ?_
  refine lv_topi (fun x1 ex1 => ?_)
  have r2 : Rg x1 1 3578 := rg_add ex1 rx3 (⟨by decide, by decide⟩ : Rg 1 1 1) (by decide) (by decide)
  have s3 : x1.toInt = x3.toInt + (1 : Int32).toInt := by rw [ex1]; exact i_add (by obtain ⟨_, _⟩ := rx3; obtain ⟨_, _⟩ := (⟨by decide, by decide⟩ : Rg 1 1 1); omega) (by obtain ⟨_, _⟩ := rx3; obtain ⟨_, _⟩ := (⟨by decide, by decide⟩ : Rg 1 1 1); omega)
  have s3l : (1 : Int32).toInt = 1 := rfl
  refine va_sld hx hb hsx hbl hbA hS (vp_in_iff.mpr ⟨by omega, by omega⟩) d_L_law_598 ?_
  refine lv_topi (fun x4 ex4 => ?_)
  refine lv_aload_n hx hb d_L_law_599 rfl (lv_at hl 0 rfl) ?_
  refine lv_iload_n hx hb d_L_law_600 rfl (lv_at hl 3 rfl) ?_
  refine lv_iconst (v := 2) hx hb d_L_law_601 (by decide) ?_
  refine lv_iadd hx hb d_L_law_602 ?_
  refine lv_topi (fun x5 ex5 => ?_)
  have r6 : Rg x5 2 3579 := rg_add ex5 rx3 (⟨by decide, by decide⟩ : Rg 2 2 2) (by decide) (by decide)
  have s7 : x5.toInt = x3.toInt + (2 : Int32).toInt := by rw [ex5]; exact i_add (by obtain ⟨_, _⟩ := rx3; obtain ⟨_, _⟩ := (⟨by decide, by decide⟩ : Rg 2 2 2); omega) (by obtain ⟨_, _⟩ := rx3; obtain ⟨_, _⟩ := (⟨by decide, by decide⟩ : Rg 2 2 2); omega)
  have s7l : (2 : Int32).toInt = 2 := rfl
  refine va_sld hx hb hsx hbl hbA hS (vp_in_iff.mpr ⟨by omega, by omega⟩) d_L_law_603 ?_
  refine lv_topi (fun x8 ex8 => ?_)
  refine r_ci (r_runV (n := 2) (As := [.int x4, .int x8]) (rest := []) X hw (ct_X10_many_0 l D dA ad v hI x4 x8) gc_L_65 (rfl : KD 0 = _) (by decide) rfl (by decide +kernel) ⟨rfl, rfl, Nat.le_of_ble_eq_true rfl, Nat.le_of_ble_eq_true rfl⟩ rfl hl.1 rfl (Nat.le_of_ble_eq_true rfl) ⟨Nat.le_of_ble_eq_true rfl, Nat.le_of_ble_eq_true rfl⟩ d_L_law_604) hS (fun x10 v11 H locs hp9 hw hS => ?_)
  obtain ⟨hp9, hE12⟩ := hp9
  rw [hp9] at hw
  refine lv_pop hx hb d_L_law_607 rfl ?_
  refine lv_aload_n hx hb d_L_law_608 rfl (lv_at hl 2 rfl) ?_
  refine lv_aload_n hx hb d_L_law_609 rfl (lv_at hl 0 rfl) ?_
  refine lv_iload_n hx hb d_L_law_610 rfl (lv_at hl 3 rfl) ?_
  refine lv_iconst (v := 1) hx hb d_L_law_611 (by decide) ?_
  refine lv_iadd hx hb d_L_law_612 ?_
  refine lv_topi (fun x13 ex13 => ?_)
  have r14 : Rg x13 1 3578 := rg_add ex13 rx3 (⟨by decide, by decide⟩ : Rg 1 1 1) (by decide) (by decide)
  have s15 : x13.toInt = x3.toInt + (1 : Int32).toInt := by rw [ex13]; exact i_add (by obtain ⟨_, _⟩ := rx3; obtain ⟨_, _⟩ := (⟨by decide, by decide⟩ : Rg 1 1 1); omega) (by obtain ⟨_, _⟩ := rx3; obtain ⟨_, _⟩ := (⟨by decide, by decide⟩ : Rg 1 1 1); omega)
  have s15l : (1 : Int32).toInt = 1 := rfl
  refine va_sld hx hb hsx hbl hbA hS (vp_in_iff.mpr ⟨by omega, by omega⟩) d_L_law_613 ?_
  refine lv_seti (y := x4) (by rw [ex4, ex13, ex1]) ?_
  refine lv_aload_n hx hb d_L_law_614 rfl (lv_at hl 0 rfl) ?_
  refine lv_iload_n hx hb d_L_law_615 rfl (lv_at hl 3 rfl) ?_
  refine lv_iconst (v := 2) hx hb d_L_law_616 (by decide) ?_
  refine lv_iadd hx hb d_L_law_617 ?_
  refine lv_topi (fun x16 ex16 => ?_)
  have r17 : Rg x16 2 3579 := rg_add ex16 rx3 (⟨by decide, by decide⟩ : Rg 2 2 2) (by decide) (by decide)
  have s18 : x16.toInt = x3.toInt + (2 : Int32).toInt := by rw [ex16]; exact i_add (by obtain ⟨_, _⟩ := rx3; obtain ⟨_, _⟩ := (⟨by decide, by decide⟩ : Rg 2 2 2); omega) (by obtain ⟨_, _⟩ := rx3; obtain ⟨_, _⟩ := (⟨by decide, by decide⟩ : Rg 2 2 2); omega)
  have s18l : (2 : Int32).toInt = 2 := rfl
  refine va_sld hx hb hsx hbl hbA hS (vp_in_iff.mpr ⟨by omega, by omega⟩) d_L_law_618 ?_
  refine lv_seti (y := x8) (by rw [ex8, ex16, ex5]) ?_
  refine r_ci (r_runV (n := 2) (As := [.int x4, .int x8]) (rest := []) X hw (ct_X11_many_400 l D dA ad v hI x4 x8) gc_L_68 (rfl : KD 400 = _) (by decide) rfl (by decide +kernel) ⟨rfl, rfl, Nat.le_of_ble_eq_true rfl, Nat.le_of_ble_eq_true rfl⟩ rfl hl.1 rfl (Nat.le_of_ble_eq_true rfl) ⟨Nat.le_of_ble_eq_true rfl, Nat.le_of_ble_eq_true rfl⟩ d_L_law_619) hS (fun x20 v21 H locs hp19 hw hS => ?_)
  obtain ⟨hp19, hE22⟩ := hp19
  rw [hp19] at hw
  refine lv_pop hx hb d_L_law_622 rfl ?_
  refine lv_goto (tgt := 1065) hx hb d_L_law_623 (by decide) ?_
  exact kk _ _ _ hI hR hw hS
set_option maxHeartbeats 4000000 in
set_option maxRecDepth 100000 in
theorem lc_12 (Y : LX p s m c b L xs D dA ad sa) {v : tV} {H : Heap} {locs : List Loc} {ls : Array Slot} {x3 : Int32} (hI : Inv v) (hR : RelS v) (hw : tI D dA ad v H) (hS : va_S (tA ad) s.heap H locs) (hl : lv_has ls 4 [(0, .ref b), (1, .ref (ad 0)), (2, .ref (ad 400)), (3, .int x3)]) (h0 : 0 ≤ x3.toInt) (h7 : x3.toInt + 7 ≤ (L : Int))
    (kk : ∀ (v' : tV) (H : Heap) (locs : List Loc), Inv v' → RelS v' → tI D dA ad v' H → va_S (tA ad) s.heap H locs → W p l e room_1 s m #[Value.ref b] below meth c H locs 600000 7302250 Q (F0 m 1065 ls [])) : W p l e room_1 s m #[Value.ref b] below meth c H locs 600000 7302250 Q (F0 m 626 ls []) := by
  obtain ⟨X, hsx, hbl, hbA, hSC, hL⟩ := Y
  have hx := X.1
  have hb := X.2.1
  have rx3 : Rg x3 0 3577 := ⟨h0, by omega⟩
  refine lv_aload_n hx hb d_L_law_626 rfl (lv_at hl 1 rfl) ?_
  refine lv_aload_n hx hb d_L_law_627 rfl (lv_at hl 0 rfl) ?_
  refine lv_iload_n hx hb d_L_law_628 rfl (lv_at hl 3 rfl) ?_
  refine lv_iconst (v := 1) hx hb d_L_law_629 (by decide) ?_
  refine lv_iadd hx hb d_L_law_630 ?_
  refine lv_topi (fun x1 ex1 => ?_)
  have r2 : Rg x1 1 3578 := rg_add ex1 rx3 (⟨by decide, by decide⟩ : Rg 1 1 1) (by decide) (by decide)
  have s3 : x1.toInt = x3.toInt + (1 : Int32).toInt := by rw [ex1]; exact i_add (by obtain ⟨_, _⟩ := rx3; obtain ⟨_, _⟩ := (⟨by decide, by decide⟩ : Rg 1 1 1); omega) (by obtain ⟨_, _⟩ := rx3; obtain ⟨_, _⟩ := (⟨by decide, by decide⟩ : Rg 1 1 1); omega)
  have s3l : (1 : Int32).toInt = 1 := rfl
  refine va_sld hx hb hsx hbl hbA hS (vp_in_iff.mpr ⟨by omega, by omega⟩) d_L_law_631 ?_
  refine lv_topi (fun x4 ex4 => ?_)
  refine r_ci (r_runV (n := 1) (As := [.int x4]) (rest := []) X hw (ct_X10_turn_0 l D dA ad v hI x4) gc_L_69 (rfl : KD 0 = _) (by decide) rfl (by decide +kernel) ⟨rfl, rfl, Nat.le_of_ble_eq_true rfl, Nat.le_of_ble_eq_true rfl⟩ rfl hl.1 rfl (Nat.le_of_ble_eq_true rfl) ⟨Nat.le_of_ble_eq_true rfl, Nat.le_of_ble_eq_true rfl⟩ d_L_law_632) hS (fun x6 v7 H locs hp5 hw hS => ?_)
  obtain ⟨hp5, hE8⟩ := hp5
  obtain ⟨hI9, hK10⟩ := hp5
  refine lv_pop hx hb d_L_law_635 rfl ?_
  refine lv_aload_n hx hb d_L_law_636 rfl (lv_at hl 2 rfl) ?_
  refine lv_aload_n hx hb d_L_law_637 rfl (lv_at hl 0 rfl) ?_
  refine lv_iload_n hx hb d_L_law_638 rfl (lv_at hl 3 rfl) ?_
  refine lv_iconst (v := 1) hx hb d_L_law_639 (by decide) ?_
  refine lv_iadd hx hb d_L_law_640 ?_
  refine lv_topi (fun x11 ex11 => ?_)
  have r12 : Rg x11 1 3578 := rg_add ex11 rx3 (⟨by decide, by decide⟩ : Rg 1 1 1) (by decide) (by decide)
  have s13 : x11.toInt = x3.toInt + (1 : Int32).toInt := by rw [ex11]; exact i_add (by obtain ⟨_, _⟩ := rx3; obtain ⟨_, _⟩ := (⟨by decide, by decide⟩ : Rg 1 1 1); omega) (by obtain ⟨_, _⟩ := rx3; obtain ⟨_, _⟩ := (⟨by decide, by decide⟩ : Rg 1 1 1); omega)
  have s13l : (1 : Int32).toInt = 1 := rfl
  refine va_sld hx hb hsx hbl hbA hS (vp_in_iff.mpr ⟨by omega, by omega⟩) d_L_law_641 ?_
  refine lv_seti (y := x4) (by rw [ex4, ex11, ex1]) ?_
  refine r_ci (r_runV (n := 1) (As := [.int x4]) (rest := []) X hw (ct_X11_turn_400 l D dA ad v7 hI9 x4) gc_L_72 (rfl : KD 400 = _) (by decide) rfl (by decide +kernel) ⟨rfl, rfl, Nat.le_of_ble_eq_true rfl, Nat.le_of_ble_eq_true rfl⟩ rfl hl.1 rfl (Nat.le_of_ble_eq_true rfl) ⟨Nat.le_of_ble_eq_true rfl, Nat.le_of_ble_eq_true rfl⟩ d_L_law_642) hS (fun x15 v16 H locs hp14 hw hS => ?_)
  obtain ⟨hp14, hE17⟩ := hp14
  obtain ⟨hI18, hK19⟩ := hp14
  refine lv_pop hx hb d_L_law_645 rfl ?_
  refine lv_goto (tgt := 1065) hx hb d_L_law_646 (by decide) ?_
  exact kk _ _ _ hI18 (rel_turn x4 hI hR hI9 hK10 hE8 hI18 hK19 hE17) hw hS
set_option maxHeartbeats 4000000 in
set_option maxRecDepth 100000 in
theorem lc_13 (Y : LX p s m c b L xs D dA ad sa) {v : tV} {H : Heap} {locs : List Loc} {ls : Array Slot} {x3 : Int32} (hI : Inv v) (hR : RelS v) (hw : tI D dA ad v H) (hS : va_S (tA ad) s.heap H locs) (hl : lv_has ls 4 [(0, .ref b), (1, .ref (ad 0)), (2, .ref (ad 400)), (3, .int x3)]) (h0 : 0 ≤ x3.toInt) (h7 : x3.toInt + 7 ≤ (L : Int))
    (kk : ∀ (v' : tV) (H : Heap) (locs : List Loc), Inv v' → RelS v' → tI D dA ad v' H → va_S (tA ad) s.heap H locs → W p l e room_1 s m #[Value.ref b] below meth c H locs 600000 7302250 Q (F0 m 1065 ls [])) : W p l e room_1 s m #[Value.ref b] below meth c H locs 600000 7302250 Q (F0 m 649 ls []) := by
  obtain ⟨X, hsx, hbl, hbA, hSC, hL⟩ := Y
  have hx := X.1
  have hb := X.2.1
  have rx3 : Rg x3 0 3577 := ⟨h0, by omega⟩
  refine lv_aload_n hx hb d_L_law_649 rfl (lv_at hl 1 rfl) ?_
  refine lv_aload_n hx hb d_L_law_650 rfl (lv_at hl 0 rfl) ?_
  refine lv_iload_n hx hb d_L_law_651 rfl (lv_at hl 3 rfl) ?_
  refine lv_iconst (v := 1) hx hb d_L_law_652 (by decide) ?_
  refine lv_iadd hx hb d_L_law_653 ?_
  refine lv_topi (fun x1 ex1 => ?_)
  have r2 : Rg x1 1 3578 := rg_add ex1 rx3 (⟨by decide, by decide⟩ : Rg 1 1 1) (by decide) (by decide)
  have s3 : x1.toInt = x3.toInt + (1 : Int32).toInt := by rw [ex1]; exact i_add (by obtain ⟨_, _⟩ := rx3; obtain ⟨_, _⟩ := (⟨by decide, by decide⟩ : Rg 1 1 1); omega) (by obtain ⟨_, _⟩ := rx3; obtain ⟨_, _⟩ := (⟨by decide, by decide⟩ : Rg 1 1 1); omega)
  have s3l : (1 : Int32).toInt = 1 := rfl
  refine va_sld hx hb hsx hbl hbA hS (vp_in_iff.mpr ⟨by omega, by omega⟩) d_L_law_654 ?_
  refine lv_topi (fun x4 ex4 => ?_)
  refine lv_aload_n hx hb d_L_law_655 rfl (lv_at hl 0 rfl) ?_
  refine lv_iload_n hx hb d_L_law_656 rfl (lv_at hl 3 rfl) ?_
  refine lv_iconst (v := 2) hx hb d_L_law_657 (by decide) ?_
  refine lv_iadd hx hb d_L_law_658 ?_
  refine lv_topi (fun x5 ex5 => ?_)
  have r6 : Rg x5 2 3579 := rg_add ex5 rx3 (⟨by decide, by decide⟩ : Rg 2 2 2) (by decide) (by decide)
  have s7 : x5.toInt = x3.toInt + (2 : Int32).toInt := by rw [ex5]; exact i_add (by obtain ⟨_, _⟩ := rx3; obtain ⟨_, _⟩ := (⟨by decide, by decide⟩ : Rg 2 2 2); omega) (by obtain ⟨_, _⟩ := rx3; obtain ⟨_, _⟩ := (⟨by decide, by decide⟩ : Rg 2 2 2); omega)
  have s7l : (2 : Int32).toInt = 2 := rfl
  refine va_sld hx hb hsx hbl hbA hS (vp_in_iff.mpr ⟨by omega, by omega⟩) d_L_law_659 ?_
  refine lv_topi (fun x8 ex8 => ?_)
  refine lv_aload_n hx hb d_L_law_660 rfl (lv_at hl 0 rfl) ?_
  refine lv_iload_n hx hb d_L_law_661 rfl (lv_at hl 3 rfl) ?_
  refine lv_iconst (v := 3) hx hb d_L_law_662 (by decide) ?_
  refine lv_iadd hx hb d_L_law_663 ?_
  refine lv_topi (fun x9 ex9 => ?_)
  have r10 : Rg x9 3 3580 := rg_add ex9 rx3 (⟨by decide, by decide⟩ : Rg 3 3 3) (by decide) (by decide)
  have s11 : x9.toInt = x3.toInt + (3 : Int32).toInt := by rw [ex9]; exact i_add (by obtain ⟨_, _⟩ := rx3; obtain ⟨_, _⟩ := (⟨by decide, by decide⟩ : Rg 3 3 3); omega) (by obtain ⟨_, _⟩ := rx3; obtain ⟨_, _⟩ := (⟨by decide, by decide⟩ : Rg 3 3 3); omega)
  have s11l : (3 : Int32).toInt = 3 := rfl
  refine va_sld hx hb hsx hbl hbA hS (vp_in_iff.mpr ⟨by omega, by omega⟩) d_L_law_664 ?_
  refine lv_topi (fun x12 ex12 => ?_)
  refine r_ci (r_runV (n := 3) (As := [.int x4, .int x8, .int x12]) (rest := []) X hw (ct_X10_day_0 l D dA ad v hI x4 x8 x12) gc_L_73 (rfl : KD 0 = _) (by decide) rfl (by decide +kernel) ⟨rfl, rfl, Nat.le_of_ble_eq_true rfl, Nat.le_of_ble_eq_true rfl⟩ rfl hl.1 rfl (Nat.le_of_ble_eq_true rfl) ⟨Nat.le_of_ble_eq_true rfl, Nat.le_of_ble_eq_true rfl⟩ d_L_law_665) hS (fun x14 v15 H locs hp13 hw hS => ?_)
  obtain ⟨hp13, hE16⟩ := hp13
  obtain ⟨hI17, hK18⟩ := hp13
  refine lv_pop hx hb d_L_law_668 rfl ?_
  refine lv_aload_n hx hb d_L_law_669 rfl (lv_at hl 2 rfl) ?_
  refine lv_aload_n hx hb d_L_law_670 rfl (lv_at hl 0 rfl) ?_
  refine lv_iload_n hx hb d_L_law_671 rfl (lv_at hl 3 rfl) ?_
  refine lv_iconst (v := 1) hx hb d_L_law_672 (by decide) ?_
  refine lv_iadd hx hb d_L_law_673 ?_
  refine lv_topi (fun x19 ex19 => ?_)
  have r20 : Rg x19 1 3578 := rg_add ex19 rx3 (⟨by decide, by decide⟩ : Rg 1 1 1) (by decide) (by decide)
  have s21 : x19.toInt = x3.toInt + (1 : Int32).toInt := by rw [ex19]; exact i_add (by obtain ⟨_, _⟩ := rx3; obtain ⟨_, _⟩ := (⟨by decide, by decide⟩ : Rg 1 1 1); omega) (by obtain ⟨_, _⟩ := rx3; obtain ⟨_, _⟩ := (⟨by decide, by decide⟩ : Rg 1 1 1); omega)
  have s21l : (1 : Int32).toInt = 1 := rfl
  refine va_sld hx hb hsx hbl hbA hS (vp_in_iff.mpr ⟨by omega, by omega⟩) d_L_law_674 ?_
  refine lv_seti (y := x4) (by rw [ex4, ex19, ex1]) ?_
  refine lv_aload_n hx hb d_L_law_675 rfl (lv_at hl 0 rfl) ?_
  refine lv_iload_n hx hb d_L_law_676 rfl (lv_at hl 3 rfl) ?_
  refine lv_iconst (v := 2) hx hb d_L_law_677 (by decide) ?_
  refine lv_iadd hx hb d_L_law_678 ?_
  refine lv_topi (fun x22 ex22 => ?_)
  have r23 : Rg x22 2 3579 := rg_add ex22 rx3 (⟨by decide, by decide⟩ : Rg 2 2 2) (by decide) (by decide)
  have s24 : x22.toInt = x3.toInt + (2 : Int32).toInt := by rw [ex22]; exact i_add (by obtain ⟨_, _⟩ := rx3; obtain ⟨_, _⟩ := (⟨by decide, by decide⟩ : Rg 2 2 2); omega) (by obtain ⟨_, _⟩ := rx3; obtain ⟨_, _⟩ := (⟨by decide, by decide⟩ : Rg 2 2 2); omega)
  have s24l : (2 : Int32).toInt = 2 := rfl
  refine va_sld hx hb hsx hbl hbA hS (vp_in_iff.mpr ⟨by omega, by omega⟩) d_L_law_679 ?_
  refine lv_seti (y := x8) (by rw [ex8, ex22, ex5]) ?_
  refine lv_aload_n hx hb d_L_law_680 rfl (lv_at hl 0 rfl) ?_
  refine lv_iload_n hx hb d_L_law_681 rfl (lv_at hl 3 rfl) ?_
  refine lv_iconst (v := 3) hx hb d_L_law_682 (by decide) ?_
  refine lv_iadd hx hb d_L_law_683 ?_
  refine lv_topi (fun x25 ex25 => ?_)
  have r26 : Rg x25 3 3580 := rg_add ex25 rx3 (⟨by decide, by decide⟩ : Rg 3 3 3) (by decide) (by decide)
  have s27 : x25.toInt = x3.toInt + (3 : Int32).toInt := by rw [ex25]; exact i_add (by obtain ⟨_, _⟩ := rx3; obtain ⟨_, _⟩ := (⟨by decide, by decide⟩ : Rg 3 3 3); omega) (by obtain ⟨_, _⟩ := rx3; obtain ⟨_, _⟩ := (⟨by decide, by decide⟩ : Rg 3 3 3); omega)
  have s27l : (3 : Int32).toInt = 3 := rfl
  refine va_sld hx hb hsx hbl hbA hS (vp_in_iff.mpr ⟨by omega, by omega⟩) d_L_law_684 ?_
  refine lv_seti (y := x12) (by rw [ex12, ex25, ex9]) ?_
  refine r_ci (r_runV (n := 3) (As := [.int x4, .int x8, .int x12]) (rest := []) X hw (ct_X11_day_400 l D dA ad v15 hI17 x4 x8 x12) gc_L_76 (rfl : KD 400 = _) (by decide) rfl (by decide +kernel) ⟨rfl, rfl, Nat.le_of_ble_eq_true rfl, Nat.le_of_ble_eq_true rfl⟩ rfl hl.1 rfl (Nat.le_of_ble_eq_true rfl) ⟨Nat.le_of_ble_eq_true rfl, Nat.le_of_ble_eq_true rfl⟩ d_L_law_685) hS (fun x29 v30 H locs hp28 hw hS => ?_)
  obtain ⟨hp28, hE31⟩ := hp28
  obtain ⟨hI32, hK33⟩ := hp28
  refine lv_pop hx hb d_L_law_688 rfl ?_
  refine lv_goto (tgt := 1065) hx hb d_L_law_689 (by decide) ?_
  exact kk _ _ _ hI32 (rel_day x4 x8 x12 hI hR hI17 hK18 hE16 hI32 hK33 hE31) hw hS
set_option maxHeartbeats 4000000 in
set_option maxRecDepth 100000 in
theorem lc_14 (Y : LX p s m c b L xs D dA ad sa) {v : tV} {H : Heap} {locs : List Loc} {ls : Array Slot} {x3 : Int32} (hI : Inv v) (hR : RelS v) (hw : tI D dA ad v H) (hS : va_S (tA ad) s.heap H locs) (hl : lv_has ls 4 [(0, .ref b), (1, .ref (ad 0)), (2, .ref (ad 400)), (3, .int x3)]) (h0 : 0 ≤ x3.toInt) (h7 : x3.toInt + 7 ≤ (L : Int))
    (kk : ∀ (v' : tV) (H : Heap) (locs : List Loc), Inv v' → RelS v' → tI D dA ad v' H → va_S (tA ad) s.heap H locs → W p l e room_1 s m #[Value.ref b] below meth c H locs 600000 7302250 Q (F0 m 1065 ls [])) : W p l e room_1 s m #[Value.ref b] below meth c H locs 600000 7302250 Q (F0 m 692 ls []) := by
  obtain ⟨X, hsx, hbl, hbA, hSC, hL⟩ := Y
  have hx := X.1
  have hb := X.2.1
  have rx3 : Rg x3 0 3577 := ⟨h0, by omega⟩
  refine lv_aload_n hx hb d_L_law_692 rfl (lv_at hl 1 rfl) ?_
  refine lv_aload_n hx hb d_L_law_693 rfl (lv_at hl 0 rfl) ?_
  refine lv_iload_n hx hb d_L_law_694 rfl (lv_at hl 3 rfl) ?_
  refine lv_iconst (v := 1) hx hb d_L_law_695 (by decide) ?_
  refine lv_iadd hx hb d_L_law_696 ?_
  refine lv_topi (fun x1 ex1 => ?_)
  have r2 : Rg x1 1 3578 := rg_add ex1 rx3 (⟨by decide, by decide⟩ : Rg 1 1 1) (by decide) (by decide)
  have s3 : x1.toInt = x3.toInt + (1 : Int32).toInt := by rw [ex1]; exact i_add (by obtain ⟨_, _⟩ := rx3; obtain ⟨_, _⟩ := (⟨by decide, by decide⟩ : Rg 1 1 1); omega) (by obtain ⟨_, _⟩ := rx3; obtain ⟨_, _⟩ := (⟨by decide, by decide⟩ : Rg 1 1 1); omega)
  have s3l : (1 : Int32).toInt = 1 := rfl
  refine va_sld hx hb hsx hbl hbA hS (vp_in_iff.mpr ⟨by omega, by omega⟩) d_L_law_697 ?_
  refine lv_topi (fun x4 ex4 => ?_)
  refine lv_aload_n hx hb d_L_law_698 rfl (lv_at hl 0 rfl) ?_
  refine lv_iload_n hx hb d_L_law_699 rfl (lv_at hl 3 rfl) ?_
  refine lv_iconst (v := 2) hx hb d_L_law_700 (by decide) ?_
  refine lv_iadd hx hb d_L_law_701 ?_
  refine lv_topi (fun x5 ex5 => ?_)
  have r6 : Rg x5 2 3579 := rg_add ex5 rx3 (⟨by decide, by decide⟩ : Rg 2 2 2) (by decide) (by decide)
  have s7 : x5.toInt = x3.toInt + (2 : Int32).toInt := by rw [ex5]; exact i_add (by obtain ⟨_, _⟩ := rx3; obtain ⟨_, _⟩ := (⟨by decide, by decide⟩ : Rg 2 2 2); omega) (by obtain ⟨_, _⟩ := rx3; obtain ⟨_, _⟩ := (⟨by decide, by decide⟩ : Rg 2 2 2); omega)
  have s7l : (2 : Int32).toInt = 2 := rfl
  refine va_sld hx hb hsx hbl hbA hS (vp_in_iff.mpr ⟨by omega, by omega⟩) d_L_law_702 ?_
  refine lv_topi (fun x8 ex8 => ?_)
  refine r_ci (r_runV (n := 2) (As := [.int x4, .int x8]) (rest := []) X hw (ct_X10_about_0 l D dA ad v hI x4 x8) gc_L_77 (rfl : KD 0 = _) (by decide) rfl (by decide +kernel) ⟨rfl, rfl, Nat.le_of_ble_eq_true rfl, Nat.le_of_ble_eq_true rfl⟩ rfl hl.1 rfl (Nat.le_of_ble_eq_true rfl) ⟨Nat.le_of_ble_eq_true rfl, Nat.le_of_ble_eq_true rfl⟩ d_L_law_703) hS (fun x10 v11 H locs hp9 hw hS => ?_)
  obtain ⟨hp9, hE12⟩ := hp9
  rw [hp9] at hw
  refine lv_pop hx hb d_L_law_706 rfl ?_
  refine lv_aload_n hx hb d_L_law_707 rfl (lv_at hl 2 rfl) ?_
  refine lv_aload_n hx hb d_L_law_708 rfl (lv_at hl 0 rfl) ?_
  refine lv_iload_n hx hb d_L_law_709 rfl (lv_at hl 3 rfl) ?_
  refine lv_iconst (v := 1) hx hb d_L_law_710 (by decide) ?_
  refine lv_iadd hx hb d_L_law_711 ?_
  refine lv_topi (fun x13 ex13 => ?_)
  have r14 : Rg x13 1 3578 := rg_add ex13 rx3 (⟨by decide, by decide⟩ : Rg 1 1 1) (by decide) (by decide)
  have s15 : x13.toInt = x3.toInt + (1 : Int32).toInt := by rw [ex13]; exact i_add (by obtain ⟨_, _⟩ := rx3; obtain ⟨_, _⟩ := (⟨by decide, by decide⟩ : Rg 1 1 1); omega) (by obtain ⟨_, _⟩ := rx3; obtain ⟨_, _⟩ := (⟨by decide, by decide⟩ : Rg 1 1 1); omega)
  have s15l : (1 : Int32).toInt = 1 := rfl
  refine va_sld hx hb hsx hbl hbA hS (vp_in_iff.mpr ⟨by omega, by omega⟩) d_L_law_712 ?_
  refine lv_seti (y := x4) (by rw [ex4, ex13, ex1]) ?_
  refine lv_aload_n hx hb d_L_law_713 rfl (lv_at hl 0 rfl) ?_
  refine lv_iload_n hx hb d_L_law_714 rfl (lv_at hl 3 rfl) ?_
  refine lv_iconst (v := 2) hx hb d_L_law_715 (by decide) ?_
  refine lv_iadd hx hb d_L_law_716 ?_
  refine lv_topi (fun x16 ex16 => ?_)
  have r17 : Rg x16 2 3579 := rg_add ex16 rx3 (⟨by decide, by decide⟩ : Rg 2 2 2) (by decide) (by decide)
  have s18 : x16.toInt = x3.toInt + (2 : Int32).toInt := by rw [ex16]; exact i_add (by obtain ⟨_, _⟩ := rx3; obtain ⟨_, _⟩ := (⟨by decide, by decide⟩ : Rg 2 2 2); omega) (by obtain ⟨_, _⟩ := rx3; obtain ⟨_, _⟩ := (⟨by decide, by decide⟩ : Rg 2 2 2); omega)
  have s18l : (2 : Int32).toInt = 2 := rfl
  refine va_sld hx hb hsx hbl hbA hS (vp_in_iff.mpr ⟨by omega, by omega⟩) d_L_law_717 ?_
  refine lv_seti (y := x8) (by rw [ex8, ex16, ex5]) ?_
  refine r_ci (r_runV (n := 2) (As := [.int x4, .int x8]) (rest := []) X hw (ct_X11_about_400 l D dA ad v hI x4 x8) gc_L_80 (rfl : KD 400 = _) (by decide) rfl (by decide +kernel) ⟨rfl, rfl, Nat.le_of_ble_eq_true rfl, Nat.le_of_ble_eq_true rfl⟩ rfl hl.1 rfl (Nat.le_of_ble_eq_true rfl) ⟨Nat.le_of_ble_eq_true rfl, Nat.le_of_ble_eq_true rfl⟩ d_L_law_718) hS (fun x20 v21 H locs hp19 hw hS => ?_)
  obtain ⟨hp19, hE22⟩ := hp19
  rw [hp19] at hw
  refine lv_pop hx hb d_L_law_721 rfl ?_
  refine lv_goto (tgt := 1065) hx hb d_L_law_722 (by decide) ?_
  exact kk _ _ _ hI hR hw hS
set_option maxHeartbeats 4000000 in
set_option maxRecDepth 100000 in
theorem lc_15 (Y : LX p s m c b L xs D dA ad sa) {v : tV} {H : Heap} {locs : List Loc} {ls : Array Slot} {x3 : Int32} (hI : Inv v) (hR : RelS v) (hw : tI D dA ad v H) (hS : va_S (tA ad) s.heap H locs) (hl : lv_has ls 4 [(0, .ref b), (1, .ref (ad 0)), (2, .ref (ad 400)), (3, .int x3)]) (h0 : 0 ≤ x3.toInt) (h7 : x3.toInt + 7 ≤ (L : Int))
    (kk : ∀ (v' : tV) (H : Heap) (locs : List Loc), Inv v' → RelS v' → tI D dA ad v' H → va_S (tA ad) s.heap H locs → W p l e room_1 s m #[Value.ref b] below meth c H locs 600000 7302250 Q (F0 m 1065 ls [])) : W p l e room_1 s m #[Value.ref b] below meth c H locs 600000 7302250 Q (F0 m 725 ls []) := by
  obtain ⟨X, hsx, hbl, hbA, hSC, hL⟩ := Y
  have hx := X.1
  have hb := X.2.1
  have rx3 : Rg x3 0 3577 := ⟨h0, by omega⟩
  refine lv_aload_n hx hb d_L_law_725 rfl (lv_at hl 1 rfl) ?_
  refine lv_aload_n hx hb d_L_law_726 rfl (lv_at hl 0 rfl) ?_
  refine lv_iload_n hx hb d_L_law_727 rfl (lv_at hl 3 rfl) ?_
  refine lv_iconst (v := 1) hx hb d_L_law_728 (by decide) ?_
  refine lv_iadd hx hb d_L_law_729 ?_
  refine lv_topi (fun x1 ex1 => ?_)
  have r2 : Rg x1 1 3578 := rg_add ex1 rx3 (⟨by decide, by decide⟩ : Rg 1 1 1) (by decide) (by decide)
  have s3 : x1.toInt = x3.toInt + (1 : Int32).toInt := by rw [ex1]; exact i_add (by obtain ⟨_, _⟩ := rx3; obtain ⟨_, _⟩ := (⟨by decide, by decide⟩ : Rg 1 1 1); omega) (by obtain ⟨_, _⟩ := rx3; obtain ⟨_, _⟩ := (⟨by decide, by decide⟩ : Rg 1 1 1); omega)
  have s3l : (1 : Int32).toInt = 1 := rfl
  refine va_sld hx hb hsx hbl hbA hS (vp_in_iff.mpr ⟨by omega, by omega⟩) d_L_law_730 ?_
  refine lv_topi (fun x4 ex4 => ?_)
  refine lv_aload_n hx hb d_L_law_731 rfl (lv_at hl 0 rfl) ?_
  refine lv_iload_n hx hb d_L_law_732 rfl (lv_at hl 3 rfl) ?_
  refine lv_iconst (v := 2) hx hb d_L_law_733 (by decide) ?_
  refine lv_iadd hx hb d_L_law_734 ?_
  refine lv_topi (fun x5 ex5 => ?_)
  have r6 : Rg x5 2 3579 := rg_add ex5 rx3 (⟨by decide, by decide⟩ : Rg 2 2 2) (by decide) (by decide)
  have s7 : x5.toInt = x3.toInt + (2 : Int32).toInt := by rw [ex5]; exact i_add (by obtain ⟨_, _⟩ := rx3; obtain ⟨_, _⟩ := (⟨by decide, by decide⟩ : Rg 2 2 2); omega) (by obtain ⟨_, _⟩ := rx3; obtain ⟨_, _⟩ := (⟨by decide, by decide⟩ : Rg 2 2 2); omega)
  have s7l : (2 : Int32).toInt = 2 := rfl
  refine va_sld hx hb hsx hbl hbA hS (vp_in_iff.mpr ⟨by omega, by omega⟩) d_L_law_735 ?_
  refine lv_topi (fun x8 ex8 => ?_)
  refine r_ci (r_runV (n := 2) (As := [.int x4, .int x8]) (rest := []) X hw (ct_X10_bargain_0 l D dA ad v hI x4 x8) gc_L_81 (rfl : KD 0 = _) (by decide) rfl (by decide +kernel) ⟨rfl, rfl, Nat.le_of_ble_eq_true rfl, Nat.le_of_ble_eq_true rfl⟩ rfl hl.1 rfl (Nat.le_of_ble_eq_true rfl) ⟨Nat.le_of_ble_eq_true rfl, Nat.le_of_ble_eq_true rfl⟩ d_L_law_736) hS (fun x10 v11 H locs hp9 hw hS => ?_)
  obtain ⟨hp9, hE12⟩ := hp9
  rw [hp9] at hw
  refine lv_aload_n hx hb d_L_law_739 rfl (lv_at hl 2 rfl) ?_
  refine lv_aload_n hx hb d_L_law_740 rfl (lv_at hl 0 rfl) ?_
  refine lv_iload_n hx hb d_L_law_741 rfl (lv_at hl 3 rfl) ?_
  refine lv_iconst (v := 1) hx hb d_L_law_742 (by decide) ?_
  refine lv_iadd hx hb d_L_law_743 ?_
  refine lv_topi (fun x13 ex13 => ?_)
  have r14 : Rg x13 1 3578 := rg_add ex13 rx3 (⟨by decide, by decide⟩ : Rg 1 1 1) (by decide) (by decide)
  have s15 : x13.toInt = x3.toInt + (1 : Int32).toInt := by rw [ex13]; exact i_add (by obtain ⟨_, _⟩ := rx3; obtain ⟨_, _⟩ := (⟨by decide, by decide⟩ : Rg 1 1 1); omega) (by obtain ⟨_, _⟩ := rx3; obtain ⟨_, _⟩ := (⟨by decide, by decide⟩ : Rg 1 1 1); omega)
  have s15l : (1 : Int32).toInt = 1 := rfl
  refine va_sld hx hb hsx hbl hbA hS (vp_in_iff.mpr ⟨by omega, by omega⟩) d_L_law_744 ?_
  refine lv_seti (y := x4) (by rw [ex4, ex13, ex1]) ?_
  refine lv_aload_n hx hb d_L_law_745 rfl (lv_at hl 0 rfl) ?_
  refine lv_iload_n hx hb d_L_law_746 rfl (lv_at hl 3 rfl) ?_
  refine lv_iconst (v := 2) hx hb d_L_law_747 (by decide) ?_
  refine lv_iadd hx hb d_L_law_748 ?_
  refine lv_topi (fun x16 ex16 => ?_)
  have r17 : Rg x16 2 3579 := rg_add ex16 rx3 (⟨by decide, by decide⟩ : Rg 2 2 2) (by decide) (by decide)
  have s18 : x16.toInt = x3.toInt + (2 : Int32).toInt := by rw [ex16]; exact i_add (by obtain ⟨_, _⟩ := rx3; obtain ⟨_, _⟩ := (⟨by decide, by decide⟩ : Rg 2 2 2); omega) (by obtain ⟨_, _⟩ := rx3; obtain ⟨_, _⟩ := (⟨by decide, by decide⟩ : Rg 2 2 2); omega)
  have s18l : (2 : Int32).toInt = 2 := rfl
  refine va_sld hx hb hsx hbl hbA hS (vp_in_iff.mpr ⟨by omega, by omega⟩) d_L_law_749 ?_
  refine lv_seti (y := x8) (by rw [ex8, ex16, ex5]) ?_
  refine r_ci (r_runV (n := 2) (As := [.int x4, .int x8]) (rest := [.int x10]) X hw (ct_X11_bargain_400 l D dA ad v hI x4 x8) gc_L_84 (rfl : KD 400 = _) (by decide) rfl (by decide +kernel) ⟨rfl, rfl, Nat.le_of_ble_eq_true rfl, Nat.le_of_ble_eq_true rfl⟩ rfl hl.1 rfl (Nat.le_of_ble_eq_true rfl) ⟨Nat.le_of_ble_eq_true rfl, Nat.le_of_ble_eq_true rfl⟩ d_L_law_750) hS (fun x20 v21 H locs hp19 hw hS => ?_)
  obtain ⟨hp19, hE22⟩ := hp19
  rw [hp19] at hw
  refine lv_icmp_eq (tgt := 1065) hx hb d_L_law_753 (by decide) (fun c1 => ?_) (fun c1 => ?_)
  · exact kk _ _ _ hI hR hw hS
  · exact absurd (hE12.trans ((ans_bargain x4 x8 hI hR).trans hE22.symm)) c1
set_option maxHeartbeats 4000000 in
set_option maxRecDepth 100000 in
theorem lc_16 (Y : LX p s m c b L xs D dA ad sa) {v : tV} {H : Heap} {locs : List Loc} {ls : Array Slot} {x3 : Int32} (hI : Inv v) (hR : RelS v) (hw : tI D dA ad v H) (hS : va_S (tA ad) s.heap H locs) (hl : lv_has ls 4 [(0, .ref b), (1, .ref (ad 0)), (2, .ref (ad 400)), (3, .int x3)]) (h0 : 0 ≤ x3.toInt) (h7 : x3.toInt + 7 ≤ (L : Int))
    (kk : ∀ (v' : tV) (H : Heap) (locs : List Loc), Inv v' → RelS v' → tI D dA ad v' H → va_S (tA ad) s.heap H locs → W p l e room_1 s m #[Value.ref b] below meth c H locs 600000 7302250 Q (F0 m 1065 ls [])) : W p l e room_1 s m #[Value.ref b] below meth c H locs 600000 7302250 Q (F0 m 758 ls []) := by
  obtain ⟨X, hsx, hbl, hbA, hSC, hL⟩ := Y
  have hx := X.1
  have hb := X.2.1
  have rx3 : Rg x3 0 3577 := ⟨h0, by omega⟩
  refine lv_aload_n hx hb d_L_law_758 rfl (lv_at hl 1 rfl) ?_
  refine lv_aload_n hx hb d_L_law_759 rfl (lv_at hl 0 rfl) ?_
  refine lv_iload_n hx hb d_L_law_760 rfl (lv_at hl 3 rfl) ?_
  refine lv_iconst (v := 1) hx hb d_L_law_761 (by decide) ?_
  refine lv_iadd hx hb d_L_law_762 ?_
  refine lv_topi (fun x1 ex1 => ?_)
  have r2 : Rg x1 1 3578 := rg_add ex1 rx3 (⟨by decide, by decide⟩ : Rg 1 1 1) (by decide) (by decide)
  have s3 : x1.toInt = x3.toInt + (1 : Int32).toInt := by rw [ex1]; exact i_add (by obtain ⟨_, _⟩ := rx3; obtain ⟨_, _⟩ := (⟨by decide, by decide⟩ : Rg 1 1 1); omega) (by obtain ⟨_, _⟩ := rx3; obtain ⟨_, _⟩ := (⟨by decide, by decide⟩ : Rg 1 1 1); omega)
  have s3l : (1 : Int32).toInt = 1 := rfl
  refine va_sld hx hb hsx hbl hbA hS (vp_in_iff.mpr ⟨by omega, by omega⟩) d_L_law_763 ?_
  refine lv_topi (fun x4 ex4 => ?_)
  refine r_ci (r_runV (n := 1) (As := [.int x4]) (rest := []) X hw (ct_X10_clear_0 l D dA ad v hI x4) gc_L_85 (rfl : KD 0 = _) (by decide) rfl (by decide +kernel) ⟨rfl, rfl, Nat.le_of_ble_eq_true rfl, Nat.le_of_ble_eq_true rfl⟩ rfl hl.1 rfl (Nat.le_of_ble_eq_true rfl) ⟨Nat.le_of_ble_eq_true rfl, Nat.le_of_ble_eq_true rfl⟩ d_L_law_764) hS (fun x6 v7 H locs hp5 hw hS => ?_)
  obtain ⟨hp5, hE8⟩ := hp5
  obtain ⟨hI9, hK10⟩ := hp5
  refine lv_pop hx hb d_L_law_767 rfl ?_
  refine lv_aload_n hx hb d_L_law_768 rfl (lv_at hl 2 rfl) ?_
  refine lv_aload_n hx hb d_L_law_769 rfl (lv_at hl 0 rfl) ?_
  refine lv_iload_n hx hb d_L_law_770 rfl (lv_at hl 3 rfl) ?_
  refine lv_iconst (v := 1) hx hb d_L_law_771 (by decide) ?_
  refine lv_iadd hx hb d_L_law_772 ?_
  refine lv_topi (fun x11 ex11 => ?_)
  have r12 : Rg x11 1 3578 := rg_add ex11 rx3 (⟨by decide, by decide⟩ : Rg 1 1 1) (by decide) (by decide)
  have s13 : x11.toInt = x3.toInt + (1 : Int32).toInt := by rw [ex11]; exact i_add (by obtain ⟨_, _⟩ := rx3; obtain ⟨_, _⟩ := (⟨by decide, by decide⟩ : Rg 1 1 1); omega) (by obtain ⟨_, _⟩ := rx3; obtain ⟨_, _⟩ := (⟨by decide, by decide⟩ : Rg 1 1 1); omega)
  have s13l : (1 : Int32).toInt = 1 := rfl
  refine va_sld hx hb hsx hbl hbA hS (vp_in_iff.mpr ⟨by omega, by omega⟩) d_L_law_773 ?_
  refine lv_seti (y := x4) (by rw [ex4, ex11, ex1]) ?_
  refine r_ci (r_runV (n := 1) (As := [.int x4]) (rest := []) X hw (ct_X11_clear_400 l D dA ad v7 hI9 x4) gc_L_88 (rfl : KD 400 = _) (by decide) rfl (by decide +kernel) ⟨rfl, rfl, Nat.le_of_ble_eq_true rfl, Nat.le_of_ble_eq_true rfl⟩ rfl hl.1 rfl (Nat.le_of_ble_eq_true rfl) ⟨Nat.le_of_ble_eq_true rfl, Nat.le_of_ble_eq_true rfl⟩ d_L_law_774) hS (fun x15 v16 H locs hp14 hw hS => ?_)
  obtain ⟨hp14, hE17⟩ := hp14
  obtain ⟨hI18, hK19⟩ := hp14
  refine lv_pop hx hb d_L_law_777 rfl ?_
  refine lv_goto (tgt := 1065) hx hb d_L_law_778 (by decide) ?_
  exact kk _ _ _ hI18 (rel_clear x4 hI hR hI9 hK10 hE8 hI18 hK19 hE17) hw hS
set_option maxHeartbeats 4000000 in
set_option maxRecDepth 100000 in
theorem lc_17 (Y : LX p s m c b L xs D dA ad sa) {v : tV} {H : Heap} {locs : List Loc} {ls : Array Slot} {x3 : Int32} (hI : Inv v) (hR : RelS v) (hw : tI D dA ad v H) (hS : va_S (tA ad) s.heap H locs) (hl : lv_has ls 4 [(0, .ref b), (1, .ref (ad 0)), (2, .ref (ad 400)), (3, .int x3)]) (h0 : 0 ≤ x3.toInt) (h7 : x3.toInt + 7 ≤ (L : Int))
    (kk : ∀ (v' : tV) (H : Heap) (locs : List Loc), Inv v' → RelS v' → tI D dA ad v' H → va_S (tA ad) s.heap H locs → W p l e room_1 s m #[Value.ref b] below meth c H locs 600000 7302250 Q (F0 m 1065 ls [])) : W p l e room_1 s m #[Value.ref b] below meth c H locs 600000 7302250 Q (F0 m 781 ls []) := by
  obtain ⟨X, hsx, hbl, hbA, hSC, hL⟩ := Y
  have hx := X.1
  have hb := X.2.1
  have rx3 : Rg x3 0 3577 := ⟨h0, by omega⟩
  refine lv_aload_n hx hb d_L_law_781 rfl (lv_at hl 1 rfl) ?_
  refine lv_aload_n hx hb d_L_law_782 rfl (lv_at hl 0 rfl) ?_
  refine lv_iload_n hx hb d_L_law_783 rfl (lv_at hl 3 rfl) ?_
  refine lv_iconst (v := 1) hx hb d_L_law_784 (by decide) ?_
  refine lv_iadd hx hb d_L_law_785 ?_
  refine lv_topi (fun x1 ex1 => ?_)
  have r2 : Rg x1 1 3578 := rg_add ex1 rx3 (⟨by decide, by decide⟩ : Rg 1 1 1) (by decide) (by decide)
  have s3 : x1.toInt = x3.toInt + (1 : Int32).toInt := by rw [ex1]; exact i_add (by obtain ⟨_, _⟩ := rx3; obtain ⟨_, _⟩ := (⟨by decide, by decide⟩ : Rg 1 1 1); omega) (by obtain ⟨_, _⟩ := rx3; obtain ⟨_, _⟩ := (⟨by decide, by decide⟩ : Rg 1 1 1); omega)
  have s3l : (1 : Int32).toInt = 1 := rfl
  refine va_sld hx hb hsx hbl hbA hS (vp_in_iff.mpr ⟨by omega, by omega⟩) d_L_law_786 ?_
  refine lv_topi (fun x4 ex4 => ?_)
  refine r_ci (r_runV (n := 1) (As := [.int x4]) (rest := []) X hw (ct_X10_held_0 l D dA ad v hI x4) gc_L_89 (rfl : KD 0 = _) (by decide) rfl (by decide +kernel) ⟨rfl, rfl, Nat.le_of_ble_eq_true rfl, Nat.le_of_ble_eq_true rfl⟩ rfl hl.1 rfl (Nat.le_of_ble_eq_true rfl) ⟨Nat.le_of_ble_eq_true rfl, Nat.le_of_ble_eq_true rfl⟩ d_L_law_787) hS (fun x6 v7 H locs hp5 hw hS => ?_)
  obtain ⟨hp5, hE8⟩ := hp5
  obtain ⟨hI9, hK10⟩ := hp5
  refine lv_pop hx hb d_L_law_790 rfl ?_
  refine lv_aload_n hx hb d_L_law_791 rfl (lv_at hl 2 rfl) ?_
  refine lv_aload_n hx hb d_L_law_792 rfl (lv_at hl 0 rfl) ?_
  refine lv_iload_n hx hb d_L_law_793 rfl (lv_at hl 3 rfl) ?_
  refine lv_iconst (v := 1) hx hb d_L_law_794 (by decide) ?_
  refine lv_iadd hx hb d_L_law_795 ?_
  refine lv_topi (fun x11 ex11 => ?_)
  have r12 : Rg x11 1 3578 := rg_add ex11 rx3 (⟨by decide, by decide⟩ : Rg 1 1 1) (by decide) (by decide)
  have s13 : x11.toInt = x3.toInt + (1 : Int32).toInt := by rw [ex11]; exact i_add (by obtain ⟨_, _⟩ := rx3; obtain ⟨_, _⟩ := (⟨by decide, by decide⟩ : Rg 1 1 1); omega) (by obtain ⟨_, _⟩ := rx3; obtain ⟨_, _⟩ := (⟨by decide, by decide⟩ : Rg 1 1 1); omega)
  have s13l : (1 : Int32).toInt = 1 := rfl
  refine va_sld hx hb hsx hbl hbA hS (vp_in_iff.mpr ⟨by omega, by omega⟩) d_L_law_796 ?_
  refine lv_seti (y := x4) (by rw [ex4, ex11, ex1]) ?_
  refine r_ci (r_runV (n := 1) (As := [.int x4]) (rest := []) X hw (ct_X11_held_400 l D dA ad v7 hI9 x4) gc_L_92 (rfl : KD 400 = _) (by decide) rfl (by decide +kernel) ⟨rfl, rfl, Nat.le_of_ble_eq_true rfl, Nat.le_of_ble_eq_true rfl⟩ rfl hl.1 rfl (Nat.le_of_ble_eq_true rfl) ⟨Nat.le_of_ble_eq_true rfl, Nat.le_of_ble_eq_true rfl⟩ d_L_law_797) hS (fun x15 v16 H locs hp14 hw hS => ?_)
  obtain ⟨hp14, hE17⟩ := hp14
  obtain ⟨hI18, hK19⟩ := hp14
  refine lv_pop hx hb d_L_law_800 rfl ?_
  refine lv_goto (tgt := 1065) hx hb d_L_law_801 (by decide) ?_
  exact kk _ _ _ hI18 (rel_held x4 hI hR hI9 hK10 hE8 hI18 hK19 hE17) hw hS
set_option maxHeartbeats 4000000 in
set_option maxRecDepth 100000 in
theorem lc_18 (Y : LX p s m c b L xs D dA ad sa) {v : tV} {H : Heap} {locs : List Loc} {ls : Array Slot} {x3 : Int32} (hI : Inv v) (hR : RelS v) (hw : tI D dA ad v H) (hS : va_S (tA ad) s.heap H locs) (hl : lv_has ls 4 [(0, .ref b), (1, .ref (ad 0)), (2, .ref (ad 400)), (3, .int x3)]) (h0 : 0 ≤ x3.toInt) (h7 : x3.toInt + 7 ≤ (L : Int))
    (kk : ∀ (v' : tV) (H : Heap) (locs : List Loc), Inv v' → RelS v' → tI D dA ad v' H → va_S (tA ad) s.heap H locs → W p l e room_1 s m #[Value.ref b] below meth c H locs 600000 7302250 Q (F0 m 1065 ls [])) : W p l e room_1 s m #[Value.ref b] below meth c H locs 600000 7302250 Q (F0 m 804 ls []) := by
  obtain ⟨X, hsx, hbl, hbA, hSC, hL⟩ := Y
  have hx := X.1
  have hb := X.2.1
  have rx3 : Rg x3 0 3577 := ⟨h0, by omega⟩
  refine lv_aload_n hx hb d_L_law_804 rfl (lv_at hl 1 rfl) ?_
  refine lv_aload_n hx hb d_L_law_805 rfl (lv_at hl 0 rfl) ?_
  refine lv_iload_n hx hb d_L_law_806 rfl (lv_at hl 3 rfl) ?_
  refine lv_iconst (v := 1) hx hb d_L_law_807 (by decide) ?_
  refine lv_iadd hx hb d_L_law_808 ?_
  refine lv_topi (fun x1 ex1 => ?_)
  have r2 : Rg x1 1 3578 := rg_add ex1 rx3 (⟨by decide, by decide⟩ : Rg 1 1 1) (by decide) (by decide)
  have s3 : x1.toInt = x3.toInt + (1 : Int32).toInt := by rw [ex1]; exact i_add (by obtain ⟨_, _⟩ := rx3; obtain ⟨_, _⟩ := (⟨by decide, by decide⟩ : Rg 1 1 1); omega) (by obtain ⟨_, _⟩ := rx3; obtain ⟨_, _⟩ := (⟨by decide, by decide⟩ : Rg 1 1 1); omega)
  have s3l : (1 : Int32).toInt = 1 := rfl
  refine va_sld hx hb hsx hbl hbA hS (vp_in_iff.mpr ⟨by omega, by omega⟩) d_L_law_809 ?_
  refine lv_topi (fun x4 ex4 => ?_)
  refine lv_aload_n hx hb d_L_law_810 rfl (lv_at hl 0 rfl) ?_
  refine lv_iload_n hx hb d_L_law_811 rfl (lv_at hl 3 rfl) ?_
  refine lv_iconst (v := 2) hx hb d_L_law_812 (by decide) ?_
  refine lv_iadd hx hb d_L_law_813 ?_
  refine lv_topi (fun x5 ex5 => ?_)
  have r6 : Rg x5 2 3579 := rg_add ex5 rx3 (⟨by decide, by decide⟩ : Rg 2 2 2) (by decide) (by decide)
  have s7 : x5.toInt = x3.toInt + (2 : Int32).toInt := by rw [ex5]; exact i_add (by obtain ⟨_, _⟩ := rx3; obtain ⟨_, _⟩ := (⟨by decide, by decide⟩ : Rg 2 2 2); omega) (by obtain ⟨_, _⟩ := rx3; obtain ⟨_, _⟩ := (⟨by decide, by decide⟩ : Rg 2 2 2); omega)
  have s7l : (2 : Int32).toInt = 2 := rfl
  refine va_sld hx hb hsx hbl hbA hS (vp_in_iff.mpr ⟨by omega, by omega⟩) d_L_law_814 ?_
  refine lv_topi (fun x8 ex8 => ?_)
  refine r_ci (r_runV (n := 2) (As := [.int x4, .int x8]) (rest := []) X hw (ct_X10_measure_0 l D dA ad v hI x4 x8) gc_L_93 (rfl : KD 0 = _) (by decide) rfl (by decide +kernel) ⟨rfl, rfl, Nat.le_of_ble_eq_true rfl, Nat.le_of_ble_eq_true rfl⟩ rfl hl.1 rfl (Nat.le_of_ble_eq_true rfl) ⟨Nat.le_of_ble_eq_true rfl, Nat.le_of_ble_eq_true rfl⟩ d_L_law_815) hS (fun x10 v11 H locs hp9 hw hS => ?_)
  obtain ⟨hp9, hE12⟩ := hp9
  obtain ⟨hI13, hK14, _⟩ := hp9
  refine lv_pop hx hb d_L_law_818 rfl ?_
  refine lv_aload_n hx hb d_L_law_819 rfl (lv_at hl 2 rfl) ?_
  refine lv_aload_n hx hb d_L_law_820 rfl (lv_at hl 0 rfl) ?_
  refine lv_iload_n hx hb d_L_law_821 rfl (lv_at hl 3 rfl) ?_
  refine lv_iconst (v := 1) hx hb d_L_law_822 (by decide) ?_
  refine lv_iadd hx hb d_L_law_823 ?_
  refine lv_topi (fun x15 ex15 => ?_)
  have r16 : Rg x15 1 3578 := rg_add ex15 rx3 (⟨by decide, by decide⟩ : Rg 1 1 1) (by decide) (by decide)
  have s17 : x15.toInt = x3.toInt + (1 : Int32).toInt := by rw [ex15]; exact i_add (by obtain ⟨_, _⟩ := rx3; obtain ⟨_, _⟩ := (⟨by decide, by decide⟩ : Rg 1 1 1); omega) (by obtain ⟨_, _⟩ := rx3; obtain ⟨_, _⟩ := (⟨by decide, by decide⟩ : Rg 1 1 1); omega)
  have s17l : (1 : Int32).toInt = 1 := rfl
  refine va_sld hx hb hsx hbl hbA hS (vp_in_iff.mpr ⟨by omega, by omega⟩) d_L_law_824 ?_
  refine lv_seti (y := x4) (by rw [ex4, ex15, ex1]) ?_
  refine lv_aload_n hx hb d_L_law_825 rfl (lv_at hl 0 rfl) ?_
  refine lv_iload_n hx hb d_L_law_826 rfl (lv_at hl 3 rfl) ?_
  refine lv_iconst (v := 2) hx hb d_L_law_827 (by decide) ?_
  refine lv_iadd hx hb d_L_law_828 ?_
  refine lv_topi (fun x18 ex18 => ?_)
  have r19 : Rg x18 2 3579 := rg_add ex18 rx3 (⟨by decide, by decide⟩ : Rg 2 2 2) (by decide) (by decide)
  have s20 : x18.toInt = x3.toInt + (2 : Int32).toInt := by rw [ex18]; exact i_add (by obtain ⟨_, _⟩ := rx3; obtain ⟨_, _⟩ := (⟨by decide, by decide⟩ : Rg 2 2 2); omega) (by obtain ⟨_, _⟩ := rx3; obtain ⟨_, _⟩ := (⟨by decide, by decide⟩ : Rg 2 2 2); omega)
  have s20l : (2 : Int32).toInt = 2 := rfl
  refine va_sld hx hb hsx hbl hbA hS (vp_in_iff.mpr ⟨by omega, by omega⟩) d_L_law_829 ?_
  refine lv_seti (y := x8) (by rw [ex8, ex18, ex5]) ?_
  refine r_ci (r_runV (n := 2) (As := [.int x4, .int x8]) (rest := []) X hw (ct_X11_measure_400 l D dA ad v11 hI13 x4 x8) gc_L_96 (rfl : KD 400 = _) (by decide) rfl (by decide +kernel) ⟨rfl, rfl, Nat.le_of_ble_eq_true rfl, Nat.le_of_ble_eq_true rfl⟩ rfl hl.1 rfl (Nat.le_of_ble_eq_true rfl) ⟨Nat.le_of_ble_eq_true rfl, Nat.le_of_ble_eq_true rfl⟩ d_L_law_830) hS (fun x22 v23 H locs hp21 hw hS => ?_)
  obtain ⟨hp21, hE24⟩ := hp21
  obtain ⟨hI25, hK26, _⟩ := hp21
  refine lv_pop hx hb d_L_law_833 rfl ?_
  refine lv_goto (tgt := 1065) hx hb d_L_law_834 (by decide) ?_
  exact kk _ _ _ hI25 (rel_measure x4 x8 hI hR hI13 hK14 hE12 hI25 hK26 hE24) hw hS
set_option maxHeartbeats 4000000 in
set_option maxRecDepth 100000 in
theorem lc_19 (Y : LX p s m c b L xs D dA ad sa) {v : tV} {H : Heap} {locs : List Loc} {ls : Array Slot} {x3 : Int32} (hI : Inv v) (hR : RelS v) (hw : tI D dA ad v H) (hS : va_S (tA ad) s.heap H locs) (hl : lv_has ls 4 [(0, .ref b), (1, .ref (ad 0)), (2, .ref (ad 400)), (3, .int x3)]) (h0 : 0 ≤ x3.toInt) (h7 : x3.toInt + 7 ≤ (L : Int))
    (kk : ∀ (v' : tV) (H : Heap) (locs : List Loc), Inv v' → RelS v' → tI D dA ad v' H → va_S (tA ad) s.heap H locs → W p l e room_1 s m #[Value.ref b] below meth c H locs 600000 7302250 Q (F0 m 1065 ls [])) : W p l e room_1 s m #[Value.ref b] below meth c H locs 600000 7302250 Q (F0 m 837 ls []) := by
  obtain ⟨X, hsx, hbl, hbA, hSC, hL⟩ := Y
  have hx := X.1
  have hb := X.2.1
  have rx3 : Rg x3 0 3577 := ⟨h0, by omega⟩
  refine lv_aload_n hx hb d_L_law_837 rfl (lv_at hl 1 rfl) ?_
  refine lv_aload_n hx hb d_L_law_838 rfl (lv_at hl 0 rfl) ?_
  refine lv_iload_n hx hb d_L_law_839 rfl (lv_at hl 3 rfl) ?_
  refine lv_iconst (v := 1) hx hb d_L_law_840 (by decide) ?_
  refine lv_iadd hx hb d_L_law_841 ?_
  refine lv_topi (fun x1 ex1 => ?_)
  have r2 : Rg x1 1 3578 := rg_add ex1 rx3 (⟨by decide, by decide⟩ : Rg 1 1 1) (by decide) (by decide)
  have s3 : x1.toInt = x3.toInt + (1 : Int32).toInt := by rw [ex1]; exact i_add (by obtain ⟨_, _⟩ := rx3; obtain ⟨_, _⟩ := (⟨by decide, by decide⟩ : Rg 1 1 1); omega) (by obtain ⟨_, _⟩ := rx3; obtain ⟨_, _⟩ := (⟨by decide, by decide⟩ : Rg 1 1 1); omega)
  have s3l : (1 : Int32).toInt = 1 := rfl
  refine va_sld hx hb hsx hbl hbA hS (vp_in_iff.mpr ⟨by omega, by omega⟩) d_L_law_842 ?_
  refine lv_topi (fun x4 ex4 => ?_)
  refine lv_aload_n hx hb d_L_law_843 rfl (lv_at hl 0 rfl) ?_
  refine lv_iload_n hx hb d_L_law_844 rfl (lv_at hl 3 rfl) ?_
  refine lv_iconst (v := 2) hx hb d_L_law_845 (by decide) ?_
  refine lv_iadd hx hb d_L_law_846 ?_
  refine lv_topi (fun x5 ex5 => ?_)
  have r6 : Rg x5 2 3579 := rg_add ex5 rx3 (⟨by decide, by decide⟩ : Rg 2 2 2) (by decide) (by decide)
  have s7 : x5.toInt = x3.toInt + (2 : Int32).toInt := by rw [ex5]; exact i_add (by obtain ⟨_, _⟩ := rx3; obtain ⟨_, _⟩ := (⟨by decide, by decide⟩ : Rg 2 2 2); omega) (by obtain ⟨_, _⟩ := rx3; obtain ⟨_, _⟩ := (⟨by decide, by decide⟩ : Rg 2 2 2); omega)
  have s7l : (2 : Int32).toInt = 2 := rfl
  refine va_sld hx hb hsx hbl hbA hS (vp_in_iff.mpr ⟨by omega, by omega⟩) d_L_law_847 ?_
  refine lv_topi (fun x8 ex8 => ?_)
  refine lv_aload_n hx hb d_L_law_848 rfl (lv_at hl 0 rfl) ?_
  refine lv_iload_n hx hb d_L_law_849 rfl (lv_at hl 3 rfl) ?_
  refine lv_iconst (v := 3) hx hb d_L_law_850 (by decide) ?_
  refine lv_iadd hx hb d_L_law_851 ?_
  refine lv_topi (fun x9 ex9 => ?_)
  have r10 : Rg x9 3 3580 := rg_add ex9 rx3 (⟨by decide, by decide⟩ : Rg 3 3 3) (by decide) (by decide)
  have s11 : x9.toInt = x3.toInt + (3 : Int32).toInt := by rw [ex9]; exact i_add (by obtain ⟨_, _⟩ := rx3; obtain ⟨_, _⟩ := (⟨by decide, by decide⟩ : Rg 3 3 3); omega) (by obtain ⟨_, _⟩ := rx3; obtain ⟨_, _⟩ := (⟨by decide, by decide⟩ : Rg 3 3 3); omega)
  have s11l : (3 : Int32).toInt = 3 := rfl
  refine va_sld hx hb hsx hbl hbA hS (vp_in_iff.mpr ⟨by omega, by omega⟩) d_L_law_852 ?_
  refine lv_topi (fun x12 ex12 => ?_)
  refine lv_aload_n hx hb d_L_law_853 rfl (lv_at hl 0 rfl) ?_
  refine lv_iload_n hx hb d_L_law_854 rfl (lv_at hl 3 rfl) ?_
  refine lv_iconst (v := 4) hx hb d_L_law_855 (by decide) ?_
  refine lv_iadd hx hb d_L_law_856 ?_
  refine lv_topi (fun x13 ex13 => ?_)
  have r14 : Rg x13 4 3581 := rg_add ex13 rx3 (⟨by decide, by decide⟩ : Rg 4 4 4) (by decide) (by decide)
  have s15 : x13.toInt = x3.toInt + (4 : Int32).toInt := by rw [ex13]; exact i_add (by obtain ⟨_, _⟩ := rx3; obtain ⟨_, _⟩ := (⟨by decide, by decide⟩ : Rg 4 4 4); omega) (by obtain ⟨_, _⟩ := rx3; obtain ⟨_, _⟩ := (⟨by decide, by decide⟩ : Rg 4 4 4); omega)
  have s15l : (4 : Int32).toInt = 4 := rfl
  refine va_sld hx hb hsx hbl hbA hS (vp_in_iff.mpr ⟨by omega, by omega⟩) d_L_law_857 ?_
  refine lv_topi (fun x16 ex16 => ?_)
  refine r_ci (r_runV (n := 4) (As := [.int x4, .int x8, .int x12, .int x16]) (rest := []) X hw (ct_X10_weighed_0 l D dA ad v hI x4 x8 x12 x16) gc_L_97 (rfl : KD 0 = _) (by decide) rfl (by decide +kernel) ⟨rfl, rfl, Nat.le_of_ble_eq_true rfl, Nat.le_of_ble_eq_true rfl⟩ rfl hl.1 rfl (Nat.le_of_ble_eq_true rfl) ⟨Nat.le_of_ble_eq_true rfl, Nat.le_of_ble_eq_true rfl⟩ d_L_law_858) hS (fun x18 v19 H locs hp17 hw hS => ?_)
  obtain ⟨hp17, hE20⟩ := hp17
  rw [hp17] at hw
  refine lv_pop hx hb d_L_law_861 rfl ?_
  refine lv_aload_n hx hb d_L_law_862 rfl (lv_at hl 2 rfl) ?_
  refine lv_aload_n hx hb d_L_law_863 rfl (lv_at hl 0 rfl) ?_
  refine lv_iload_n hx hb d_L_law_864 rfl (lv_at hl 3 rfl) ?_
  refine lv_iconst (v := 1) hx hb d_L_law_865 (by decide) ?_
  refine lv_iadd hx hb d_L_law_866 ?_
  refine lv_topi (fun x21 ex21 => ?_)
  have r22 : Rg x21 1 3578 := rg_add ex21 rx3 (⟨by decide, by decide⟩ : Rg 1 1 1) (by decide) (by decide)
  have s23 : x21.toInt = x3.toInt + (1 : Int32).toInt := by rw [ex21]; exact i_add (by obtain ⟨_, _⟩ := rx3; obtain ⟨_, _⟩ := (⟨by decide, by decide⟩ : Rg 1 1 1); omega) (by obtain ⟨_, _⟩ := rx3; obtain ⟨_, _⟩ := (⟨by decide, by decide⟩ : Rg 1 1 1); omega)
  have s23l : (1 : Int32).toInt = 1 := rfl
  refine va_sld hx hb hsx hbl hbA hS (vp_in_iff.mpr ⟨by omega, by omega⟩) d_L_law_867 ?_
  refine lv_seti (y := x4) (by rw [ex4, ex21, ex1]) ?_
  refine lv_aload_n hx hb d_L_law_868 rfl (lv_at hl 0 rfl) ?_
  refine lv_iload_n hx hb d_L_law_869 rfl (lv_at hl 3 rfl) ?_
  refine lv_iconst (v := 2) hx hb d_L_law_870 (by decide) ?_
  refine lv_iadd hx hb d_L_law_871 ?_
  refine lv_topi (fun x24 ex24 => ?_)
  have r25 : Rg x24 2 3579 := rg_add ex24 rx3 (⟨by decide, by decide⟩ : Rg 2 2 2) (by decide) (by decide)
  have s26 : x24.toInt = x3.toInt + (2 : Int32).toInt := by rw [ex24]; exact i_add (by obtain ⟨_, _⟩ := rx3; obtain ⟨_, _⟩ := (⟨by decide, by decide⟩ : Rg 2 2 2); omega) (by obtain ⟨_, _⟩ := rx3; obtain ⟨_, _⟩ := (⟨by decide, by decide⟩ : Rg 2 2 2); omega)
  have s26l : (2 : Int32).toInt = 2 := rfl
  refine va_sld hx hb hsx hbl hbA hS (vp_in_iff.mpr ⟨by omega, by omega⟩) d_L_law_872 ?_
  refine lv_seti (y := x8) (by rw [ex8, ex24, ex5]) ?_
  refine lv_aload_n hx hb d_L_law_873 rfl (lv_at hl 0 rfl) ?_
  refine lv_iload_n hx hb d_L_law_874 rfl (lv_at hl 3 rfl) ?_
  refine lv_iconst (v := 3) hx hb d_L_law_875 (by decide) ?_
  refine lv_iadd hx hb d_L_law_876 ?_
  refine lv_topi (fun x27 ex27 => ?_)
  have r28 : Rg x27 3 3580 := rg_add ex27 rx3 (⟨by decide, by decide⟩ : Rg 3 3 3) (by decide) (by decide)
  have s29 : x27.toInt = x3.toInt + (3 : Int32).toInt := by rw [ex27]; exact i_add (by obtain ⟨_, _⟩ := rx3; obtain ⟨_, _⟩ := (⟨by decide, by decide⟩ : Rg 3 3 3); omega) (by obtain ⟨_, _⟩ := rx3; obtain ⟨_, _⟩ := (⟨by decide, by decide⟩ : Rg 3 3 3); omega)
  have s29l : (3 : Int32).toInt = 3 := rfl
  refine va_sld hx hb hsx hbl hbA hS (vp_in_iff.mpr ⟨by omega, by omega⟩) d_L_law_877 ?_
  refine lv_seti (y := x12) (by rw [ex12, ex27, ex9]) ?_
  refine lv_aload_n hx hb d_L_law_878 rfl (lv_at hl 0 rfl) ?_
  refine lv_iload_n hx hb d_L_law_879 rfl (lv_at hl 3 rfl) ?_
  refine lv_iconst (v := 4) hx hb d_L_law_880 (by decide) ?_
  refine lv_iadd hx hb d_L_law_881 ?_
  refine lv_topi (fun x30 ex30 => ?_)
  have r31 : Rg x30 4 3581 := rg_add ex30 rx3 (⟨by decide, by decide⟩ : Rg 4 4 4) (by decide) (by decide)
  have s32 : x30.toInt = x3.toInt + (4 : Int32).toInt := by rw [ex30]; exact i_add (by obtain ⟨_, _⟩ := rx3; obtain ⟨_, _⟩ := (⟨by decide, by decide⟩ : Rg 4 4 4); omega) (by obtain ⟨_, _⟩ := rx3; obtain ⟨_, _⟩ := (⟨by decide, by decide⟩ : Rg 4 4 4); omega)
  have s32l : (4 : Int32).toInt = 4 := rfl
  refine va_sld hx hb hsx hbl hbA hS (vp_in_iff.mpr ⟨by omega, by omega⟩) d_L_law_882 ?_
  refine lv_seti (y := x16) (by rw [ex16, ex30, ex13]) ?_
  refine r_ci (r_runV (n := 4) (As := [.int x4, .int x8, .int x12, .int x16]) (rest := []) X hw (ct_X11_weighed_400 l D dA ad v hI x4 x8 x12 x16) gc_L_100 (rfl : KD 400 = _) (by decide) rfl (by decide +kernel) ⟨rfl, rfl, Nat.le_of_ble_eq_true rfl, Nat.le_of_ble_eq_true rfl⟩ rfl hl.1 rfl (Nat.le_of_ble_eq_true rfl) ⟨Nat.le_of_ble_eq_true rfl, Nat.le_of_ble_eq_true rfl⟩ d_L_law_883) hS (fun x34 v35 H locs hp33 hw hS => ?_)
  obtain ⟨hp33, hE36⟩ := hp33
  rw [hp33] at hw
  refine lv_pop hx hb d_L_law_886 rfl ?_
  refine lv_goto (tgt := 1065) hx hb d_L_law_887 (by decide) ?_
  exact kk _ _ _ hI hR hw hS
set_option maxHeartbeats 4000000 in
set_option maxRecDepth 100000 in
theorem lc_20 (Y : LX p s m c b L xs D dA ad sa) {v : tV} {H : Heap} {locs : List Loc} {ls : Array Slot} {x3 : Int32} (hI : Inv v) (hR : RelS v) (hw : tI D dA ad v H) (hS : va_S (tA ad) s.heap H locs) (hl : lv_has ls 4 [(0, .ref b), (1, .ref (ad 0)), (2, .ref (ad 400)), (3, .int x3)]) (h0 : 0 ≤ x3.toInt) (h7 : x3.toInt + 7 ≤ (L : Int))
    (kk : ∀ (v' : tV) (H : Heap) (locs : List Loc), Inv v' → RelS v' → tI D dA ad v' H → va_S (tA ad) s.heap H locs → W p l e room_1 s m #[Value.ref b] below meth c H locs 600000 7302250 Q (F0 m 1065 ls [])) : W p l e room_1 s m #[Value.ref b] below meth c H locs 600000 7302250 Q (F0 m 890 ls []) := by
  obtain ⟨X, hsx, hbl, hbA, hSC, hL⟩ := Y
  have hx := X.1
  have hb := X.2.1
  have rx3 : Rg x3 0 3577 := ⟨h0, by omega⟩
  refine lv_aload_n hx hb d_L_law_890 rfl (lv_at hl 1 rfl) ?_
  refine lv_aload_n hx hb d_L_law_891 rfl (lv_at hl 0 rfl) ?_
  refine lv_iload_n hx hb d_L_law_892 rfl (lv_at hl 3 rfl) ?_
  refine lv_iconst (v := 1) hx hb d_L_law_893 (by decide) ?_
  refine lv_iadd hx hb d_L_law_894 ?_
  refine lv_topi (fun x1 ex1 => ?_)
  have r2 : Rg x1 1 3578 := rg_add ex1 rx3 (⟨by decide, by decide⟩ : Rg 1 1 1) (by decide) (by decide)
  have s3 : x1.toInt = x3.toInt + (1 : Int32).toInt := by rw [ex1]; exact i_add (by obtain ⟨_, _⟩ := rx3; obtain ⟨_, _⟩ := (⟨by decide, by decide⟩ : Rg 1 1 1); omega) (by obtain ⟨_, _⟩ := rx3; obtain ⟨_, _⟩ := (⟨by decide, by decide⟩ : Rg 1 1 1); omega)
  have s3l : (1 : Int32).toInt = 1 := rfl
  refine va_sld hx hb hsx hbl hbA hS (vp_in_iff.mpr ⟨by omega, by omega⟩) d_L_law_895 ?_
  refine lv_topi (fun x4 ex4 => ?_)
  refine lv_aload_n hx hb d_L_law_896 rfl (lv_at hl 0 rfl) ?_
  refine lv_iload_n hx hb d_L_law_897 rfl (lv_at hl 3 rfl) ?_
  refine lv_iconst (v := 2) hx hb d_L_law_898 (by decide) ?_
  refine lv_iadd hx hb d_L_law_899 ?_
  refine lv_topi (fun x5 ex5 => ?_)
  have r6 : Rg x5 2 3579 := rg_add ex5 rx3 (⟨by decide, by decide⟩ : Rg 2 2 2) (by decide) (by decide)
  have s7 : x5.toInt = x3.toInt + (2 : Int32).toInt := by rw [ex5]; exact i_add (by obtain ⟨_, _⟩ := rx3; obtain ⟨_, _⟩ := (⟨by decide, by decide⟩ : Rg 2 2 2); omega) (by obtain ⟨_, _⟩ := rx3; obtain ⟨_, _⟩ := (⟨by decide, by decide⟩ : Rg 2 2 2); omega)
  have s7l : (2 : Int32).toInt = 2 := rfl
  refine va_sld hx hb hsx hbl hbA hS (vp_in_iff.mpr ⟨by omega, by omega⟩) d_L_law_900 ?_
  refine lv_topi (fun x8 ex8 => ?_)
  refine r_ci (r_runV (n := 2) (As := [.int x4, .int x8]) (rest := []) X hw (ct_X10_ward_0 l D dA ad v hI x4 x8) gc_L_101 (rfl : KD 0 = _) (by decide) rfl (by decide +kernel) ⟨rfl, rfl, Nat.le_of_ble_eq_true rfl, Nat.le_of_ble_eq_true rfl⟩ rfl hl.1 rfl (Nat.le_of_ble_eq_true rfl) ⟨Nat.le_of_ble_eq_true rfl, Nat.le_of_ble_eq_true rfl⟩ d_L_law_901) hS (fun x10 v11 H locs hp9 hw hS => ?_)
  obtain ⟨hp9, hE12⟩ := hp9
  rw [hp9] at hw
  refine lv_pop hx hb d_L_law_904 rfl ?_
  refine lv_aload_n hx hb d_L_law_905 rfl (lv_at hl 2 rfl) ?_
  refine lv_aload_n hx hb d_L_law_906 rfl (lv_at hl 0 rfl) ?_
  refine lv_iload_n hx hb d_L_law_907 rfl (lv_at hl 3 rfl) ?_
  refine lv_iconst (v := 1) hx hb d_L_law_908 (by decide) ?_
  refine lv_iadd hx hb d_L_law_909 ?_
  refine lv_topi (fun x13 ex13 => ?_)
  have r14 : Rg x13 1 3578 := rg_add ex13 rx3 (⟨by decide, by decide⟩ : Rg 1 1 1) (by decide) (by decide)
  have s15 : x13.toInt = x3.toInt + (1 : Int32).toInt := by rw [ex13]; exact i_add (by obtain ⟨_, _⟩ := rx3; obtain ⟨_, _⟩ := (⟨by decide, by decide⟩ : Rg 1 1 1); omega) (by obtain ⟨_, _⟩ := rx3; obtain ⟨_, _⟩ := (⟨by decide, by decide⟩ : Rg 1 1 1); omega)
  have s15l : (1 : Int32).toInt = 1 := rfl
  refine va_sld hx hb hsx hbl hbA hS (vp_in_iff.mpr ⟨by omega, by omega⟩) d_L_law_910 ?_
  refine lv_seti (y := x4) (by rw [ex4, ex13, ex1]) ?_
  refine lv_aload_n hx hb d_L_law_911 rfl (lv_at hl 0 rfl) ?_
  refine lv_iload_n hx hb d_L_law_912 rfl (lv_at hl 3 rfl) ?_
  refine lv_iconst (v := 2) hx hb d_L_law_913 (by decide) ?_
  refine lv_iadd hx hb d_L_law_914 ?_
  refine lv_topi (fun x16 ex16 => ?_)
  have r17 : Rg x16 2 3579 := rg_add ex16 rx3 (⟨by decide, by decide⟩ : Rg 2 2 2) (by decide) (by decide)
  have s18 : x16.toInt = x3.toInt + (2 : Int32).toInt := by rw [ex16]; exact i_add (by obtain ⟨_, _⟩ := rx3; obtain ⟨_, _⟩ := (⟨by decide, by decide⟩ : Rg 2 2 2); omega) (by obtain ⟨_, _⟩ := rx3; obtain ⟨_, _⟩ := (⟨by decide, by decide⟩ : Rg 2 2 2); omega)
  have s18l : (2 : Int32).toInt = 2 := rfl
  refine va_sld hx hb hsx hbl hbA hS (vp_in_iff.mpr ⟨by omega, by omega⟩) d_L_law_915 ?_
  refine lv_seti (y := x8) (by rw [ex8, ex16, ex5]) ?_
  refine r_ci (r_runV (n := 2) (As := [.int x4, .int x8]) (rest := []) X hw (ct_X11_ward_400 l D dA ad v hI x4 x8) gc_L_104 (rfl : KD 400 = _) (by decide) rfl (by decide +kernel) ⟨rfl, rfl, Nat.le_of_ble_eq_true rfl, Nat.le_of_ble_eq_true rfl⟩ rfl hl.1 rfl (Nat.le_of_ble_eq_true rfl) ⟨Nat.le_of_ble_eq_true rfl, Nat.le_of_ble_eq_true rfl⟩ d_L_law_916) hS (fun x20 v21 H locs hp19 hw hS => ?_)
  obtain ⟨hp19, hE22⟩ := hp19
  rw [hp19] at hw
  refine lv_pop hx hb d_L_law_919 rfl ?_
  refine lv_goto (tgt := 1065) hx hb d_L_law_920 (by decide) ?_
  exact kk _ _ _ hI hR hw hS
set_option maxHeartbeats 4000000 in
set_option maxRecDepth 100000 in
theorem lc_21 (Y : LX p s m c b L xs D dA ad sa) {v : tV} {H : Heap} {locs : List Loc} {ls : Array Slot} {x3 : Int32} (hI : Inv v) (hR : RelS v) (hw : tI D dA ad v H) (hS : va_S (tA ad) s.heap H locs) (hl : lv_has ls 4 [(0, .ref b), (1, .ref (ad 0)), (2, .ref (ad 400)), (3, .int x3)]) (h0 : 0 ≤ x3.toInt) (h7 : x3.toInt + 7 ≤ (L : Int))
    (kk : ∀ (v' : tV) (H : Heap) (locs : List Loc), Inv v' → RelS v' → tI D dA ad v' H → va_S (tA ad) s.heap H locs → W p l e room_1 s m #[Value.ref b] below meth c H locs 600000 7302250 Q (F0 m 1065 ls [])) : W p l e room_1 s m #[Value.ref b] below meth c H locs 600000 7302250 Q (F0 m 923 ls []) := by
  obtain ⟨X, hsx, hbl, hbA, hSC, hL⟩ := Y
  have hx := X.1
  have hb := X.2.1
  have rx3 : Rg x3 0 3577 := ⟨h0, by omega⟩
  refine lv_aload_n hx hb d_L_law_923 rfl (lv_at hl 1 rfl) ?_
  refine lv_aload_n hx hb d_L_law_924 rfl (lv_at hl 0 rfl) ?_
  refine lv_iload_n hx hb d_L_law_925 rfl (lv_at hl 3 rfl) ?_
  refine lv_iconst (v := 1) hx hb d_L_law_926 (by decide) ?_
  refine lv_iadd hx hb d_L_law_927 ?_
  refine lv_topi (fun x1 ex1 => ?_)
  have r2 : Rg x1 1 3578 := rg_add ex1 rx3 (⟨by decide, by decide⟩ : Rg 1 1 1) (by decide) (by decide)
  have s3 : x1.toInt = x3.toInt + (1 : Int32).toInt := by rw [ex1]; exact i_add (by obtain ⟨_, _⟩ := rx3; obtain ⟨_, _⟩ := (⟨by decide, by decide⟩ : Rg 1 1 1); omega) (by obtain ⟨_, _⟩ := rx3; obtain ⟨_, _⟩ := (⟨by decide, by decide⟩ : Rg 1 1 1); omega)
  have s3l : (1 : Int32).toInt = 1 := rfl
  refine va_sld hx hb hsx hbl hbA hS (vp_in_iff.mpr ⟨by omega, by omega⟩) d_L_law_928 ?_
  refine lv_topi (fun x4 ex4 => ?_)
  refine lv_aload_n hx hb d_L_law_929 rfl (lv_at hl 0 rfl) ?_
  refine lv_iload_n hx hb d_L_law_930 rfl (lv_at hl 3 rfl) ?_
  refine lv_iconst (v := 2) hx hb d_L_law_931 (by decide) ?_
  refine lv_iadd hx hb d_L_law_932 ?_
  refine lv_topi (fun x5 ex5 => ?_)
  have r6 : Rg x5 2 3579 := rg_add ex5 rx3 (⟨by decide, by decide⟩ : Rg 2 2 2) (by decide) (by decide)
  have s7 : x5.toInt = x3.toInt + (2 : Int32).toInt := by rw [ex5]; exact i_add (by obtain ⟨_, _⟩ := rx3; obtain ⟨_, _⟩ := (⟨by decide, by decide⟩ : Rg 2 2 2); omega) (by obtain ⟨_, _⟩ := rx3; obtain ⟨_, _⟩ := (⟨by decide, by decide⟩ : Rg 2 2 2); omega)
  have s7l : (2 : Int32).toInt = 2 := rfl
  refine va_sld hx hb hsx hbl hbA hS (vp_in_iff.mpr ⟨by omega, by omega⟩) d_L_law_933 ?_
  refine lv_topi (fun x8 ex8 => ?_)
  refine r_ci (r_runV (n := 2) (As := [.int x4, .int x8]) (rest := []) X hw (ct_X10_lasts_0 l D dA ad v hI x4 x8) gc_L_105 (rfl : KD 0 = _) (by decide) rfl (by decide +kernel) ⟨rfl, rfl, Nat.le_of_ble_eq_true rfl, Nat.le_of_ble_eq_true rfl⟩ rfl hl.1 rfl (Nat.le_of_ble_eq_true rfl) ⟨Nat.le_of_ble_eq_true rfl, Nat.le_of_ble_eq_true rfl⟩ d_L_law_934) hS (fun x10 v11 H locs hp9 hw hS => ?_)
  obtain ⟨hp9, hE12⟩ := hp9
  rw [hp9] at hw
  refine lv_pop hx hb d_L_law_937 rfl ?_
  refine lv_aload_n hx hb d_L_law_938 rfl (lv_at hl 2 rfl) ?_
  refine lv_aload_n hx hb d_L_law_939 rfl (lv_at hl 0 rfl) ?_
  refine lv_iload_n hx hb d_L_law_940 rfl (lv_at hl 3 rfl) ?_
  refine lv_iconst (v := 1) hx hb d_L_law_941 (by decide) ?_
  refine lv_iadd hx hb d_L_law_942 ?_
  refine lv_topi (fun x13 ex13 => ?_)
  have r14 : Rg x13 1 3578 := rg_add ex13 rx3 (⟨by decide, by decide⟩ : Rg 1 1 1) (by decide) (by decide)
  have s15 : x13.toInt = x3.toInt + (1 : Int32).toInt := by rw [ex13]; exact i_add (by obtain ⟨_, _⟩ := rx3; obtain ⟨_, _⟩ := (⟨by decide, by decide⟩ : Rg 1 1 1); omega) (by obtain ⟨_, _⟩ := rx3; obtain ⟨_, _⟩ := (⟨by decide, by decide⟩ : Rg 1 1 1); omega)
  have s15l : (1 : Int32).toInt = 1 := rfl
  refine va_sld hx hb hsx hbl hbA hS (vp_in_iff.mpr ⟨by omega, by omega⟩) d_L_law_943 ?_
  refine lv_seti (y := x4) (by rw [ex4, ex13, ex1]) ?_
  refine lv_aload_n hx hb d_L_law_944 rfl (lv_at hl 0 rfl) ?_
  refine lv_iload_n hx hb d_L_law_945 rfl (lv_at hl 3 rfl) ?_
  refine lv_iconst (v := 2) hx hb d_L_law_946 (by decide) ?_
  refine lv_iadd hx hb d_L_law_947 ?_
  refine lv_topi (fun x16 ex16 => ?_)
  have r17 : Rg x16 2 3579 := rg_add ex16 rx3 (⟨by decide, by decide⟩ : Rg 2 2 2) (by decide) (by decide)
  have s18 : x16.toInt = x3.toInt + (2 : Int32).toInt := by rw [ex16]; exact i_add (by obtain ⟨_, _⟩ := rx3; obtain ⟨_, _⟩ := (⟨by decide, by decide⟩ : Rg 2 2 2); omega) (by obtain ⟨_, _⟩ := rx3; obtain ⟨_, _⟩ := (⟨by decide, by decide⟩ : Rg 2 2 2); omega)
  have s18l : (2 : Int32).toInt = 2 := rfl
  refine va_sld hx hb hsx hbl hbA hS (vp_in_iff.mpr ⟨by omega, by omega⟩) d_L_law_948 ?_
  refine lv_seti (y := x8) (by rw [ex8, ex16, ex5]) ?_
  refine r_ci (r_runV (n := 2) (As := [.int x4, .int x8]) (rest := []) X hw (ct_X11_lasts_400 l D dA ad v hI x4 x8) gc_L_108 (rfl : KD 400 = _) (by decide) rfl (by decide +kernel) ⟨rfl, rfl, Nat.le_of_ble_eq_true rfl, Nat.le_of_ble_eq_true rfl⟩ rfl hl.1 rfl (Nat.le_of_ble_eq_true rfl) ⟨Nat.le_of_ble_eq_true rfl, Nat.le_of_ble_eq_true rfl⟩ d_L_law_949) hS (fun x20 v21 H locs hp19 hw hS => ?_)
  obtain ⟨hp19, hE22⟩ := hp19
  rw [hp19] at hw
  refine lv_pop hx hb d_L_law_952 rfl ?_
  refine lv_goto (tgt := 1065) hx hb d_L_law_953 (by decide) ?_
  exact kk _ _ _ hI hR hw hS
set_option maxHeartbeats 4000000 in
set_option maxRecDepth 100000 in
theorem lc_22 (Y : LX p s m c b L xs D dA ad sa) {v : tV} {H : Heap} {locs : List Loc} {ls : Array Slot} {x3 : Int32} (hI : Inv v) (hR : RelS v) (hw : tI D dA ad v H) (hS : va_S (tA ad) s.heap H locs) (hl : lv_has ls 4 [(0, .ref b), (1, .ref (ad 0)), (2, .ref (ad 400)), (3, .int x3)]) (h0 : 0 ≤ x3.toInt) (h7 : x3.toInt + 7 ≤ (L : Int))
    (kk : ∀ (v' : tV) (H : Heap) (locs : List Loc), Inv v' → RelS v' → tI D dA ad v' H → va_S (tA ad) s.heap H locs → W p l e room_1 s m #[Value.ref b] below meth c H locs 600000 7302250 Q (F0 m 1065 ls [])) : W p l e room_1 s m #[Value.ref b] below meth c H locs 600000 7302250 Q (F0 m 956 ls []) := by
  obtain ⟨X, hsx, hbl, hbA, hSC, hL⟩ := Y
  have hx := X.1
  have hb := X.2.1
  have rx3 : Rg x3 0 3577 := ⟨h0, by omega⟩
  refine lv_aload_n hx hb d_L_law_956 rfl (lv_at hl 1 rfl) ?_
  refine lv_aload_n hx hb d_L_law_957 rfl (lv_at hl 0 rfl) ?_
  refine lv_iload_n hx hb d_L_law_958 rfl (lv_at hl 3 rfl) ?_
  refine lv_iconst (v := 1) hx hb d_L_law_959 (by decide) ?_
  refine lv_iadd hx hb d_L_law_960 ?_
  refine lv_topi (fun x1 ex1 => ?_)
  have r2 : Rg x1 1 3578 := rg_add ex1 rx3 (⟨by decide, by decide⟩ : Rg 1 1 1) (by decide) (by decide)
  have s3 : x1.toInt = x3.toInt + (1 : Int32).toInt := by rw [ex1]; exact i_add (by obtain ⟨_, _⟩ := rx3; obtain ⟨_, _⟩ := (⟨by decide, by decide⟩ : Rg 1 1 1); omega) (by obtain ⟨_, _⟩ := rx3; obtain ⟨_, _⟩ := (⟨by decide, by decide⟩ : Rg 1 1 1); omega)
  have s3l : (1 : Int32).toInt = 1 := rfl
  refine va_sld hx hb hsx hbl hbA hS (vp_in_iff.mpr ⟨by omega, by omega⟩) d_L_law_961 ?_
  refine lv_topi (fun x4 ex4 => ?_)
  refine lv_aload_n hx hb d_L_law_962 rfl (lv_at hl 0 rfl) ?_
  refine lv_iload_n hx hb d_L_law_963 rfl (lv_at hl 3 rfl) ?_
  refine lv_iconst (v := 2) hx hb d_L_law_964 (by decide) ?_
  refine lv_iadd hx hb d_L_law_965 ?_
  refine lv_topi (fun x5 ex5 => ?_)
  have r6 : Rg x5 2 3579 := rg_add ex5 rx3 (⟨by decide, by decide⟩ : Rg 2 2 2) (by decide) (by decide)
  have s7 : x5.toInt = x3.toInt + (2 : Int32).toInt := by rw [ex5]; exact i_add (by obtain ⟨_, _⟩ := rx3; obtain ⟨_, _⟩ := (⟨by decide, by decide⟩ : Rg 2 2 2); omega) (by obtain ⟨_, _⟩ := rx3; obtain ⟨_, _⟩ := (⟨by decide, by decide⟩ : Rg 2 2 2); omega)
  have s7l : (2 : Int32).toInt = 2 := rfl
  refine va_sld hx hb hsx hbl hbA hS (vp_in_iff.mpr ⟨by omega, by omega⟩) d_L_law_966 ?_
  refine lv_topi (fun x8 ex8 => ?_)
  refine lv_aload_n hx hb d_L_law_967 rfl (lv_at hl 0 rfl) ?_
  refine lv_iload_n hx hb d_L_law_968 rfl (lv_at hl 3 rfl) ?_
  refine lv_iconst (v := 3) hx hb d_L_law_969 (by decide) ?_
  refine lv_iadd hx hb d_L_law_970 ?_
  refine lv_topi (fun x9 ex9 => ?_)
  have r10 : Rg x9 3 3580 := rg_add ex9 rx3 (⟨by decide, by decide⟩ : Rg 3 3 3) (by decide) (by decide)
  have s11 : x9.toInt = x3.toInt + (3 : Int32).toInt := by rw [ex9]; exact i_add (by obtain ⟨_, _⟩ := rx3; obtain ⟨_, _⟩ := (⟨by decide, by decide⟩ : Rg 3 3 3); omega) (by obtain ⟨_, _⟩ := rx3; obtain ⟨_, _⟩ := (⟨by decide, by decide⟩ : Rg 3 3 3); omega)
  have s11l : (3 : Int32).toInt = 3 := rfl
  refine va_sld hx hb hsx hbl hbA hS (vp_in_iff.mpr ⟨by omega, by omega⟩) d_L_law_971 ?_
  refine lv_topi (fun x12 ex12 => ?_)
  refine lv_aload_n hx hb d_L_law_972 rfl (lv_at hl 0 rfl) ?_
  refine lv_iload_n hx hb d_L_law_973 rfl (lv_at hl 3 rfl) ?_
  refine lv_iconst (v := 4) hx hb d_L_law_974 (by decide) ?_
  refine lv_iadd hx hb d_L_law_975 ?_
  refine lv_topi (fun x13 ex13 => ?_)
  have r14 : Rg x13 4 3581 := rg_add ex13 rx3 (⟨by decide, by decide⟩ : Rg 4 4 4) (by decide) (by decide)
  have s15 : x13.toInt = x3.toInt + (4 : Int32).toInt := by rw [ex13]; exact i_add (by obtain ⟨_, _⟩ := rx3; obtain ⟨_, _⟩ := (⟨by decide, by decide⟩ : Rg 4 4 4); omega) (by obtain ⟨_, _⟩ := rx3; obtain ⟨_, _⟩ := (⟨by decide, by decide⟩ : Rg 4 4 4); omega)
  have s15l : (4 : Int32).toInt = 4 := rfl
  refine va_sld hx hb hsx hbl hbA hS (vp_in_iff.mpr ⟨by omega, by omega⟩) d_L_law_976 ?_
  refine lv_topi (fun x16 ex16 => ?_)
  refine lv_aload_n hx hb d_L_law_977 rfl (lv_at hl 0 rfl) ?_
  refine lv_iload_n hx hb d_L_law_978 rfl (lv_at hl 3 rfl) ?_
  refine lv_iconst (v := 5) hx hb d_L_law_979 (by decide) ?_
  refine lv_iadd hx hb d_L_law_980 ?_
  refine lv_topi (fun x17 ex17 => ?_)
  have r18 : Rg x17 5 3582 := rg_add ex17 rx3 (⟨by decide, by decide⟩ : Rg 5 5 5) (by decide) (by decide)
  have s19 : x17.toInt = x3.toInt + (5 : Int32).toInt := by rw [ex17]; exact i_add (by obtain ⟨_, _⟩ := rx3; obtain ⟨_, _⟩ := (⟨by decide, by decide⟩ : Rg 5 5 5); omega) (by obtain ⟨_, _⟩ := rx3; obtain ⟨_, _⟩ := (⟨by decide, by decide⟩ : Rg 5 5 5); omega)
  have s19l : (5 : Int32).toInt = 5 := rfl
  refine va_sld hx hb hsx hbl hbA hS (vp_in_iff.mpr ⟨by omega, by omega⟩) d_L_law_981 ?_
  refine lv_topi (fun x20 ex20 => ?_)
  refine r_ci (r_runV (n := 5) (As := [.int x4, .int x8, .int x12, .int x16, .int x20]) (rest := []) X hw (ct_X10_tried_0 l D dA ad v hI x4 x8 x12 x16 x20) gc_L_109 (rfl : KD 0 = _) (by decide) rfl (by decide +kernel) ⟨rfl, rfl, Nat.le_of_ble_eq_true rfl, Nat.le_of_ble_eq_true rfl⟩ rfl hl.1 rfl (Nat.le_of_ble_eq_true rfl) ⟨Nat.le_of_ble_eq_true rfl, Nat.le_of_ble_eq_true rfl⟩ d_L_law_982) hS (fun x22 v23 H locs hp21 hw hS => ?_)
  obtain ⟨hp21, hE24⟩ := hp21
  obtain ⟨hI25, hK26⟩ := hp21
  refine lv_pop hx hb d_L_law_985 rfl ?_
  refine lv_aload_n hx hb d_L_law_986 rfl (lv_at hl 2 rfl) ?_
  refine lv_aload_n hx hb d_L_law_987 rfl (lv_at hl 0 rfl) ?_
  refine lv_iload_n hx hb d_L_law_988 rfl (lv_at hl 3 rfl) ?_
  refine lv_iconst (v := 1) hx hb d_L_law_989 (by decide) ?_
  refine lv_iadd hx hb d_L_law_990 ?_
  refine lv_topi (fun x27 ex27 => ?_)
  have r28 : Rg x27 1 3578 := rg_add ex27 rx3 (⟨by decide, by decide⟩ : Rg 1 1 1) (by decide) (by decide)
  have s29 : x27.toInt = x3.toInt + (1 : Int32).toInt := by rw [ex27]; exact i_add (by obtain ⟨_, _⟩ := rx3; obtain ⟨_, _⟩ := (⟨by decide, by decide⟩ : Rg 1 1 1); omega) (by obtain ⟨_, _⟩ := rx3; obtain ⟨_, _⟩ := (⟨by decide, by decide⟩ : Rg 1 1 1); omega)
  have s29l : (1 : Int32).toInt = 1 := rfl
  refine va_sld hx hb hsx hbl hbA hS (vp_in_iff.mpr ⟨by omega, by omega⟩) d_L_law_991 ?_
  refine lv_seti (y := x4) (by rw [ex4, ex27, ex1]) ?_
  refine lv_aload_n hx hb d_L_law_992 rfl (lv_at hl 0 rfl) ?_
  refine lv_iload_n hx hb d_L_law_993 rfl (lv_at hl 3 rfl) ?_
  refine lv_iconst (v := 2) hx hb d_L_law_994 (by decide) ?_
  refine lv_iadd hx hb d_L_law_995 ?_
  refine lv_topi (fun x30 ex30 => ?_)
  have r31 : Rg x30 2 3579 := rg_add ex30 rx3 (⟨by decide, by decide⟩ : Rg 2 2 2) (by decide) (by decide)
  have s32 : x30.toInt = x3.toInt + (2 : Int32).toInt := by rw [ex30]; exact i_add (by obtain ⟨_, _⟩ := rx3; obtain ⟨_, _⟩ := (⟨by decide, by decide⟩ : Rg 2 2 2); omega) (by obtain ⟨_, _⟩ := rx3; obtain ⟨_, _⟩ := (⟨by decide, by decide⟩ : Rg 2 2 2); omega)
  have s32l : (2 : Int32).toInt = 2 := rfl
  refine va_sld hx hb hsx hbl hbA hS (vp_in_iff.mpr ⟨by omega, by omega⟩) d_L_law_996 ?_
  refine lv_seti (y := x8) (by rw [ex8, ex30, ex5]) ?_
  refine lv_aload_n hx hb d_L_law_997 rfl (lv_at hl 0 rfl) ?_
  refine lv_iload_n hx hb d_L_law_998 rfl (lv_at hl 3 rfl) ?_
  refine lv_iconst (v := 3) hx hb d_L_law_999 (by decide) ?_
  refine lv_iadd hx hb d_L_law_1000 ?_
  refine lv_topi (fun x33 ex33 => ?_)
  have r34 : Rg x33 3 3580 := rg_add ex33 rx3 (⟨by decide, by decide⟩ : Rg 3 3 3) (by decide) (by decide)
  have s35 : x33.toInt = x3.toInt + (3 : Int32).toInt := by rw [ex33]; exact i_add (by obtain ⟨_, _⟩ := rx3; obtain ⟨_, _⟩ := (⟨by decide, by decide⟩ : Rg 3 3 3); omega) (by obtain ⟨_, _⟩ := rx3; obtain ⟨_, _⟩ := (⟨by decide, by decide⟩ : Rg 3 3 3); omega)
  have s35l : (3 : Int32).toInt = 3 := rfl
  refine va_sld hx hb hsx hbl hbA hS (vp_in_iff.mpr ⟨by omega, by omega⟩) d_L_law_1001 ?_
  refine lv_seti (y := x12) (by rw [ex12, ex33, ex9]) ?_
  refine lv_aload_n hx hb d_L_law_1002 rfl (lv_at hl 0 rfl) ?_
  refine lv_iload_n hx hb d_L_law_1003 rfl (lv_at hl 3 rfl) ?_
  refine lv_iconst (v := 4) hx hb d_L_law_1004 (by decide) ?_
  refine lv_iadd hx hb d_L_law_1005 ?_
  refine lv_topi (fun x36 ex36 => ?_)
  have r37 : Rg x36 4 3581 := rg_add ex36 rx3 (⟨by decide, by decide⟩ : Rg 4 4 4) (by decide) (by decide)
  have s38 : x36.toInt = x3.toInt + (4 : Int32).toInt := by rw [ex36]; exact i_add (by obtain ⟨_, _⟩ := rx3; obtain ⟨_, _⟩ := (⟨by decide, by decide⟩ : Rg 4 4 4); omega) (by obtain ⟨_, _⟩ := rx3; obtain ⟨_, _⟩ := (⟨by decide, by decide⟩ : Rg 4 4 4); omega)
  have s38l : (4 : Int32).toInt = 4 := rfl
  refine va_sld hx hb hsx hbl hbA hS (vp_in_iff.mpr ⟨by omega, by omega⟩) d_L_law_1006 ?_
  refine lv_seti (y := x16) (by rw [ex16, ex36, ex13]) ?_
  refine lv_aload_n hx hb d_L_law_1007 rfl (lv_at hl 0 rfl) ?_
  refine lv_iload_n hx hb d_L_law_1008 rfl (lv_at hl 3 rfl) ?_
  refine lv_iconst (v := 5) hx hb d_L_law_1009 (by decide) ?_
  refine lv_iadd hx hb d_L_law_1010 ?_
  refine lv_topi (fun x39 ex39 => ?_)
  have r40 : Rg x39 5 3582 := rg_add ex39 rx3 (⟨by decide, by decide⟩ : Rg 5 5 5) (by decide) (by decide)
  have s41 : x39.toInt = x3.toInt + (5 : Int32).toInt := by rw [ex39]; exact i_add (by obtain ⟨_, _⟩ := rx3; obtain ⟨_, _⟩ := (⟨by decide, by decide⟩ : Rg 5 5 5); omega) (by obtain ⟨_, _⟩ := rx3; obtain ⟨_, _⟩ := (⟨by decide, by decide⟩ : Rg 5 5 5); omega)
  have s41l : (5 : Int32).toInt = 5 := rfl
  refine va_sld hx hb hsx hbl hbA hS (vp_in_iff.mpr ⟨by omega, by omega⟩) d_L_law_1011 ?_
  refine lv_seti (y := x20) (by rw [ex20, ex39, ex17]) ?_
  refine r_ci (r_runV (n := 5) (As := [.int x4, .int x8, .int x12, .int x16, .int x20]) (rest := []) X hw (ct_X11_tried_400 l D dA ad v23 hI25 x4 x8 x12 x16 x20) gc_L_113 (rfl : KD 400 = _) (by decide) rfl (by decide +kernel) ⟨rfl, rfl, Nat.le_of_ble_eq_true rfl, Nat.le_of_ble_eq_true rfl⟩ rfl hl.1 rfl (Nat.le_of_ble_eq_true rfl) ⟨Nat.le_of_ble_eq_true rfl, Nat.le_of_ble_eq_true rfl⟩ d_L_law_1012) hS (fun x43 v44 H locs hp42 hw hS => ?_)
  obtain ⟨hp42, hE45⟩ := hp42
  obtain ⟨hI46, hK47⟩ := hp42
  refine lv_pop hx hb d_L_law_1015 rfl ?_
  refine lv_goto (tgt := 1065) hx hb d_L_law_1016 (by decide) ?_
  exact kk _ _ _ hI46 (rel_tried x4 x8 x12 x16 x20 hI hR hI25 hK26 hE24 hI46 hK47 hE45) hw hS
set_option maxHeartbeats 4000000 in
set_option maxRecDepth 100000 in
theorem lc_23 (Y : LX p s m c b L xs D dA ad sa) {v : tV} {H : Heap} {locs : List Loc} {ls : Array Slot} {x3 : Int32} (hI : Inv v) (hR : RelS v) (hw : tI D dA ad v H) (hS : va_S (tA ad) s.heap H locs) (hl : lv_has ls 4 [(0, .ref b), (1, .ref (ad 0)), (2, .ref (ad 400)), (3, .int x3)]) (h0 : 0 ≤ x3.toInt) (h7 : x3.toInt + 7 ≤ (L : Int))
    (kk : ∀ (v' : tV) (H : Heap) (locs : List Loc), Inv v' → RelS v' → tI D dA ad v' H → va_S (tA ad) s.heap H locs → W p l e room_1 s m #[Value.ref b] below meth c H locs 600000 7302250 Q (F0 m 1065 ls [])) : W p l e room_1 s m #[Value.ref b] below meth c H locs 600000 7302250 Q (F0 m 1019 ls []) := by
  obtain ⟨X, hsx, hbl, hbA, hSC, hL⟩ := Y
  have hx := X.1
  have hb := X.2.1
  have rx3 : Rg x3 0 3577 := ⟨h0, by omega⟩
  refine lv_aload_n hx hb d_L_law_1019 rfl (lv_at hl 1 rfl) ?_
  refine lv_aload_n hx hb d_L_law_1020 rfl (lv_at hl 0 rfl) ?_
  refine lv_iload_n hx hb d_L_law_1021 rfl (lv_at hl 3 rfl) ?_
  refine lv_iconst (v := 1) hx hb d_L_law_1022 (by decide) ?_
  refine lv_iadd hx hb d_L_law_1023 ?_
  refine lv_topi (fun x1 ex1 => ?_)
  have r2 : Rg x1 1 3578 := rg_add ex1 rx3 (⟨by decide, by decide⟩ : Rg 1 1 1) (by decide) (by decide)
  have s3 : x1.toInt = x3.toInt + (1 : Int32).toInt := by rw [ex1]; exact i_add (by obtain ⟨_, _⟩ := rx3; obtain ⟨_, _⟩ := (⟨by decide, by decide⟩ : Rg 1 1 1); omega) (by obtain ⟨_, _⟩ := rx3; obtain ⟨_, _⟩ := (⟨by decide, by decide⟩ : Rg 1 1 1); omega)
  have s3l : (1 : Int32).toInt = 1 := rfl
  refine va_sld hx hb hsx hbl hbA hS (vp_in_iff.mpr ⟨by omega, by omega⟩) d_L_law_1024 ?_
  refine lv_topi (fun x4 ex4 => ?_)
  refine r_ci (r_runV (n := 1) (As := [.int x4]) (rest := []) X hw (ct_X10_count_0 l D dA ad v hI x4) gc_L_114 (rfl : KD 0 = _) (by decide) rfl (by decide +kernel) ⟨rfl, rfl, Nat.le_of_ble_eq_true rfl, Nat.le_of_ble_eq_true rfl⟩ rfl hl.1 rfl (Nat.le_of_ble_eq_true rfl) ⟨Nat.le_of_ble_eq_true rfl, Nat.le_of_ble_eq_true rfl⟩ d_L_law_1025) hS (fun x6 v7 H locs hp5 hw hS => ?_)
  obtain ⟨hp5, hE8⟩ := hp5
  rw [hp5] at hw
  refine lv_pop hx hb d_L_law_1028 rfl ?_
  refine lv_aload_n hx hb d_L_law_1029 rfl (lv_at hl 2 rfl) ?_
  refine lv_aload_n hx hb d_L_law_1030 rfl (lv_at hl 0 rfl) ?_
  refine lv_iload_n hx hb d_L_law_1031 rfl (lv_at hl 3 rfl) ?_
  refine lv_iconst (v := 1) hx hb d_L_law_1032 (by decide) ?_
  refine lv_iadd hx hb d_L_law_1033 ?_
  refine lv_topi (fun x9 ex9 => ?_)
  have r10 : Rg x9 1 3578 := rg_add ex9 rx3 (⟨by decide, by decide⟩ : Rg 1 1 1) (by decide) (by decide)
  have s11 : x9.toInt = x3.toInt + (1 : Int32).toInt := by rw [ex9]; exact i_add (by obtain ⟨_, _⟩ := rx3; obtain ⟨_, _⟩ := (⟨by decide, by decide⟩ : Rg 1 1 1); omega) (by obtain ⟨_, _⟩ := rx3; obtain ⟨_, _⟩ := (⟨by decide, by decide⟩ : Rg 1 1 1); omega)
  have s11l : (1 : Int32).toInt = 1 := rfl
  refine va_sld hx hb hsx hbl hbA hS (vp_in_iff.mpr ⟨by omega, by omega⟩) d_L_law_1034 ?_
  refine lv_seti (y := x4) (by rw [ex4, ex9, ex1]) ?_
  refine r_ci (r_runV (n := 1) (As := [.int x4]) (rest := []) X hw (ct_X11_count_400 l D dA ad v hI x4) gc_L_117 (rfl : KD 400 = _) (by decide) rfl (by decide +kernel) ⟨rfl, rfl, Nat.le_of_ble_eq_true rfl, Nat.le_of_ble_eq_true rfl⟩ rfl hl.1 rfl (Nat.le_of_ble_eq_true rfl) ⟨Nat.le_of_ble_eq_true rfl, Nat.le_of_ble_eq_true rfl⟩ d_L_law_1035) hS (fun x13 v14 H locs hp12 hw hS => ?_)
  obtain ⟨hp12, hE15⟩ := hp12
  rw [hp12] at hw
  refine lv_pop hx hb d_L_law_1038 rfl ?_
  refine lv_goto (tgt := 1065) hx hb d_L_law_1039 (by decide) ?_
  exact kk _ _ _ hI hR hw hS
set_option maxHeartbeats 4000000 in
set_option maxRecDepth 100000 in
theorem lc_24 (Y : LX p s m c b L xs D dA ad sa) {v : tV} {H : Heap} {locs : List Loc} {ls : Array Slot} {x3 : Int32} (hI : Inv v) (hR : RelS v) (hw : tI D dA ad v H) (hS : va_S (tA ad) s.heap H locs) (hl : lv_has ls 4 [(0, .ref b), (1, .ref (ad 0)), (2, .ref (ad 400)), (3, .int x3)]) (h0 : 0 ≤ x3.toInt) (h7 : x3.toInt + 7 ≤ (L : Int))
    (kk : ∀ (v' : tV) (H : Heap) (locs : List Loc), Inv v' → RelS v' → tI D dA ad v' H → va_S (tA ad) s.heap H locs → W p l e room_1 s m #[Value.ref b] below meth c H locs 600000 7302250 Q (F0 m 1065 ls [])) : W p l e room_1 s m #[Value.ref b] below meth c H locs 600000 7302250 Q (F0 m 1042 ls []) := by
  obtain ⟨X, hsx, hbl, hbA, hSC, hL⟩ := Y
  have hx := X.1
  have hb := X.2.1
  have rx3 : Rg x3 0 3577 := ⟨h0, by omega⟩
  refine lv_aload_n hx hb d_L_law_1042 rfl (lv_at hl 1 rfl) ?_
  refine lv_aload_n hx hb d_L_law_1043 rfl (lv_at hl 0 rfl) ?_
  refine lv_iload_n hx hb d_L_law_1044 rfl (lv_at hl 3 rfl) ?_
  refine lv_iconst (v := 1) hx hb d_L_law_1045 (by decide) ?_
  refine lv_iadd hx hb d_L_law_1046 ?_
  refine lv_topi (fun x1 ex1 => ?_)
  have r2 : Rg x1 1 3578 := rg_add ex1 rx3 (⟨by decide, by decide⟩ : Rg 1 1 1) (by decide) (by decide)
  have s3 : x1.toInt = x3.toInt + (1 : Int32).toInt := by rw [ex1]; exact i_add (by obtain ⟨_, _⟩ := rx3; obtain ⟨_, _⟩ := (⟨by decide, by decide⟩ : Rg 1 1 1); omega) (by obtain ⟨_, _⟩ := rx3; obtain ⟨_, _⟩ := (⟨by decide, by decide⟩ : Rg 1 1 1); omega)
  have s3l : (1 : Int32).toInt = 1 := rfl
  refine va_sld hx hb hsx hbl hbA hS (vp_in_iff.mpr ⟨by omega, by omega⟩) d_L_law_1047 ?_
  refine lv_topi (fun x4 ex4 => ?_)
  refine r_ci (r_runV (n := 1) (As := [.int x4]) (rest := []) X hw (ct_X10_factor_0 l D dA ad v hI x4) gc_L_118 (rfl : KD 0 = _) (by decide) rfl (by decide +kernel) ⟨rfl, rfl, Nat.le_of_ble_eq_true rfl, Nat.le_of_ble_eq_true rfl⟩ rfl hl.1 rfl (Nat.le_of_ble_eq_true rfl) ⟨Nat.le_of_ble_eq_true rfl, Nat.le_of_ble_eq_true rfl⟩ d_L_law_1048) hS (fun x6 v7 H locs hp5 hw hS => ?_)
  obtain ⟨hp5, hE8⟩ := hp5
  rw [hp5] at hw
  refine lv_pop hx hb d_L_law_1051 rfl ?_
  refine lv_aload_n hx hb d_L_law_1052 rfl (lv_at hl 2 rfl) ?_
  refine lv_aload_n hx hb d_L_law_1053 rfl (lv_at hl 0 rfl) ?_
  refine lv_iload_n hx hb d_L_law_1054 rfl (lv_at hl 3 rfl) ?_
  refine lv_iconst (v := 1) hx hb d_L_law_1055 (by decide) ?_
  refine lv_iadd hx hb d_L_law_1056 ?_
  refine lv_topi (fun x9 ex9 => ?_)
  have r10 : Rg x9 1 3578 := rg_add ex9 rx3 (⟨by decide, by decide⟩ : Rg 1 1 1) (by decide) (by decide)
  have s11 : x9.toInt = x3.toInt + (1 : Int32).toInt := by rw [ex9]; exact i_add (by obtain ⟨_, _⟩ := rx3; obtain ⟨_, _⟩ := (⟨by decide, by decide⟩ : Rg 1 1 1); omega) (by obtain ⟨_, _⟩ := rx3; obtain ⟨_, _⟩ := (⟨by decide, by decide⟩ : Rg 1 1 1); omega)
  have s11l : (1 : Int32).toInt = 1 := rfl
  refine va_sld hx hb hsx hbl hbA hS (vp_in_iff.mpr ⟨by omega, by omega⟩) d_L_law_1057 ?_
  refine lv_seti (y := x4) (by rw [ex4, ex9, ex1]) ?_
  refine r_ci (r_runV (n := 1) (As := [.int x4]) (rest := []) X hw (ct_X11_factor_400 l D dA ad v hI x4) gc_L_121 (rfl : KD 400 = _) (by decide) rfl (by decide +kernel) ⟨rfl, rfl, Nat.le_of_ble_eq_true rfl, Nat.le_of_ble_eq_true rfl⟩ rfl hl.1 rfl (Nat.le_of_ble_eq_true rfl) ⟨Nat.le_of_ble_eq_true rfl, Nat.le_of_ble_eq_true rfl⟩ d_L_law_1058) hS (fun x13 v14 H locs hp12 hw hS => ?_)
  obtain ⟨hp12, hE15⟩ := hp12
  rw [hp12] at hw
  refine lv_pop hx hb d_L_law_1061 rfl ?_
  refine lv_goto (tgt := 1065) hx hb d_L_law_1062 (by decide) ?_
  exact kk _ _ _ hI hR hw hS
end R27
