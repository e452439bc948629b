theorem dL_law_0 : decode cL_law 0 = .ok (.new 7, 3) := by decide +kernel
theorem dL_law_3 : decode cL_law 3 = .ok (.dup, 1) := by decide +kernel
theorem dL_law_4 : decode cL_law 4 = .ok (.invokespecial 9, 3) := by decide +kernel
theorem dL_law_7 : decode cL_law 7 = .ok (.astore_n 1, 1) := by decide +kernel
theorem dL_law_8 : decode cL_law 8 = .ok (.new 10, 3) := by decide +kernel
theorem dL_law_11 : decode cL_law 11 = .ok (.dup, 1) := by decide +kernel
theorem dL_law_12 : decode cL_law 12 = .ok (.invokespecial 12, 3) := by decide +kernel
theorem dL_law_15 : decode cL_law 15 = .ok (.astore_n 2, 1) := by decide +kernel
theorem dL_law_16 : decode cL_law 16 = .ok (.iconst 0, 1) := by decide +kernel
theorem dL_law_17 : decode cL_law 17 = .ok (.istore_n 3, 1) := by decide +kernel
theorem dL_law_18 : decode cL_law 18 = .ok (.iload_n 3, 1) := by decide +kernel
theorem dL_law_19 : decode cL_law 19 = .ok (.aload_n 0, 1) := by decide +kernel
theorem dL_law_20 : decode cL_law 20 = .ok (.arraylength, 1) := by decide +kernel
theorem dL_law_21 : decode cL_law 21 = .ok (.bipush 6, 2) := by decide +kernel
theorem dL_law_23 : decode cL_law 23 = .ok (.isub, 1) := by decide +kernel
theorem dL_law_24 : decode cL_law 24 = .ok (.if_icmp .gt 862, 3) := by decide +kernel
theorem dL_law_27 : decode cL_law 27 = .ok (.aload_n 0, 1) := by decide +kernel
theorem dL_law_28 : decode cL_law 28 = .ok (.iload_n 3, 1) := by decide +kernel
theorem dL_law_29 : decode cL_law 29 = .ok (.iaload, 1) := by decide +kernel
theorem dL_law_30 : decode cL_law 30 = .ok (.bipush 31, 2) := by decide +kernel
theorem dL_law_32 : decode cL_law 32 = .ok (.iand, 1) := by decide +kernel
theorem dL_law_33 : decode cL_law 33 = .ok (.tableswitch 847 0 25 #[119, 132, 195, 218, 241, 264, 297, 330, 363, 396, 439, 472, 505, 528, 551, 584, 617, 650, 673, 696, 729, 742, 755, 778, 801, 824], 119) := by decide +kernel
theorem dL_law_152 : decode cL_law 152 = .ok (.aload_n 1, 1) := by decide +kernel
theorem dL_law_153 : decode cL_law 153 = .ok (.invokevirtual 13, 3) := by decide +kernel
theorem dL_law_156 : decode cL_law 156 = .ok (.aload_n 2, 1) := by decide +kernel
theorem dL_law_157 : decode cL_law 157 = .ok (.invokevirtual 17, 3) := by decide +kernel
theorem dL_law_160 : decode cL_law 160 = .ok (.if_icmp .eq 720, 3) := by decide +kernel
theorem dL_law_163 : decode cL_law 163 = .ok (.iconst 0, 1) := by decide +kernel
theorem dL_law_164 : decode cL_law 164 = .ok (.ireturn, 1) := by decide +kernel
theorem dL_law_165 : decode cL_law 165 = .ok (.aload_n 1, 1) := by decide +kernel
theorem dL_law_166 : decode cL_law 166 = .ok (.aload_n 0, 1) := by decide +kernel
theorem dL_law_167 : decode cL_law 167 = .ok (.iload_n 3, 1) := by decide +kernel
theorem dL_law_168 : decode cL_law 168 = .ok (.iconst 1, 1) := by decide +kernel
theorem dL_law_169 : decode cL_law 169 = .ok (.iadd, 1) := by decide +kernel
theorem dL_law_170 : decode cL_law 170 = .ok (.iaload, 1) := by decide +kernel
theorem dL_law_171 : decode cL_law 171 = .ok (.aload_n 0, 1) := by decide +kernel
theorem dL_law_172 : decode cL_law 172 = .ok (.iload_n 3, 1) := by decide +kernel
theorem dL_law_173 : decode cL_law 173 = .ok (.iconst 2, 1) := by decide +kernel
theorem dL_law_174 : decode cL_law 174 = .ok (.iadd, 1) := by decide +kernel
theorem dL_law_175 : decode cL_law 175 = .ok (.iaload, 1) := by decide +kernel
theorem dL_law_176 : decode cL_law 176 = .ok (.aload_n 0, 1) := by decide +kernel
theorem dL_law_177 : decode cL_law 177 = .ok (.iload_n 3, 1) := by decide +kernel
theorem dL_law_178 : decode cL_law 178 = .ok (.iconst 3, 1) := by decide +kernel
theorem dL_law_179 : decode cL_law 179 = .ok (.iadd, 1) := by decide +kernel
theorem dL_law_180 : decode cL_law 180 = .ok (.iaload, 1) := by decide +kernel
theorem dL_law_181 : decode cL_law 181 = .ok (.aload_n 0, 1) := by decide +kernel
theorem dL_law_182 : decode cL_law 182 = .ok (.iload_n 3, 1) := by decide +kernel
theorem dL_law_183 : decode cL_law 183 = .ok (.iconst 4, 1) := by decide +kernel
theorem dL_law_184 : decode cL_law 184 = .ok (.iadd, 1) := by decide +kernel
theorem dL_law_185 : decode cL_law 185 = .ok (.iaload, 1) := by decide +kernel
theorem dL_law_186 : decode cL_law 186 = .ok (.aload_n 0, 1) := by decide +kernel
theorem dL_law_187 : decode cL_law 187 = .ok (.iload_n 3, 1) := by decide +kernel
theorem dL_law_188 : decode cL_law 188 = .ok (.iconst 5, 1) := by decide +kernel
theorem dL_law_189 : decode cL_law 189 = .ok (.iadd, 1) := by decide +kernel
theorem dL_law_190 : decode cL_law 190 = .ok (.iaload, 1) := by decide +kernel
theorem dL_law_191 : decode cL_law 191 = .ok (.invokevirtual 18, 3) := by decide +kernel
theorem dL_law_194 : decode cL_law 194 = .ok (.aload_n 2, 1) := by decide +kernel
theorem dL_law_195 : decode cL_law 195 = .ok (.aload_n 0, 1) := by decide +kernel
theorem dL_law_196 : decode cL_law 196 = .ok (.iload_n 3, 1) := by decide +kernel
theorem dL_law_197 : decode cL_law 197 = .ok (.iconst 1, 1) := by decide +kernel
theorem dL_law_198 : decode cL_law 198 = .ok (.iadd, 1) := by decide +kernel
theorem dL_law_199 : decode cL_law 199 = .ok (.iaload, 1) := by decide +kernel
theorem dL_law_200 : decode cL_law 200 = .ok (.aload_n 0, 1) := by decide +kernel
theorem dL_law_201 : decode cL_law 201 = .ok (.iload_n 3, 1) := by decide +kernel
theorem dL_law_202 : decode cL_law 202 = .ok (.iconst 2, 1) := by decide +kernel
theorem dL_law_203 : decode cL_law 203 = .ok (.iadd, 1) := by decide +kernel
theorem dL_law_204 : decode cL_law 204 = .ok (.iaload, 1) := by decide +kernel
theorem dL_law_205 : decode cL_law 205 = .ok (.aload_n 0, 1) := by decide +kernel
theorem dL_law_206 : decode cL_law 206 = .ok (.iload_n 3, 1) := by decide +kernel
theorem dL_law_207 : decode cL_law 207 = .ok (.iconst 3, 1) := by decide +kernel
theorem dL_law_208 : decode cL_law 208 = .ok (.iadd, 1) := by decide +kernel
theorem dL_law_209 : decode cL_law 209 = .ok (.iaload, 1) := by decide +kernel
theorem dL_law_210 : decode cL_law 210 = .ok (.aload_n 0, 1) := by decide +kernel
theorem dL_law_211 : decode cL_law 211 = .ok (.iload_n 3, 1) := by decide +kernel
theorem dL_law_212 : decode cL_law 212 = .ok (.iconst 4, 1) := by decide +kernel
theorem dL_law_213 : decode cL_law 213 = .ok (.iadd, 1) := by decide +kernel
theorem dL_law_214 : decode cL_law 214 = .ok (.iaload, 1) := by decide +kernel
theorem dL_law_215 : decode cL_law 215 = .ok (.aload_n 0, 1) := by decide +kernel
theorem dL_law_216 : decode cL_law 216 = .ok (.iload_n 3, 1) := by decide +kernel
theorem dL_law_217 : decode cL_law 217 = .ok (.iconst 5, 1) := by decide +kernel
theorem dL_law_218 : decode cL_law 218 = .ok (.iadd, 1) := by decide +kernel
theorem dL_law_219 : decode cL_law 219 = .ok (.iaload, 1) := by decide +kernel
theorem dL_law_220 : decode cL_law 220 = .ok (.invokevirtual 22, 3) := by decide +kernel
theorem dL_law_223 : decode cL_law 223 = .ok (.if_icmp .eq 657, 3) := by decide +kernel
theorem dL_law_226 : decode cL_law 226 = .ok (.iconst 0, 1) := by decide +kernel
theorem dL_law_227 : decode cL_law 227 = .ok (.ireturn, 1) := by decide +kernel
theorem dL_law_228 : decode cL_law 228 = .ok (.aload_n 1, 1) := by decide +kernel
theorem dL_law_229 : decode cL_law 229 = .ok (.aload_n 0, 1) := by decide +kernel
theorem dL_law_230 : decode cL_law 230 = .ok (.iload_n 3, 1) := by decide +kernel
theorem dL_law_231 : decode cL_law 231 = .ok (.iconst 1, 1) := by decide +kernel
theorem dL_law_232 : decode cL_law 232 = .ok (.iadd, 1) := by decide +kernel
theorem dL_law_233 : decode cL_law 233 = .ok (.iaload, 1) := by decide +kernel
theorem dL_law_234 : decode cL_law 234 = .ok (.invokevirtual 23, 3) := by decide +kernel
theorem dL_law_237 : decode cL_law 237 = .ok (.aload_n 2, 1) := by decide +kernel
theorem dL_law_238 : decode cL_law 238 = .ok (.aload_n 0, 1) := by decide +kernel
theorem dL_law_239 : decode cL_law 239 = .ok (.iload_n 3, 1) := by decide +kernel
theorem dL_law_240 : decode cL_law 240 = .ok (.iconst 1, 1) := by decide +kernel
theorem dL_law_241 : decode cL_law 241 = .ok (.iadd, 1) := by decide +kernel
theorem dL_law_242 : decode cL_law 242 = .ok (.iaload, 1) := by decide +kernel
theorem dL_law_243 : decode cL_law 243 = .ok (.invokevirtual 27, 3) := by decide +kernel
theorem dL_law_246 : decode cL_law 246 = .ok (.if_icmp .eq 634, 3) := by decide +kernel
theorem dL_law_249 : decode cL_law 249 = .ok (.iconst 0, 1) := by decide +kernel
theorem dL_law_250 : decode cL_law 250 = .ok (.ireturn, 1) := by decide +kernel
theorem dL_law_251 : decode cL_law 251 = .ok (.aload_n 1, 1) := by decide +kernel
theorem dL_law_252 : decode cL_law 252 = .ok (.aload_n 0, 1) := by decide +kernel
theorem dL_law_253 : decode cL_law 253 = .ok (.iload_n 3, 1) := by decide +kernel
theorem dL_law_254 : decode cL_law 254 = .ok (.iconst 1, 1) := by decide +kernel
theorem dL_law_255 : decode cL_law 255 = .ok (.iadd, 1) := by decide +kernel
theorem dL_law_256 : decode cL_law 256 = .ok (.iaload, 1) := by decide +kernel
theorem dL_law_257 : decode cL_law 257 = .ok (.invokevirtual 28, 3) := by decide +kernel
theorem dL_law_260 : decode cL_law 260 = .ok (.aload_n 2, 1) := by decide +kernel
theorem dL_law_261 : decode cL_law 261 = .ok (.aload_n 0, 1) := by decide +kernel
theorem dL_law_262 : decode cL_law 262 = .ok (.iload_n 3, 1) := by decide +kernel
theorem dL_law_263 : decode cL_law 263 = .ok (.iconst 1, 1) := by decide +kernel
theorem dL_law_264 : decode cL_law 264 = .ok (.iadd, 1) := by decide +kernel
theorem dL_law_265 : decode cL_law 265 = .ok (.iaload, 1) := by decide +kernel
theorem dL_law_266 : decode cL_law 266 = .ok (.invokevirtual 31, 3) := by decide +kernel
theorem dL_law_269 : decode cL_law 269 = .ok (.if_icmp .eq 611, 3) := by decide +kernel
theorem dL_law_272 : decode cL_law 272 = .ok (.iconst 0, 1) := by decide +kernel
theorem dL_law_273 : decode cL_law 273 = .ok (.ireturn, 1) := by decide +kernel
theorem dL_law_274 : decode cL_law 274 = .ok (.aload_n 1, 1) := by decide +kernel
theorem dL_law_275 : decode cL_law 275 = .ok (.aload_n 0, 1) := by decide +kernel
theorem dL_law_276 : decode cL_law 276 = .ok (.iload_n 3, 1) := by decide +kernel
theorem dL_law_277 : decode cL_law 277 = .ok (.iconst 1, 1) := by decide +kernel
theorem dL_law_278 : decode cL_law 278 = .ok (.iadd, 1) := by decide +kernel
theorem dL_law_279 : decode cL_law 279 = .ok (.iaload, 1) := by decide +kernel
theorem dL_law_280 : decode cL_law 280 = .ok (.invokevirtual 32, 3) := by decide +kernel
theorem dL_law_283 : decode cL_law 283 = .ok (.aload_n 2, 1) := by decide +kernel
theorem dL_law_284 : decode cL_law 284 = .ok (.aload_n 0, 1) := by decide +kernel
theorem dL_law_285 : decode cL_law 285 = .ok (.iload_n 3, 1) := by decide +kernel
theorem dL_law_286 : decode cL_law 286 = .ok (.iconst 1, 1) := by decide +kernel
theorem dL_law_287 : decode cL_law 287 = .ok (.iadd, 1) := by decide +kernel
theorem dL_law_288 : decode cL_law 288 = .ok (.iaload, 1) := by decide +kernel
theorem dL_law_289 : decode cL_law 289 = .ok (.invokevirtual 35, 3) := by decide +kernel
theorem dL_law_292 : decode cL_law 292 = .ok (.if_icmp .eq 588, 3) := by decide +kernel
theorem dL_law_295 : decode cL_law 295 = .ok (.iconst 0, 1) := by decide +kernel
theorem dL_law_296 : decode cL_law 296 = .ok (.ireturn, 1) := by decide +kernel
theorem dL_law_297 : decode cL_law 297 = .ok (.aload_n 1, 1) := by decide +kernel
theorem dL_law_298 : decode cL_law 298 = .ok (.aload_n 0, 1) := by decide +kernel
theorem dL_law_299 : decode cL_law 299 = .ok (.iload_n 3, 1) := by decide +kernel
theorem dL_law_300 : decode cL_law 300 = .ok (.iconst 1, 1) := by decide +kernel
theorem dL_law_301 : decode cL_law 301 = .ok (.iadd, 1) := by decide +kernel
theorem dL_law_302 : decode cL_law 302 = .ok (.iaload, 1) := by decide +kernel
theorem dL_law_303 : decode cL_law 303 = .ok (.aload_n 0, 1) := by decide +kernel
theorem dL_law_304 : decode cL_law 304 = .ok (.iload_n 3, 1) := by decide +kernel
theorem dL_law_305 : decode cL_law 305 = .ok (.iconst 2, 1) := by decide +kernel
theorem dL_law_306 : decode cL_law 306 = .ok (.iadd, 1) := by decide +kernel
theorem dL_law_307 : decode cL_law 307 = .ok (.iaload, 1) := by decide +kernel
theorem dL_law_308 : decode cL_law 308 = .ok (.invokevirtual 36, 3) := by decide +kernel
theorem dL_law_311 : decode cL_law 311 = .ok (.aload_n 2, 1) := by decide +kernel
theorem dL_law_312 : decode cL_law 312 = .ok (.aload_n 0, 1) := by decide +kernel
theorem dL_law_313 : decode cL_law 313 = .ok (.iload_n 3, 1) := by decide +kernel
theorem dL_law_314 : decode cL_law 314 = .ok (.iconst 1, 1) := by decide +kernel
theorem dL_law_315 : decode cL_law 315 = .ok (.iadd, 1) := by decide +kernel
theorem dL_law_316 : decode cL_law 316 = .ok (.iaload, 1) := by decide +kernel
theorem dL_law_317 : decode cL_law 317 = .ok (.aload_n 0, 1) := by decide +kernel
theorem dL_law_318 : decode cL_law 318 = .ok (.iload_n 3, 1) := by decide +kernel
theorem dL_law_319 : decode cL_law 319 = .ok (.iconst 2, 1) := by decide +kernel
theorem dL_law_320 : decode cL_law 320 = .ok (.iadd, 1) := by decide +kernel
theorem dL_law_321 : decode cL_law 321 = .ok (.iaload, 1) := by decide +kernel
theorem dL_law_322 : decode cL_law 322 = .ok (.invokevirtual 40, 3) := by decide +kernel
theorem dL_law_325 : decode cL_law 325 = .ok (.if_icmp .eq 555, 3) := by decide +kernel
theorem dL_law_328 : decode cL_law 328 = .ok (.iconst 0, 1) := by decide +kernel
theorem dL_law_329 : decode cL_law 329 = .ok (.ireturn, 1) := by decide +kernel
theorem dL_law_330 : decode cL_law 330 = .ok (.aload_n 1, 1) := by decide +kernel
theorem dL_law_331 : decode cL_law 331 = .ok (.aload_n 0, 1) := by decide +kernel
theorem dL_law_332 : decode cL_law 332 = .ok (.iload_n 3, 1) := by decide +kernel
theorem dL_law_333 : decode cL_law 333 = .ok (.iconst 1, 1) := by decide +kernel
theorem dL_law_334 : decode cL_law 334 = .ok (.iadd, 1) := by decide +kernel
theorem dL_law_335 : decode cL_law 335 = .ok (.iaload, 1) := by decide +kernel
theorem dL_law_336 : decode cL_law 336 = .ok (.aload_n 0, 1) := by decide +kernel
theorem dL_law_337 : decode cL_law 337 = .ok (.iload_n 3, 1) := by decide +kernel
theorem dL_law_338 : decode cL_law 338 = .ok (.iconst 2, 1) := by decide +kernel
theorem dL_law_339 : decode cL_law 339 = .ok (.iadd, 1) := by decide +kernel
theorem dL_law_340 : decode cL_law 340 = .ok (.iaload, 1) := by decide +kernel
theorem dL_law_341 : decode cL_law 341 = .ok (.invokevirtual 41, 3) := by decide +kernel
theorem dL_law_344 : decode cL_law 344 = .ok (.aload_n 2, 1) := by decide +kernel
theorem dL_law_345 : decode cL_law 345 = .ok (.aload_n 0, 1) := by decide +kernel
theorem dL_law_346 : decode cL_law 346 = .ok (.iload_n 3, 1) := by decide +kernel
theorem dL_law_347 : decode cL_law 347 = .ok (.iconst 1, 1) := by decide +kernel
theorem dL_law_348 : decode cL_law 348 = .ok (.iadd, 1) := by decide +kernel
theorem dL_law_349 : decode cL_law 349 = .ok (.iaload, 1) := by decide +kernel
theorem dL_law_350 : decode cL_law 350 = .ok (.aload_n 0, 1) := by decide +kernel
theorem dL_law_351 : decode cL_law 351 = .ok (.iload_n 3, 1) := by decide +kernel
theorem dL_law_352 : decode cL_law 352 = .ok (.iconst 2, 1) := by decide +kernel
theorem dL_law_353 : decode cL_law 353 = .ok (.iadd, 1) := by decide +kernel
theorem dL_law_354 : decode cL_law 354 = .ok (.iaload, 1) := by decide +kernel
theorem dL_law_355 : decode cL_law 355 = .ok (.invokevirtual 44, 3) := by decide +kernel
theorem dL_law_358 : decode cL_law 358 = .ok (.if_icmp .eq 522, 3) := by decide +kernel
theorem dL_law_361 : decode cL_law 361 = .ok (.iconst 0, 1) := by decide +kernel
theorem dL_law_362 : decode cL_law 362 = .ok (.ireturn, 1) := by decide +kernel
theorem dL_law_363 : decode cL_law 363 = .ok (.aload_n 1, 1) := by decide +kernel
theorem dL_law_364 : decode cL_law 364 = .ok (.aload_n 0, 1) := by decide +kernel
theorem dL_law_365 : decode cL_law 365 = .ok (.iload_n 3, 1) := by decide +kernel
theorem dL_law_366 : decode cL_law 366 = .ok (.iconst 1, 1) := by decide +kernel
theorem dL_law_367 : decode cL_law 367 = .ok (.iadd, 1) := by decide +kernel
theorem dL_law_368 : decode cL_law 368 = .ok (.iaload, 1) := by decide +kernel
theorem dL_law_369 : decode cL_law 369 = .ok (.aload_n 0, 1) := by decide +kernel
theorem dL_law_370 : decode cL_law 370 = .ok (.iload_n 3, 1) := by decide +kernel
theorem dL_law_371 : decode cL_law 371 = .ok (.iconst 2, 1) := by decide +kernel
theorem dL_law_372 : decode cL_law 372 = .ok (.iadd, 1) := by decide +kernel
theorem dL_law_373 : decode cL_law 373 = .ok (.iaload, 1) := by decide +kernel
theorem dL_law_374 : decode cL_law 374 = .ok (.invokevirtual 45, 3) := by decide +kernel
theorem dL_law_377 : decode cL_law 377 = .ok (.aload_n 2, 1) := by decide +kernel
theorem dL_law_378 : decode cL_law 378 = .ok (.aload_n 0, 1) := by decide +kernel
theorem dL_law_379 : decode cL_law 379 = .ok (.iload_n 3, 1) := by decide +kernel
theorem dL_law_380 : decode cL_law 380 = .ok (.iconst 1, 1) := by decide +kernel
theorem dL_law_381 : decode cL_law 381 = .ok (.iadd, 1) := by decide +kernel
theorem dL_law_382 : decode cL_law 382 = .ok (.iaload, 1) := by decide +kernel
theorem dL_law_383 : decode cL_law 383 = .ok (.aload_n 0, 1) := by decide +kernel
theorem dL_law_384 : decode cL_law 384 = .ok (.iload_n 3, 1) := by decide +kernel
theorem dL_law_385 : decode cL_law 385 = .ok (.iconst 2, 1) := by decide +kernel
theorem dL_law_386 : decode cL_law 386 = .ok (.iadd, 1) := by decide +kernel
theorem dL_law_387 : decode cL_law 387 = .ok (.iaload, 1) := by decide +kernel
theorem dL_law_388 : decode cL_law 388 = .ok (.invokevirtual 48, 3) := by decide +kernel
theorem dL_law_391 : decode cL_law 391 = .ok (.if_icmp .eq 489, 3) := by decide +kernel
theorem dL_law_394 : decode cL_law 394 = .ok (.iconst 0, 1) := by decide +kernel
theorem dL_law_395 : decode cL_law 395 = .ok (.ireturn, 1) := by decide +kernel
theorem dL_law_396 : decode cL_law 396 = .ok (.aload_n 1, 1) := by decide +kernel
theorem dL_law_397 : decode cL_law 397 = .ok (.aload_n 0, 1) := by decide +kernel
theorem dL_law_398 : decode cL_law 398 = .ok (.iload_n 3, 1) := by decide +kernel
theorem dL_law_399 : decode cL_law 399 = .ok (.iconst 1, 1) := by decide +kernel
theorem dL_law_400 : decode cL_law 400 = .ok (.iadd, 1) := by decide +kernel
theorem dL_law_401 : decode cL_law 401 = .ok (.iaload, 1) := by decide +kernel
theorem dL_law_402 : decode cL_law 402 = .ok (.aload_n 0, 1) := by decide +kernel
theorem dL_law_403 : decode cL_law 403 = .ok (.iload_n 3, 1) := by decide +kernel
theorem dL_law_404 : decode cL_law 404 = .ok (.iconst 2, 1) := by decide +kernel
theorem dL_law_405 : decode cL_law 405 = .ok (.iadd, 1) := by decide +kernel
theorem dL_law_406 : decode cL_law 406 = .ok (.iaload, 1) := by decide +kernel
theorem dL_law_407 : decode cL_law 407 = .ok (.invokevirtual 49, 3) := by decide +kernel
theorem dL_law_410 : decode cL_law 410 = .ok (.aload_n 2, 1) := by decide +kernel
theorem dL_law_411 : decode cL_law 411 = .ok (.aload_n 0, 1) := by decide +kernel
theorem dL_law_412 : decode cL_law 412 = .ok (.iload_n 3, 1) := by decide +kernel
theorem dL_law_413 : decode cL_law 413 = .ok (.iconst 1, 1) := by decide +kernel
theorem dL_law_414 : decode cL_law 414 = .ok (.iadd, 1) := by decide +kernel
theorem dL_law_415 : decode cL_law 415 = .ok (.iaload, 1) := by decide +kernel
theorem dL_law_416 : decode cL_law 416 = .ok (.aload_n 0, 1) := by decide +kernel
theorem dL_law_417 : decode cL_law 417 = .ok (.iload_n 3, 1) := by decide +kernel
theorem dL_law_418 : decode cL_law 418 = .ok (.iconst 2, 1) := by decide +kernel
theorem dL_law_419 : decode cL_law 419 = .ok (.iadd, 1) := by decide +kernel
theorem dL_law_420 : decode cL_law 420 = .ok (.iaload, 1) := by decide +kernel
theorem dL_law_421 : decode cL_law 421 = .ok (.invokevirtual 52, 3) := by decide +kernel
theorem dL_law_424 : decode cL_law 424 = .ok (.if_icmp .eq 456, 3) := by decide +kernel
theorem dL_law_427 : decode cL_law 427 = .ok (.iconst 0, 1) := by decide +kernel
theorem dL_law_428 : decode cL_law 428 = .ok (.ireturn, 1) := by decide +kernel
theorem dL_law_429 : decode cL_law 429 = .ok (.aload_n 1, 1) := by decide +kernel
theorem dL_law_430 : decode cL_law 430 = .ok (.aload_n 0, 1) := by decide +kernel
theorem dL_law_431 : decode cL_law 431 = .ok (.iload_n 3, 1) := by decide +kernel
theorem dL_law_432 : decode cL_law 432 = .ok (.iconst 1, 1) := by decide +kernel
theorem dL_law_433 : decode cL_law 433 = .ok (.iadd, 1) := by decide +kernel
theorem dL_law_434 : decode cL_law 434 = .ok (.iaload, 1) := by decide +kernel
theorem dL_law_435 : decode cL_law 435 = .ok (.aload_n 0, 1) := by decide +kernel
theorem dL_law_436 : decode cL_law 436 = .ok (.iload_n 3, 1) := by decide +kernel
theorem dL_law_437 : decode cL_law 437 = .ok (.iconst 2, 1) := by decide +kernel
theorem dL_law_438 : decode cL_law 438 = .ok (.iadd, 1) := by decide +kernel
theorem dL_law_439 : decode cL_law 439 = .ok (.iaload, 1) := by decide +kernel
theorem dL_law_440 : decode cL_law 440 = .ok (.aload_n 0, 1) := by decide +kernel
theorem dL_law_441 : decode cL_law 441 = .ok (.iload_n 3, 1) := by decide +kernel
theorem dL_law_442 : decode cL_law 442 = .ok (.iconst 3, 1) := by decide +kernel
theorem dL_law_443 : decode cL_law 443 = .ok (.iadd, 1) := by decide +kernel
theorem dL_law_444 : decode cL_law 444 = .ok (.iaload, 1) := by decide +kernel
theorem dL_law_445 : decode cL_law 445 = .ok (.invokevirtual 53, 3) := by decide +kernel
theorem dL_law_448 : decode cL_law 448 = .ok (.aload_n 2, 1) := by decide +kernel
theorem dL_law_449 : decode cL_law 449 = .ok (.aload_n 0, 1) := by decide +kernel
theorem dL_law_450 : decode cL_law 450 = .ok (.iload_n 3, 1) := by decide +kernel
theorem dL_law_451 : decode cL_law 451 = .ok (.iconst 1, 1) := by decide +kernel
theorem dL_law_452 : decode cL_law 452 = .ok (.iadd, 1) := by decide +kernel
theorem dL_law_453 : decode cL_law 453 = .ok (.iaload, 1) := by decide +kernel
theorem dL_law_454 : decode cL_law 454 = .ok (.aload_n 0, 1) := by decide +kernel
theorem dL_law_455 : decode cL_law 455 = .ok (.iload_n 3, 1) := by decide +kernel
theorem dL_law_456 : decode cL_law 456 = .ok (.iconst 2, 1) := by decide +kernel
theorem dL_law_457 : decode cL_law 457 = .ok (.iadd, 1) := by decide +kernel
theorem dL_law_458 : decode cL_law 458 = .ok (.iaload, 1) := by decide +kernel
theorem dL_law_459 : decode cL_law 459 = .ok (.aload_n 0, 1) := by decide +kernel
theorem dL_law_460 : decode cL_law 460 = .ok (.iload_n 3, 1) := by decide +kernel
theorem dL_law_461 : decode cL_law 461 = .ok (.iconst 3, 1) := by decide +kernel
theorem dL_law_462 : decode cL_law 462 = .ok (.iadd, 1) := by decide +kernel
theorem dL_law_463 : decode cL_law 463 = .ok (.iaload, 1) := by decide +kernel
theorem dL_law_464 : decode cL_law 464 = .ok (.invokevirtual 57, 3) := by decide +kernel
theorem dL_law_467 : decode cL_law 467 = .ok (.if_icmp .eq 413, 3) := by decide +kernel
theorem dL_law_470 : decode cL_law 470 = .ok (.iconst 0, 1) := by decide +kernel
theorem dL_law_471 : decode cL_law 471 = .ok (.ireturn, 1) := by decide +kernel
theorem dL_law_472 : decode cL_law 472 = .ok (.aload_n 1, 1) := by decide +kernel
theorem dL_law_473 : decode cL_law 473 = .ok (.aload_n 0, 1) := by decide +kernel
theorem dL_law_474 : decode cL_law 474 = .ok (.iload_n 3, 1) := by decide +kernel
theorem dL_law_475 : decode cL_law 475 = .ok (.iconst 1, 1) := by decide +kernel
theorem dL_law_476 : decode cL_law 476 = .ok (.iadd, 1) := by decide +kernel
theorem dL_law_477 : decode cL_law 477 = .ok (.iaload, 1) := by decide +kernel
theorem dL_law_478 : decode cL_law 478 = .ok (.aload_n 0, 1) := by decide +kernel
theorem dL_law_479 : decode cL_law 479 = .ok (.iload_n 3, 1) := by decide +kernel
theorem dL_law_480 : decode cL_law 480 = .ok (.iconst 2, 1) := by decide +kernel
theorem dL_law_481 : decode cL_law 481 = .ok (.iadd, 1) := by decide +kernel
theorem dL_law_482 : decode cL_law 482 = .ok (.iaload, 1) := by decide +kernel
theorem dL_law_483 : decode cL_law 483 = .ok (.invokevirtual 58, 3) := by decide +kernel
theorem dL_law_486 : decode cL_law 486 = .ok (.aload_n 2, 1) := by decide +kernel
theorem dL_law_487 : decode cL_law 487 = .ok (.aload_n 0, 1) := by decide +kernel
theorem dL_law_488 : decode cL_law 488 = .ok (.iload_n 3, 1) := by decide +kernel
theorem dL_law_489 : decode cL_law 489 = .ok (.iconst 1, 1) := by decide +kernel
theorem dL_law_490 : decode cL_law 490 = .ok (.iadd, 1) := by decide +kernel
theorem dL_law_491 : decode cL_law 491 = .ok (.iaload, 1) := by decide +kernel
theorem dL_law_492 : decode cL_law 492 = .ok (.aload_n 0, 1) := by decide +kernel
theorem dL_law_493 : decode cL_law 493 = .ok (.iload_n 3, 1) := by decide +kernel
theorem dL_law_494 : decode cL_law 494 = .ok (.iconst 2, 1) := by decide +kernel
theorem dL_law_495 : decode cL_law 495 = .ok (.iadd, 1) := by decide +kernel
theorem dL_law_496 : decode cL_law 496 = .ok (.iaload, 1) := by decide +kernel
theorem dL_law_497 : decode cL_law 497 = .ok (.invokevirtual 61, 3) := by decide +kernel
theorem dL_law_500 : decode cL_law 500 = .ok (.if_icmp .eq 380, 3) := by decide +kernel
theorem dL_law_503 : decode cL_law 503 = .ok (.iconst 0, 1) := by decide +kernel
theorem dL_law_504 : decode cL_law 504 = .ok (.ireturn, 1) := by decide +kernel
theorem dL_law_505 : decode cL_law 505 = .ok (.aload_n 1, 1) := by decide +kernel
theorem dL_law_506 : decode cL_law 506 = .ok (.aload_n 0, 1) := by decide +kernel
theorem dL_law_507 : decode cL_law 507 = .ok (.iload_n 3, 1) := by decide +kernel
theorem dL_law_508 : decode cL_law 508 = .ok (.iconst 1, 1) := by decide +kernel
theorem dL_law_509 : decode cL_law 509 = .ok (.iadd, 1) := by decide +kernel
theorem dL_law_510 : decode cL_law 510 = .ok (.iaload, 1) := by decide +kernel
theorem dL_law_511 : decode cL_law 511 = .ok (.aload_n 0, 1) := by decide +kernel
theorem dL_law_512 : decode cL_law 512 = .ok (.iload_n 3, 1) := by decide +kernel
theorem dL_law_513 : decode cL_law 513 = .ok (.iconst 2, 1) := by decide +kernel
theorem dL_law_514 : decode cL_law 514 = .ok (.iadd, 1) := by decide +kernel
theorem dL_law_515 : decode cL_law 515 = .ok (.iaload, 1) := by decide +kernel
theorem dL_law_516 : decode cL_law 516 = .ok (.invokevirtual 62, 3) := by decide +kernel
theorem dL_law_519 : decode cL_law 519 = .ok (.aload_n 2, 1) := by decide +kernel
theorem dL_law_520 : decode cL_law 520 = .ok (.aload_n 0, 1) := by decide +kernel
theorem dL_law_521 : decode cL_law 521 = .ok (.iload_n 3, 1) := by decide +kernel
theorem dL_law_522 : decode cL_law 522 = .ok (.iconst 1, 1) := by decide +kernel
theorem dL_law_523 : decode cL_law 523 = .ok (.iadd, 1) := by decide +kernel
theorem dL_law_524 : decode cL_law 524 = .ok (.iaload, 1) := by decide +kernel
theorem dL_law_525 : decode cL_law 525 = .ok (.aload_n 0, 1) := by decide +kernel
theorem dL_law_526 : decode cL_law 526 = .ok (.iload_n 3, 1) := by decide +kernel
theorem dL_law_527 : decode cL_law 527 = .ok (.iconst 2, 1) := by decide +kernel
theorem dL_law_528 : decode cL_law 528 = .ok (.iadd, 1) := by decide +kernel
theorem dL_law_529 : decode cL_law 529 = .ok (.iaload, 1) := by decide +kernel
theorem dL_law_530 : decode cL_law 530 = .ok (.invokevirtual 65, 3) := by decide +kernel
theorem dL_law_533 : decode cL_law 533 = .ok (.if_icmp .eq 347, 3) := by decide +kernel
theorem dL_law_536 : decode cL_law 536 = .ok (.iconst 0, 1) := by decide +kernel
theorem dL_law_537 : decode cL_law 537 = .ok (.ireturn, 1) := by decide +kernel
theorem dL_law_538 : decode cL_law 538 = .ok (.aload_n 1, 1) := by decide +kernel
theorem dL_law_539 : decode cL_law 539 = .ok (.aload_n 0, 1) := by decide +kernel
theorem dL_law_540 : decode cL_law 540 = .ok (.iload_n 3, 1) := by decide +kernel
theorem dL_law_541 : decode cL_law 541 = .ok (.iconst 1, 1) := by decide +kernel
theorem dL_law_542 : decode cL_law 542 = .ok (.iadd, 1) := by decide +kernel
theorem dL_law_543 : decode cL_law 543 = .ok (.iaload, 1) := by decide +kernel
theorem dL_law_544 : decode cL_law 544 = .ok (.invokevirtual 66, 3) := by decide +kernel
theorem dL_law_547 : decode cL_law 547 = .ok (.aload_n 2, 1) := by decide +kernel
theorem dL_law_548 : decode cL_law 548 = .ok (.aload_n 0, 1) := by decide +kernel
theorem dL_law_549 : decode cL_law 549 = .ok (.iload_n 3, 1) := by decide +kernel
theorem dL_law_550 : decode cL_law 550 = .ok (.iconst 1, 1) := by decide +kernel
theorem dL_law_551 : decode cL_law 551 = .ok (.iadd, 1) := by decide +kernel
theorem dL_law_552 : decode cL_law 552 = .ok (.iaload, 1) := by decide +kernel
theorem dL_law_553 : decode cL_law 553 = .ok (.invokevirtual 69, 3) := by decide +kernel
theorem dL_law_556 : decode cL_law 556 = .ok (.if_icmp .eq 324, 3) := by decide +kernel
theorem dL_law_559 : decode cL_law 559 = .ok (.iconst 0, 1) := by decide +kernel
theorem dL_law_560 : decode cL_law 560 = .ok (.ireturn, 1) := by decide +kernel
theorem dL_law_561 : decode cL_law 561 = .ok (.aload_n 1, 1) := by decide +kernel
theorem dL_law_562 : decode cL_law 562 = .ok (.aload_n 0, 1) := by decide +kernel
theorem dL_law_563 : decode cL_law 563 = .ok (.iload_n 3, 1) := by decide +kernel
theorem dL_law_564 : decode cL_law 564 = .ok (.iconst 1, 1) := by decide +kernel
theorem dL_law_565 : decode cL_law 565 = .ok (.iadd, 1) := by decide +kernel
theorem dL_law_566 : decode cL_law 566 = .ok (.iaload, 1) := by decide +kernel
theorem dL_law_567 : decode cL_law 567 = .ok (.invokevirtual 70, 3) := by decide +kernel
theorem dL_law_570 : decode cL_law 570 = .ok (.aload_n 2, 1) := by decide +kernel
theorem dL_law_571 : decode cL_law 571 = .ok (.aload_n 0, 1) := by decide +kernel
theorem dL_law_572 : decode cL_law 572 = .ok (.iload_n 3, 1) := by decide +kernel
theorem dL_law_573 : decode cL_law 573 = .ok (.iconst 1, 1) := by decide +kernel
theorem dL_law_574 : decode cL_law 574 = .ok (.iadd, 1) := by decide +kernel
theorem dL_law_575 : decode cL_law 575 = .ok (.iaload, 1) := by decide +kernel
theorem dL_law_576 : decode cL_law 576 = .ok (.invokevirtual 73, 3) := by decide +kernel
theorem dL_law_579 : decode cL_law 579 = .ok (.if_icmp .eq 301, 3) := by decide +kernel
theorem dL_law_582 : decode cL_law 582 = .ok (.iconst 0, 1) := by decide +kernel
theorem dL_law_583 : decode cL_law 583 = .ok (.ireturn, 1) := by decide +kernel
theorem dL_law_584 : decode cL_law 584 = .ok (.aload_n 1, 1) := by decide +kernel
theorem dL_law_585 : decode cL_law 585 = .ok (.aload_n 0, 1) := by decide +kernel
theorem dL_law_586 : decode cL_law 586 = .ok (.iload_n 3, 1) := by decide +kernel
theorem dL_law_587 : decode cL_law 587 = .ok (.iconst 1, 1) := by decide +kernel
theorem dL_law_588 : decode cL_law 588 = .ok (.iadd, 1) := by decide +kernel
theorem dL_law_589 : decode cL_law 589 = .ok (.iaload, 1) := by decide +kernel
theorem dL_law_590 : decode cL_law 590 = .ok (.aload_n 0, 1) := by decide +kernel
theorem dL_law_591 : decode cL_law 591 = .ok (.iload_n 3, 1) := by decide +kernel
theorem dL_law_592 : decode cL_law 592 = .ok (.iconst 2, 1) := by decide +kernel
theorem dL_law_593 : decode cL_law 593 = .ok (.iadd, 1) := by decide +kernel
theorem dL_law_594 : decode cL_law 594 = .ok (.iaload, 1) := by decide +kernel
theorem dL_law_595 : decode cL_law 595 = .ok (.invokevirtual 74, 3) := by decide +kernel
theorem dL_law_598 : decode cL_law 598 = .ok (.aload_n 2, 1) := by decide +kernel
theorem dL_law_599 : decode cL_law 599 = .ok (.aload_n 0, 1) := by decide +kernel
theorem dL_law_600 : decode cL_law 600 = .ok (.iload_n 3, 1) := by decide +kernel
theorem dL_law_601 : decode cL_law 601 = .ok (.iconst 1, 1) := by decide +kernel
theorem dL_law_602 : decode cL_law 602 = .ok (.iadd, 1) := by decide +kernel
theorem dL_law_603 : decode cL_law 603 = .ok (.iaload, 1) := by decide +kernel
theorem dL_law_604 : decode cL_law 604 = .ok (.aload_n 0, 1) := by decide +kernel
theorem dL_law_605 : decode cL_law 605 = .ok (.iload_n 3, 1) := by decide +kernel
theorem dL_law_606 : decode cL_law 606 = .ok (.iconst 2, 1) := by decide +kernel
theorem dL_law_607 : decode cL_law 607 = .ok (.iadd, 1) := by decide +kernel
theorem dL_law_608 : decode cL_law 608 = .ok (.iaload, 1) := by decide +kernel
theorem dL_law_609 : decode cL_law 609 = .ok (.invokevirtual 77, 3) := by decide +kernel
theorem dL_law_612 : decode cL_law 612 = .ok (.if_icmp .eq 268, 3) := by decide +kernel
theorem dL_law_615 : decode cL_law 615 = .ok (.iconst 0, 1) := by decide +kernel
theorem dL_law_616 : decode cL_law 616 = .ok (.ireturn, 1) := by decide +kernel
theorem dL_law_617 : decode cL_law 617 = .ok (.aload_n 1, 1) := by decide +kernel
theorem dL_law_618 : decode cL_law 618 = .ok (.aload_n 0, 1) := by decide +kernel
theorem dL_law_619 : decode cL_law 619 = .ok (.iload_n 3, 1) := by decide +kernel
theorem dL_law_620 : decode cL_law 620 = .ok (.iconst 1, 1) := by decide +kernel
theorem dL_law_621 : decode cL_law 621 = .ok (.iadd, 1) := by decide +kernel
theorem dL_law_622 : decode cL_law 622 = .ok (.iaload, 1) := by decide +kernel
theorem dL_law_623 : decode cL_law 623 = .ok (.aload_n 0, 1) := by decide +kernel
theorem dL_law_624 : decode cL_law 624 = .ok (.iload_n 3, 1) := by decide +kernel
theorem dL_law_625 : decode cL_law 625 = .ok (.iconst 2, 1) := by decide +kernel
theorem dL_law_626 : decode cL_law 626 = .ok (.iadd, 1) := by decide +kernel
theorem dL_law_627 : decode cL_law 627 = .ok (.iaload, 1) := by decide +kernel
theorem dL_law_628 : decode cL_law 628 = .ok (.invokevirtual 78, 3) := by decide +kernel
theorem dL_law_631 : decode cL_law 631 = .ok (.aload_n 2, 1) := by decide +kernel
theorem dL_law_632 : decode cL_law 632 = .ok (.aload_n 0, 1) := by decide +kernel
theorem dL_law_633 : decode cL_law 633 = .ok (.iload_n 3, 1) := by decide +kernel
theorem dL_law_634 : decode cL_law 634 = .ok (.iconst 1, 1) := by decide +kernel
theorem dL_law_635 : decode cL_law 635 = .ok (.iadd, 1) := by decide +kernel
theorem dL_law_636 : decode cL_law 636 = .ok (.iaload, 1) := by decide +kernel
theorem dL_law_637 : decode cL_law 637 = .ok (.aload_n 0, 1) := by decide +kernel
theorem dL_law_638 : decode cL_law 638 = .ok (.iload_n 3, 1) := by decide +kernel
theorem dL_law_639 : decode cL_law 639 = .ok (.iconst 2, 1) := by decide +kernel
theorem dL_law_640 : decode cL_law 640 = .ok (.iadd, 1) := by decide +kernel
theorem dL_law_641 : decode cL_law 641 = .ok (.iaload, 1) := by decide +kernel
theorem dL_law_642 : decode cL_law 642 = .ok (.invokevirtual 81, 3) := by decide +kernel
theorem dL_law_645 : decode cL_law 645 = .ok (.if_icmp .eq 235, 3) := by decide +kernel
theorem dL_law_648 : decode cL_law 648 = .ok (.iconst 0, 1) := by decide +kernel
theorem dL_law_649 : decode cL_law 649 = .ok (.ireturn, 1) := by decide +kernel
theorem dL_law_650 : decode cL_law 650 = .ok (.aload_n 1, 1) := by decide +kernel
theorem dL_law_651 : decode cL_law 651 = .ok (.aload_n 0, 1) := by decide +kernel
theorem dL_law_652 : decode cL_law 652 = .ok (.iload_n 3, 1) := by decide +kernel
theorem dL_law_653 : decode cL_law 653 = .ok (.iconst 1, 1) := by decide +kernel
theorem dL_law_654 : decode cL_law 654 = .ok (.iadd, 1) := by decide +kernel
theorem dL_law_655 : decode cL_law 655 = .ok (.iaload, 1) := by decide +kernel
theorem dL_law_656 : decode cL_law 656 = .ok (.aload_n 0, 1) := by decide +kernel
theorem dL_law_657 : decode cL_law 657 = .ok (.iload_n 3, 1) := by decide +kernel
theorem dL_law_658 : decode cL_law 658 = .ok (.iconst 2, 1) := by decide +kernel
theorem dL_law_659 : decode cL_law 659 = .ok (.iadd, 1) := by decide +kernel
theorem dL_law_660 : decode cL_law 660 = .ok (.iaload, 1) := by decide +kernel
theorem dL_law_661 : decode cL_law 661 = .ok (.invokevirtual 82, 3) := by decide +kernel
theorem dL_law_664 : decode cL_law 664 = .ok (.aload_n 2, 1) := by decide +kernel
theorem dL_law_665 : decode cL_law 665 = .ok (.aload_n 0, 1) := by decide +kernel
theorem dL_law_666 : decode cL_law 666 = .ok (.iload_n 3, 1) := by decide +kernel
theorem dL_law_667 : decode cL_law 667 = .ok (.iconst 1, 1) := by decide +kernel
theorem dL_law_668 : decode cL_law 668 = .ok (.iadd, 1) := by decide +kernel
theorem dL_law_669 : decode cL_law 669 = .ok (.iaload, 1) := by decide +kernel
theorem dL_law_670 : decode cL_law 670 = .ok (.aload_n 0, 1) := by decide +kernel
theorem dL_law_671 : decode cL_law 671 = .ok (.iload_n 3, 1) := by decide +kernel
theorem dL_law_672 : decode cL_law 672 = .ok (.iconst 2, 1) := by decide +kernel
theorem dL_law_673 : decode cL_law 673 = .ok (.iadd, 1) := by decide +kernel
theorem dL_law_674 : decode cL_law 674 = .ok (.iaload, 1) := by decide +kernel
theorem dL_law_675 : decode cL_law 675 = .ok (.invokevirtual 85, 3) := by decide +kernel
theorem dL_law_678 : decode cL_law 678 = .ok (.if_icmp .eq 202, 3) := by decide +kernel
theorem dL_law_681 : decode cL_law 681 = .ok (.iconst 0, 1) := by decide +kernel
theorem dL_law_682 : decode cL_law 682 = .ok (.ireturn, 1) := by decide +kernel
theorem dL_law_683 : decode cL_law 683 = .ok (.aload_n 1, 1) := by decide +kernel
theorem dL_law_684 : decode cL_law 684 = .ok (.aload_n 0, 1) := by decide +kernel
theorem dL_law_685 : decode cL_law 685 = .ok (.iload_n 3, 1) := by decide +kernel
theorem dL_law_686 : decode cL_law 686 = .ok (.iconst 1, 1) := by decide +kernel
theorem dL_law_687 : decode cL_law 687 = .ok (.iadd, 1) := by decide +kernel
theorem dL_law_688 : decode cL_law 688 = .ok (.iaload, 1) := by decide +kernel
theorem dL_law_689 : decode cL_law 689 = .ok (.invokevirtual 86, 3) := by decide +kernel
theorem dL_law_692 : decode cL_law 692 = .ok (.aload_n 2, 1) := by decide +kernel
theorem dL_law_693 : decode cL_law 693 = .ok (.aload_n 0, 1) := by decide +kernel
theorem dL_law_694 : decode cL_law 694 = .ok (.iload_n 3, 1) := by decide +kernel
theorem dL_law_695 : decode cL_law 695 = .ok (.iconst 1, 1) := by decide +kernel
theorem dL_law_696 : decode cL_law 696 = .ok (.iadd, 1) := by decide +kernel
theorem dL_law_697 : decode cL_law 697 = .ok (.iaload, 1) := by decide +kernel
theorem dL_law_698 : decode cL_law 698 = .ok (.invokevirtual 89, 3) := by decide +kernel
theorem dL_law_701 : decode cL_law 701 = .ok (.if_icmp .eq 179, 3) := by decide +kernel
theorem dL_law_704 : decode cL_law 704 = .ok (.iconst 0, 1) := by decide +kernel
theorem dL_law_705 : decode cL_law 705 = .ok (.ireturn, 1) := by decide +kernel
theorem dL_law_706 : decode cL_law 706 = .ok (.aload_n 1, 1) := by decide +kernel
theorem dL_law_707 : decode cL_law 707 = .ok (.aload_n 0, 1) := by decide +kernel
theorem dL_law_708 : decode cL_law 708 = .ok (.iload_n 3, 1) := by decide +kernel
theorem dL_law_709 : decode cL_law 709 = .ok (.iconst 1, 1) := by decide +kernel
theorem dL_law_710 : decode cL_law 710 = .ok (.iadd, 1) := by decide +kernel
theorem dL_law_711 : decode cL_law 711 = .ok (.iaload, 1) := by decide +kernel
theorem dL_law_712 : decode cL_law 712 = .ok (.invokevirtual 90, 3) := by decide +kernel
theorem dL_law_715 : decode cL_law 715 = .ok (.aload_n 2, 1) := by decide +kernel
theorem dL_law_716 : decode cL_law 716 = .ok (.aload_n 0, 1) := by decide +kernel
theorem dL_law_717 : decode cL_law 717 = .ok (.iload_n 3, 1) := by decide +kernel
theorem dL_law_718 : decode cL_law 718 = .ok (.iconst 1, 1) := by decide +kernel
theorem dL_law_719 : decode cL_law 719 = .ok (.iadd, 1) := by decide +kernel
theorem dL_law_720 : decode cL_law 720 = .ok (.iaload, 1) := by decide +kernel
theorem dL_law_721 : decode cL_law 721 = .ok (.invokevirtual 93, 3) := by decide +kernel
theorem dL_law_724 : decode cL_law 724 = .ok (.if_icmp .eq 156, 3) := by decide +kernel
theorem dL_law_727 : decode cL_law 727 = .ok (.iconst 0, 1) := by decide +kernel
theorem dL_law_728 : decode cL_law 728 = .ok (.ireturn, 1) := by decide +kernel
theorem dL_law_729 : decode cL_law 729 = .ok (.aload_n 1, 1) := by decide +kernel
theorem dL_law_730 : decode cL_law 730 = .ok (.aload_n 0, 1) := by decide +kernel
theorem dL_law_731 : decode cL_law 731 = .ok (.iload_n 3, 1) := by decide +kernel
theorem dL_law_732 : decode cL_law 732 = .ok (.iconst 1, 1) := by decide +kernel
theorem dL_law_733 : decode cL_law 733 = .ok (.iadd, 1) := by decide +kernel
theorem dL_law_734 : decode cL_law 734 = .ok (.iaload, 1) := by decide +kernel
theorem dL_law_735 : decode cL_law 735 = .ok (.aload_n 0, 1) := by decide +kernel
theorem dL_law_736 : decode cL_law 736 = .ok (.iload_n 3, 1) := by decide +kernel
theorem dL_law_737 : decode cL_law 737 = .ok (.iconst 2, 1) := by decide +kernel
theorem dL_law_738 : decode cL_law 738 = .ok (.iadd, 1) := by decide +kernel
theorem dL_law_739 : decode cL_law 739 = .ok (.iaload, 1) := by decide +kernel
theorem dL_law_740 : decode cL_law 740 = .ok (.invokevirtual 94, 3) := by decide +kernel
theorem dL_law_743 : decode cL_law 743 = .ok (.aload_n 2, 1) := by decide +kernel
theorem dL_law_744 : decode cL_law 744 = .ok (.aload_n 0, 1) := by decide +kernel
theorem dL_law_745 : decode cL_law 745 = .ok (.iload_n 3, 1) := by decide +kernel
theorem dL_law_746 : decode cL_law 746 = .ok (.iconst 1, 1) := by decide +kernel
theorem dL_law_747 : decode cL_law 747 = .ok (.iadd, 1) := by decide +kernel
theorem dL_law_748 : decode cL_law 748 = .ok (.iaload, 1) := by decide +kernel
theorem dL_law_749 : decode cL_law 749 = .ok (.aload_n 0, 1) := by decide +kernel
theorem dL_law_750 : decode cL_law 750 = .ok (.iload_n 3, 1) := by decide +kernel
theorem dL_law_751 : decode cL_law 751 = .ok (.iconst 2, 1) := by decide +kernel
theorem dL_law_752 : decode cL_law 752 = .ok (.iadd, 1) := by decide +kernel
theorem dL_law_753 : decode cL_law 753 = .ok (.iaload, 1) := by decide +kernel
theorem dL_law_754 : decode cL_law 754 = .ok (.invokevirtual 97, 3) := by decide +kernel
theorem dL_law_757 : decode cL_law 757 = .ok (.if_icmp .eq 123, 3) := by decide +kernel
theorem dL_law_760 : decode cL_law 760 = .ok (.iconst 0, 1) := by decide +kernel
theorem dL_law_761 : decode cL_law 761 = .ok (.ireturn, 1) := by decide +kernel
theorem dL_law_762 : decode cL_law 762 = .ok (.aload_n 1, 1) := by decide +kernel
theorem dL_law_763 : decode cL_law 763 = .ok (.invokevirtual 98, 3) := by decide +kernel
theorem dL_law_766 : decode cL_law 766 = .ok (.aload_n 2, 1) := by decide +kernel
theorem dL_law_767 : decode cL_law 767 = .ok (.invokevirtual 101, 3) := by decide +kernel
theorem dL_law_770 : decode cL_law 770 = .ok (.if_icmp .eq 110, 3) := by decide +kernel
theorem dL_law_773 : decode cL_law 773 = .ok (.iconst 0, 1) := by decide +kernel
theorem dL_law_774 : decode cL_law 774 = .ok (.ireturn, 1) := by decide +kernel
theorem dL_law_775 : decode cL_law 775 = .ok (.aload_n 1, 1) := by decide +kernel
theorem dL_law_776 : decode cL_law 776 = .ok (.invokevirtual 102, 3) := by decide +kernel
theorem dL_law_779 : decode cL_law 779 = .ok (.aload_n 2, 1) := by decide +kernel
theorem dL_law_780 : decode cL_law 780 = .ok (.invokevirtual 105, 3) := by decide +kernel
theorem dL_law_783 : decode cL_law 783 = .ok (.if_icmp .eq 97, 3) := by decide +kernel
theorem dL_law_786 : decode cL_law 786 = .ok (.iconst 0, 1) := by decide +kernel
theorem dL_law_787 : decode cL_law 787 = .ok (.ireturn, 1) := by decide +kernel
theorem dL_law_788 : decode cL_law 788 = .ok (.aload_n 1, 1) := by decide +kernel
theorem dL_law_789 : decode cL_law 789 = .ok (.aload_n 0, 1) := by decide +kernel
theorem dL_law_790 : decode cL_law 790 = .ok (.iload_n 3, 1) := by decide +kernel
theorem dL_law_791 : decode cL_law 791 = .ok (.iconst 1, 1) := by decide +kernel
theorem dL_law_792 : decode cL_law 792 = .ok (.iadd, 1) := by decide +kernel
theorem dL_law_793 : decode cL_law 793 = .ok (.iaload, 1) := by decide +kernel
theorem dL_law_794 : decode cL_law 794 = .ok (.invokevirtual 106, 3) := by decide +kernel
theorem dL_law_797 : decode cL_law 797 = .ok (.aload_n 2, 1) := by decide +kernel
theorem dL_law_798 : decode cL_law 798 = .ok (.aload_n 0, 1) := by decide +kernel
theorem dL_law_799 : decode cL_law 799 = .ok (.iload_n 3, 1) := by decide +kernel
theorem dL_law_800 : decode cL_law 800 = .ok (.iconst 1, 1) := by decide +kernel
theorem dL_law_801 : decode cL_law 801 = .ok (.iadd, 1) := by decide +kernel
theorem dL_law_802 : decode cL_law 802 = .ok (.iaload, 1) := by decide +kernel
theorem dL_law_803 : decode cL_law 803 = .ok (.invokevirtual 109, 3) := by decide +kernel
theorem dL_law_806 : decode cL_law 806 = .ok (.if_icmp .eq 74, 3) := by decide +kernel
theorem dL_law_809 : decode cL_law 809 = .ok (.iconst 0, 1) := by decide +kernel
theorem dL_law_810 : decode cL_law 810 = .ok (.ireturn, 1) := by decide +kernel
theorem dL_law_811 : decode cL_law 811 = .ok (.aload_n 1, 1) := by decide +kernel
theorem dL_law_812 : decode cL_law 812 = .ok (.aload_n 0, 1) := by decide +kernel
theorem dL_law_813 : decode cL_law 813 = .ok (.iload_n 3, 1) := by decide +kernel
theorem dL_law_814 : decode cL_law 814 = .ok (.iconst 1, 1) := by decide +kernel
theorem dL_law_815 : decode cL_law 815 = .ok (.iadd, 1) := by decide +kernel
theorem dL_law_816 : decode cL_law 816 = .ok (.iaload, 1) := by decide +kernel
theorem dL_law_817 : decode cL_law 817 = .ok (.invokevirtual 110, 3) := by decide +kernel
theorem dL_law_820 : decode cL_law 820 = .ok (.aload_n 2, 1) := by decide +kernel
theorem dL_law_821 : decode cL_law 821 = .ok (.aload_n 0, 1) := by decide +kernel
theorem dL_law_822 : decode cL_law 822 = .ok (.iload_n 3, 1) := by decide +kernel
theorem dL_law_823 : decode cL_law 823 = .ok (.iconst 1, 1) := by decide +kernel
theorem dL_law_824 : decode cL_law 824 = .ok (.iadd, 1) := by decide +kernel
theorem dL_law_825 : decode cL_law 825 = .ok (.iaload, 1) := by decide +kernel
theorem dL_law_826 : decode cL_law 826 = .ok (.invokevirtual 113, 3) := by decide +kernel
theorem dL_law_829 : decode cL_law 829 = .ok (.if_icmp .eq 51, 3) := by decide +kernel
theorem dL_law_832 : decode cL_law 832 = .ok (.iconst 0, 1) := by decide +kernel
theorem dL_law_833 : decode cL_law 833 = .ok (.ireturn, 1) := by decide +kernel
theorem dL_law_834 : decode cL_law 834 = .ok (.aload_n 1, 1) := by decide +kernel
theorem dL_law_835 : decode cL_law 835 = .ok (.aload_n 0, 1) := by decide +kernel
theorem dL_law_836 : decode cL_law 836 = .ok (.iload_n 3, 1) := by decide +kernel
theorem dL_law_837 : decode cL_law 837 = .ok (.iconst 1, 1) := by decide +kernel
theorem dL_law_838 : decode cL_law 838 = .ok (.iadd, 1) := by decide +kernel
theorem dL_law_839 : decode cL_law 839 = .ok (.iaload, 1) := by decide +kernel
theorem dL_law_840 : decode cL_law 840 = .ok (.invokevirtual 114, 3) := by decide +kernel
theorem dL_law_843 : decode cL_law 843 = .ok (.aload_n 2, 1) := by decide +kernel
theorem dL_law_844 : decode cL_law 844 = .ok (.aload_n 0, 1) := by decide +kernel
theorem dL_law_845 : decode cL_law 845 = .ok (.iload_n 3, 1) := by decide +kernel
theorem dL_law_846 : decode cL_law 846 = .ok (.iconst 1, 1) := by decide +kernel
theorem dL_law_847 : decode cL_law 847 = .ok (.iadd, 1) := by decide +kernel
theorem dL_law_848 : decode cL_law 848 = .ok (.iaload, 1) := by decide +kernel
theorem dL_law_849 : decode cL_law 849 = .ok (.invokevirtual 117, 3) := by decide +kernel
theorem dL_law_852 : decode cL_law 852 = .ok (.if_icmp .eq 28, 3) := by decide +kernel
theorem dL_law_855 : decode cL_law 855 = .ok (.iconst 0, 1) := by decide +kernel
theorem dL_law_856 : decode cL_law 856 = .ok (.ireturn, 1) := by decide +kernel
theorem dL_law_857 : decode cL_law 857 = .ok (.aload_n 1, 1) := by decide +kernel
theorem dL_law_858 : decode cL_law 858 = .ok (.aload_n 0, 1) := by decide +kernel
theorem dL_law_859 : decode cL_law 859 = .ok (.iload_n 3, 1) := by decide +kernel
theorem dL_law_860 : decode cL_law 860 = .ok (.iconst 1, 1) := by decide +kernel
theorem dL_law_861 : decode cL_law 861 = .ok (.iadd, 1) := by decide +kernel
theorem dL_law_862 : decode cL_law 862 = .ok (.iaload, 1) := by decide +kernel
theorem dL_law_863 : decode cL_law 863 = .ok (.invokevirtual 118, 3) := by decide +kernel
theorem dL_law_866 : decode cL_law 866 = .ok (.aload_n 2, 1) := by decide +kernel
theorem dL_law_867 : decode cL_law 867 = .ok (.aload_n 0, 1) := by decide +kernel
theorem dL_law_868 : decode cL_law 868 = .ok (.iload_n 3, 1) := by decide +kernel
theorem dL_law_869 : decode cL_law 869 = .ok (.iconst 1, 1) := by decide +kernel
theorem dL_law_870 : decode cL_law 870 = .ok (.iadd, 1) := by decide +kernel
theorem dL_law_871 : decode cL_law 871 = .ok (.iaload, 1) := by decide +kernel
theorem dL_law_872 : decode cL_law 872 = .ok (.invokevirtual 121, 3) := by decide +kernel
theorem dL_law_875 : decode cL_law 875 = .ok (.if_icmp .eq 5, 3) := by decide +kernel
theorem dL_law_878 : decode cL_law 878 = .ok (.iconst 0, 1) := by decide +kernel
theorem dL_law_879 : decode cL_law 879 = .ok (.ireturn, 1) := by decide +kernel
theorem dL_law_880 : decode cL_law 880 = .ok (.iinc 3 6, 3) := by decide +kernel
theorem dL_law_883 : decode cL_law 883 = .ok (.goto (-865), 3) := by decide +kernel
theorem dL_law_886 : decode cL_law 886 = .ok (.iconst 1, 1) := by decide +kernel
theorem dL_law_887 : decode cL_law 887 = .ok (.ireturn, 1) := by decide +kernel
set_option maxRecDepth 10000 in
set_option maxHeartbeats 4000000 in
theorem A_L_law_18 {Z : az_Z} {d : Nat} (C : az_C Z yL_law cL_law 4 (some .boolean) d) (hD : 421 ≤ d) {xl : Int} {xs : Int → Int} {bb : Int} (hX : az_X Z bb xl xs) (n : Nat) (k : Nat) : ∀ {σ : az_Hp} {v1 v2 v3 : Int} {r : (Int × az_Hp)}, fz_L_law_18 xl xs n k σ v1 v2 v3 = some r → az_AW Z 4 18 [(30, bb), (12, v1), (13, v2), (0, v3)] [] σ (some (0, r.1), r.2) := by
  have hd1 : 1 ≤ d := by omega
  induction k with
  | zero => intro σ v1 v2 v3 r h; simp [fz_L_law_18] at h
  | succ k ih =>
    intro σ v1 v2 v3 r h
    unfold fz_L_law_18 at h
    refine az_il3 (pc := 18) C dL_law_18 ?_
    refine az_al0 (pc := 19) C rfl rfl dL_law_19 ?_
    refine az_slen (pc := 20) C hX dL_law_20 ?_
    refine az_bk6 (pc := 21) C dL_law_21 ?_
    refine az_isub (pc := 23) C dL_law_23 ?_
    refine az_icmp_gt (pc := 24) (tgt := 886) C h dL_law_24 (by decide) (fun _ h => ?_) (fun _ h => ?_)
    · refine az_ik1 (pc := 886) C dL_law_886 ?_
      obtain rfl := Option.some.inj h
      exact az_zreturn (pc := 887) C (by decide) dL_law_887 rfl
    refine az_al0 (pc := 27) C rfl rfl dL_law_27 ?_
    refine az_il3 (pc := 28) C dL_law_28 ?_
    refine az_sld (pc := 29) C hX h dL_law_29 (fun h => ?_)
    refine az_bk31 (pc := 30) C dL_law_30 ?_
    refine az_iand (pc := 32) C dL_law_32 ?_
    rcases az_ite h with ⟨c0, h⟩ | ⟨c0, h⟩
    · refine az_tswIn (pc := 33) (i := 0) (tgt := 152) C (by exact c0) (by decide) rfl dL_law_33 (by decide) ?_
      refine az_al1 (pc := 152) C rfl rfl dL_law_152 ?_
      refine az_cV0pi (pc := 153) (c := 10) C hd1 h mv_X10_status ml_L_13 rfl (fun x hx => A_X10_status (by omega) hx) dL_law_153 (fun r2 h => ?_)
      refine az_al2 (pc := 156) C rfl rfl dL_law_156 ?_
      refine az_cV0pi (pc := 157) (c := 11) C hd1 h mv_X11_status ml_L_17 rfl (fun x hx => A_X11_status (by omega) hx) dL_law_157 (fun r3 h => ?_)
      refine az_icmp_eq (pc := 160) (tgt := 880) C h dL_law_160 (by decide) (fun _ h => ?_) (fun _ h => ?_)
      · refine az_ii3 (pc := 880) C az_n6 rfl rfl dL_law_880 ?_
        refine az_goto (pc := 883) (tgt := 18) C dL_law_883 (by decide) ?_
        exact (ih h)
      refine az_ik0 (pc := 163) C dL_law_163 ?_
      obtain rfl := Option.some.inj h
      exact az_zreturn (pc := 164) C (by decide) dL_law_164 rfl
    rcases az_ite h with ⟨c1, h⟩ | ⟨c1, h⟩
    · refine az_tswIn (pc := 33) (i := 1) (tgt := 165) C (by exact c1) (by decide) rfl dL_law_33 (by decide) ?_
      refine az_al1 (pc := 165) C rfl rfl dL_law_165 ?_
      refine az_al0 (pc := 166) C rfl rfl dL_law_166 ?_
      refine az_il3 (pc := 167) C dL_law_167 ?_
      refine az_ik1 (pc := 168) C dL_law_168 ?_
      refine az_iadd (pc := 169) C dL_law_169 ?_
      refine az_sld (pc := 170) C hX h dL_law_170 (fun h => ?_)
      refine az_al0 (pc := 171) C rfl rfl dL_law_171 ?_
      refine az_il3 (pc := 172) C dL_law_172 ?_
      refine az_ik2 (pc := 173) C dL_law_173 ?_
      refine az_iadd (pc := 174) C dL_law_174 ?_
      refine az_sld (pc := 175) C hX h dL_law_175 (fun h => ?_)
      refine az_al0 (pc := 176) C rfl rfl dL_law_176 ?_
      refine az_il3 (pc := 177) C dL_law_177 ?_
      refine az_ik3 (pc := 178) C dL_law_178 ?_
      refine az_iadd (pc := 179) C dL_law_179 ?_
      refine az_sld (pc := 180) C hX h dL_law_180 (fun h => ?_)
      refine az_al0 (pc := 181) C rfl rfl dL_law_181 ?_
      refine az_il3 (pc := 182) C dL_law_182 ?_
      refine az_ik4 (pc := 183) C dL_law_183 ?_
      refine az_iadd (pc := 184) C dL_law_184 ?_
      refine az_sld (pc := 185) C hX h dL_law_185 (fun h => ?_)
      refine az_al0 (pc := 186) C rfl rfl dL_law_186 ?_
      refine az_il3 (pc := 187) C dL_law_187 ?_
      refine az_ik5 (pc := 188) C dL_law_188 ?_
      refine az_iadd (pc := 189) C dL_law_189 ?_
      refine az_sld (pc := 190) C hX h dL_law_190 (fun h => ?_)
      refine az_cV5ii (pc := 191) (c := 10) C hd1 h mv_X10_feed ml_L_18 rfl (fun x hx => A_X10_feed (by omega) n hx) dL_law_191 (fun r9 h => ?_)
      refine az_al2 (pc := 194) C rfl rfl dL_law_194 ?_
      refine az_al0 (pc := 195) C rfl rfl dL_law_195 ?_
      refine az_il3 (pc := 196) C dL_law_196 ?_
      refine az_ik1 (pc := 197) C dL_law_197 ?_
      refine az_iadd (pc := 198) C dL_law_198 ?_
      refine az_sld (pc := 199) C hX h dL_law_199 (fun h => ?_)
      refine az_al0 (pc := 200) C rfl rfl dL_law_200 ?_
      refine az_il3 (pc := 201) C dL_law_201 ?_
      refine az_ik2 (pc := 202) C dL_law_202 ?_
      refine az_iadd (pc := 203) C dL_law_203 ?_
      refine az_sld (pc := 204) C hX h dL_law_204 (fun h => ?_)
      refine az_al0 (pc := 205) C rfl rfl dL_law_205 ?_
      refine az_il3 (pc := 206) C dL_law_206 ?_
      refine az_ik3 (pc := 207) C dL_law_207 ?_
      refine az_iadd (pc := 208) C dL_law_208 ?_
      refine az_sld (pc := 209) C hX h dL_law_209 (fun h => ?_)
      refine az_al0 (pc := 210) C rfl rfl dL_law_210 ?_
      refine az_il3 (pc := 211) C dL_law_211 ?_
      refine az_ik4 (pc := 212) C dL_law_212 ?_
      refine az_iadd (pc := 213) C dL_law_213 ?_
      refine az_sld (pc := 214) C hX h dL_law_214 (fun h => ?_)
      refine az_al0 (pc := 215) C rfl rfl dL_law_215 ?_
      refine az_il3 (pc := 216) C dL_law_216 ?_
      refine az_ik5 (pc := 217) C dL_law_217 ?_
      refine az_iadd (pc := 218) C dL_law_218 ?_
      refine az_sld (pc := 219) C hX h dL_law_219 (fun h => ?_)
      refine az_cV5ii (pc := 220) (c := 11) C hd1 h mv_X11_feed ml_L_22 rfl (fun x hx => A_X11_feed (by omega) n hx) dL_law_220 (fun r15 h => ?_)
      refine az_icmp_eq (pc := 223) (tgt := 880) C h dL_law_223 (by decide) (fun _ h => ?_) (fun _ h => ?_)
      · refine az_ii3 (pc := 880) C az_n6 rfl rfl dL_law_880 ?_
        refine az_goto (pc := 883) (tgt := 18) C dL_law_883 (by decide) ?_
        exact (ih h)
      refine az_ik0 (pc := 226) C dL_law_226 ?_
      obtain rfl := Option.some.inj h
      exact az_zreturn (pc := 227) C (by decide) dL_law_227 rfl
    rcases az_ite h with ⟨c2, h⟩ | ⟨c2, h⟩
    · refine az_tswIn (pc := 33) (i := 2) (tgt := 228) C (by exact c2) (by decide) rfl dL_law_33 (by decide) ?_
      refine az_al1 (pc := 228) C rfl rfl dL_law_228 ?_
      refine az_al0 (pc := 229) C rfl rfl dL_law_229 ?_
      refine az_il3 (pc := 230) C dL_law_230 ?_
      refine az_ik1 (pc := 231) C dL_law_231 ?_
      refine az_iadd (pc := 232) C dL_law_232 ?_
      refine az_sld (pc := 233) C hX h dL_law_233 (fun h => ?_)
      refine az_cV1ii (pc := 234) (c := 10) C hd1 h mv_X10_load ml_L_23 rfl (fun x hx => A_X10_load (by omega) n hx) dL_law_234 (fun r17 h => ?_)
      refine az_al2 (pc := 237) C rfl rfl dL_law_237 ?_
      refine az_al0 (pc := 238) C rfl rfl dL_law_238 ?_
      refine az_il3 (pc := 239) C dL_law_239 ?_
      refine az_ik1 (pc := 240) C dL_law_240 ?_
      refine az_iadd (pc := 241) C dL_law_241 ?_
      refine az_sld (pc := 242) C hX h dL_law_242 (fun h => ?_)
      refine az_cV1ii (pc := 243) (c := 11) C hd1 h mv_X11_load ml_L_27 rfl (fun x hx => A_X11_load (by omega) n hx) dL_law_243 (fun r19 h => ?_)
      refine az_icmp_eq (pc := 246) (tgt := 880) C h dL_law_246 (by decide) (fun _ h => ?_) (fun _ h => ?_)
      · refine az_ii3 (pc := 880) C az_n6 rfl rfl dL_law_880 ?_
        refine az_goto (pc := 883) (tgt := 18) C dL_law_883 (by decide) ?_
        exact (ih h)
      refine az_ik0 (pc := 249) C dL_law_249 ?_
      obtain rfl := Option.some.inj h
      exact az_zreturn (pc := 250) C (by decide) dL_law_250 rfl
    rcases az_ite h with ⟨c3, h⟩ | ⟨c3, h⟩
    · refine az_tswIn (pc := 33) (i := 3) (tgt := 251) C (by exact c3) (by decide) rfl dL_law_33 (by decide) ?_
      refine az_al1 (pc := 251) C rfl rfl dL_law_251 ?_
      refine az_al0 (pc := 252) C rfl rfl dL_law_252 ?_
      refine az_il3 (pc := 253) C dL_law_253 ?_
      refine az_ik1 (pc := 254) C dL_law_254 ?_
      refine az_iadd (pc := 255) C dL_law_255 ?_
      refine az_sld (pc := 256) C hX h dL_law_256 (fun h => ?_)
      refine az_cV1pi (pc := 257) (c := 10) C hd1 h mv_X10_fault ml_L_28 rfl (fun x hx => A_X10_fault (by omega) hx) dL_law_257 (fun r21 h => ?_)
      refine az_al2 (pc := 260) C rfl rfl dL_law_260 ?_
      refine az_al0 (pc := 261) C rfl rfl dL_law_261 ?_
      refine az_il3 (pc := 262) C dL_law_262 ?_
      refine az_ik1 (pc := 263) C dL_law_263 ?_
      refine az_iadd (pc := 264) C dL_law_264 ?_
      refine az_sld (pc := 265) C hX h dL_law_265 (fun h => ?_)
      refine az_cV1pi (pc := 266) (c := 11) C hd1 h mv_X11_fault ml_L_31 rfl (fun x hx => A_X11_fault (by omega) hx) dL_law_266 (fun r23 h => ?_)
      refine az_icmp_eq (pc := 269) (tgt := 880) C h dL_law_269 (by decide) (fun _ h => ?_) (fun _ h => ?_)
      · refine az_ii3 (pc := 880) C az_n6 rfl rfl dL_law_880 ?_
        refine az_goto (pc := 883) (tgt := 18) C dL_law_883 (by decide) ?_
        exact (ih h)
      refine az_ik0 (pc := 272) C dL_law_272 ?_
      obtain rfl := Option.some.inj h
      exact az_zreturn (pc := 273) C (by decide) dL_law_273 rfl
    rcases az_ite h with ⟨c4, h⟩ | ⟨c4, h⟩
    · refine az_tswIn (pc := 33) (i := 4) (tgt := 274) C (by exact c4) (by decide) rfl dL_law_33 (by decide) ?_
      refine az_al1 (pc := 274) C rfl rfl dL_law_274 ?_
      refine az_al0 (pc := 275) C rfl rfl dL_law_275 ?_
      refine az_il3 (pc := 276) C dL_law_276 ?_
      refine az_ik1 (pc := 277) C dL_law_277 ?_
      refine az_iadd (pc := 278) C dL_law_278 ?_
      refine az_sld (pc := 279) C hX h dL_law_279 (fun h => ?_)
      refine az_cV1ii (pc := 280) (c := 10) C hd1 h mv_X10_many ml_L_32 rfl (fun x hx => A_X10_many (by omega) hx) dL_law_280 (fun r25 h => ?_)
      refine az_al2 (pc := 283) C rfl rfl dL_law_283 ?_
      refine az_al0 (pc := 284) C rfl rfl dL_law_284 ?_
      refine az_il3 (pc := 285) C dL_law_285 ?_
      refine az_ik1 (pc := 286) C dL_law_286 ?_
      refine az_iadd (pc := 287) C dL_law_287 ?_
      refine az_sld (pc := 288) C hX h dL_law_288 (fun h => ?_)
      refine az_cV1ii (pc := 289) (c := 11) C hd1 h mv_X11_many ml_L_35 rfl (fun x hx => A_X11_many (by omega) hx) dL_law_289 (fun r27 h => ?_)
      refine az_icmp_eq (pc := 292) (tgt := 880) C h dL_law_292 (by decide) (fun _ h => ?_) (fun _ h => ?_)
      · refine az_ii3 (pc := 880) C az_n6 rfl rfl dL_law_880 ?_
        refine az_goto (pc := 883) (tgt := 18) C dL_law_883 (by decide) ?_
        exact (ih h)
      refine az_ik0 (pc := 295) C dL_law_295 ?_
      obtain rfl := Option.some.inj h
      exact az_zreturn (pc := 296) C (by decide) dL_law_296 rfl
    rcases az_ite h with ⟨c5, h⟩ | ⟨c5, h⟩
    · refine az_tswIn (pc := 33) (i := 5) (tgt := 297) C (by exact c5) (by decide) rfl dL_law_33 (by decide) ?_
      refine az_al1 (pc := 297) C rfl rfl dL_law_297 ?_
      refine az_al0 (pc := 298) C rfl rfl dL_law_298 ?_
      refine az_il3 (pc := 299) C dL_law_299 ?_
      refine az_ik1 (pc := 300) C dL_law_300 ?_
      refine az_iadd (pc := 301) C dL_law_301 ?_
      refine az_sld (pc := 302) C hX h dL_law_302 (fun h => ?_)
      refine az_al0 (pc := 303) C rfl rfl dL_law_303 ?_
      refine az_il3 (pc := 304) C dL_law_304 ?_
      refine az_ik2 (pc := 305) C dL_law_305 ?_
      refine az_iadd (pc := 306) C dL_law_306 ?_
      refine az_sld (pc := 307) C hX h dL_law_307 (fun h => ?_)
      refine az_cV2ii (pc := 308) (c := 10) C hd1 h mv_X10_family ml_L_36 rfl (fun x hx => A_X10_family (by omega) n hx) dL_law_308 (fun r30 h => ?_)
      refine az_al2 (pc := 311) C rfl rfl dL_law_311 ?_
      refine az_al0 (pc := 312) C rfl rfl dL_law_312 ?_
      refine az_il3 (pc := 313) C dL_law_313 ?_
      refine az_ik1 (pc := 314) C dL_law_314 ?_
      refine az_iadd (pc := 315) C dL_law_315 ?_
      refine az_sld (pc := 316) C hX h dL_law_316 (fun h => ?_)
      refine az_al0 (pc := 317) C rfl rfl dL_law_317 ?_
      refine az_il3 (pc := 318) C dL_law_318 ?_
      refine az_ik2 (pc := 319) C dL_law_319 ?_
      refine az_iadd (pc := 320) C dL_law_320 ?_
      refine az_sld (pc := 321) C hX h dL_law_321 (fun h => ?_)
      refine az_cV2ii (pc := 322) (c := 11) C hd1 h mv_X11_family ml_L_40 rfl (fun x hx => A_X11_family (by omega) n hx) dL_law_322 (fun r33 h => ?_)
      refine az_icmp_eq (pc := 325) (tgt := 880) C h dL_law_325 (by decide) (fun _ h => ?_) (fun _ h => ?_)
      · refine az_ii3 (pc := 880) C az_n6 rfl rfl dL_law_880 ?_
        refine az_goto (pc := 883) (tgt := 18) C dL_law_883 (by decide) ?_
        exact (ih h)
      refine az_ik0 (pc := 328) C dL_law_328 ?_
      obtain rfl := Option.some.inj h
      exact az_zreturn (pc := 329) C (by decide) dL_law_329 rfl
    rcases az_ite h with ⟨c6, h⟩ | ⟨c6, h⟩
    · refine az_tswIn (pc := 33) (i := 6) (tgt := 330) C (by exact c6) (by decide) rfl dL_law_33 (by decide) ?_
      refine az_al1 (pc := 330) C rfl rfl dL_law_330 ?_
      refine az_al0 (pc := 331) C rfl rfl dL_law_331 ?_
      refine az_il3 (pc := 332) C dL_law_332 ?_
      refine az_ik1 (pc := 333) C dL_law_333 ?_
      refine az_iadd (pc := 334) C dL_law_334 ?_
      refine az_sld (pc := 335) C hX h dL_law_335 (fun h => ?_)
      refine az_al0 (pc := 336) C rfl rfl dL_law_336 ?_
      refine az_il3 (pc := 337) C dL_law_337 ?_
      refine az_ik2 (pc := 338) C dL_law_338 ?_
      refine az_iadd (pc := 339) C dL_law_339 ?_
      refine az_sld (pc := 340) C hX h dL_law_340 (fun h => ?_)
      refine az_cV2ii (pc := 341) (c := 10) C hd1 h mv_X10_equation ml_L_41 rfl (fun x hx => A_X10_equation (by omega) n hx) dL_law_341 (fun r36 h => ?_)
      refine az_al2 (pc := 344) C rfl rfl dL_law_344 ?_
      refine az_al0 (pc := 345) C rfl rfl dL_law_345 ?_
      refine az_il3 (pc := 346) C dL_law_346 ?_
      refine az_ik1 (pc := 347) C dL_law_347 ?_
      refine az_iadd (pc := 348) C dL_law_348 ?_
      refine az_sld (pc := 349) C hX h dL_law_349 (fun h => ?_)
      refine az_al0 (pc := 350) C rfl rfl dL_law_350 ?_
      refine az_il3 (pc := 351) C dL_law_351 ?_
      refine az_ik2 (pc := 352) C dL_law_352 ?_
      refine az_iadd (pc := 353) C dL_law_353 ?_
      refine az_sld (pc := 354) C hX h dL_law_354 (fun h => ?_)
      refine az_cV2ii (pc := 355) (c := 11) C hd1 h mv_X11_equation ml_L_44 rfl (fun x hx => A_X11_equation (by omega) n hx) dL_law_355 (fun r39 h => ?_)
      refine az_icmp_eq (pc := 358) (tgt := 880) C h dL_law_358 (by decide) (fun _ h => ?_) (fun _ h => ?_)
      · refine az_ii3 (pc := 880) C az_n6 rfl rfl dL_law_880 ?_
        refine az_goto (pc := 883) (tgt := 18) C dL_law_883 (by decide) ?_
        exact (ih h)
      refine az_ik0 (pc := 361) C dL_law_361 ?_
      obtain rfl := Option.some.inj h
      exact az_zreturn (pc := 362) C (by decide) dL_law_362 rfl
    rcases az_ite h with ⟨c7, h⟩ | ⟨c7, h⟩
    · refine az_tswIn (pc := 33) (i := 7) (tgt := 363) C (by exact c7) (by decide) rfl dL_law_33 (by decide) ?_
      refine az_al1 (pc := 363) C rfl rfl dL_law_363 ?_
      refine az_al0 (pc := 364) C rfl rfl dL_law_364 ?_
      refine az_il3 (pc := 365) C dL_law_365 ?_
      refine az_ik1 (pc := 366) C dL_law_366 ?_
      refine az_iadd (pc := 367) C dL_law_367 ?_
      refine az_sld (pc := 368) C hX h dL_law_368 (fun h => ?_)
      refine az_al0 (pc := 369) C rfl rfl dL_law_369 ?_
      refine az_il3 (pc := 370) C dL_law_370 ?_
      refine az_ik2 (pc := 371) C dL_law_371 ?_
      refine az_iadd (pc := 372) C dL_law_372 ?_
      refine az_sld (pc := 373) C hX h dL_law_373 (fun h => ?_)
      refine az_cV2ii (pc := 374) (c := 10) C hd1 h mv_X10_meets ml_L_45 rfl (fun x hx => A_X10_meets (by omega) n hx) dL_law_374 (fun r42 h => ?_)
      refine az_al2 (pc := 377) C rfl rfl dL_law_377 ?_
      refine az_al0 (pc := 378) C rfl rfl dL_law_378 ?_
      refine az_il3 (pc := 379) C dL_law_379 ?_
      refine az_ik1 (pc := 380) C dL_law_380 ?_
      refine az_iadd (pc := 381) C dL_law_381 ?_
      refine az_sld (pc := 382) C hX h dL_law_382 (fun h => ?_)
      refine az_al0 (pc := 383) C rfl rfl dL_law_383 ?_
      refine az_il3 (pc := 384) C dL_law_384 ?_
      refine az_ik2 (pc := 385) C dL_law_385 ?_
      refine az_iadd (pc := 386) C dL_law_386 ?_
      refine az_sld (pc := 387) C hX h dL_law_387 (fun h => ?_)
      refine az_cV2ii (pc := 388) (c := 11) C hd1 h mv_X11_meets ml_L_48 rfl (fun x hx => A_X11_meets (by omega) hx) dL_law_388 (fun r45 h => ?_)
      refine az_icmp_eq (pc := 391) (tgt := 880) C h dL_law_391 (by decide) (fun _ h => ?_) (fun _ h => ?_)
      · refine az_ii3 (pc := 880) C az_n6 rfl rfl dL_law_880 ?_
        refine az_goto (pc := 883) (tgt := 18) C dL_law_883 (by decide) ?_
        exact (ih h)
      refine az_ik0 (pc := 394) C dL_law_394 ?_
      obtain rfl := Option.some.inj h
      exact az_zreturn (pc := 395) C (by decide) dL_law_395 rfl
    rcases az_ite h with ⟨c8, h⟩ | ⟨c8, h⟩
    · refine az_tswIn (pc := 33) (i := 8) (tgt := 396) C (by exact c8) (by decide) rfl dL_law_33 (by decide) ?_
      refine az_al1 (pc := 396) C rfl rfl dL_law_396 ?_
      refine az_al0 (pc := 397) C rfl rfl dL_law_397 ?_
      refine az_il3 (pc := 398) C dL_law_398 ?_
      refine az_ik1 (pc := 399) C dL_law_399 ?_
      refine az_iadd (pc := 400) C dL_law_400 ?_
      refine az_sld (pc := 401) C hX h dL_law_401 (fun h => ?_)
      refine az_al0 (pc := 402) C rfl rfl dL_law_402 ?_
      refine az_il3 (pc := 403) C dL_law_403 ?_
      refine az_ik2 (pc := 404) C dL_law_404 ?_
      refine az_iadd (pc := 405) C dL_law_405 ?_
      refine az_sld (pc := 406) C hX h dL_law_406 (fun h => ?_)
      refine az_cV2ii (pc := 407) (c := 10) C hd1 h mv_X10_compatible ml_L_49 rfl (fun x hx => A_X10_compatible (by omega) hx) dL_law_407 (fun r48 h => ?_)
      refine az_al2 (pc := 410) C rfl rfl dL_law_410 ?_
      refine az_al0 (pc := 411) C rfl rfl dL_law_411 ?_
      refine az_il3 (pc := 412) C dL_law_412 ?_
      refine az_ik1 (pc := 413) C dL_law_413 ?_
      refine az_iadd (pc := 414) C dL_law_414 ?_
      refine az_sld (pc := 415) C hX h dL_law_415 (fun h => ?_)
      refine az_al0 (pc := 416) C rfl rfl dL_law_416 ?_
      refine az_il3 (pc := 417) C dL_law_417 ?_
      refine az_ik2 (pc := 418) C dL_law_418 ?_
      refine az_iadd (pc := 419) C dL_law_419 ?_
      refine az_sld (pc := 420) C hX h dL_law_420 (fun h => ?_)
      refine az_cV2ii (pc := 421) (c := 11) C hd1 h mv_X11_compatible ml_L_52 rfl (fun x hx => A_X11_compatible (by omega) hx) dL_law_421 (fun r51 h => ?_)
      refine az_icmp_eq (pc := 424) (tgt := 880) C h dL_law_424 (by decide) (fun _ h => ?_) (fun _ h => ?_)
      · refine az_ii3 (pc := 880) C az_n6 rfl rfl dL_law_880 ?_
        refine az_goto (pc := 883) (tgt := 18) C dL_law_883 (by decide) ?_
        exact (ih h)
      refine az_ik0 (pc := 427) C dL_law_427 ?_
      obtain rfl := Option.some.inj h
      exact az_zreturn (pc := 428) C (by decide) dL_law_428 rfl
    rcases az_ite h with ⟨c9, h⟩ | ⟨c9, h⟩
    · refine az_tswIn (pc := 33) (i := 9) (tgt := 429) C (by exact c9) (by decide) rfl dL_law_33 (by decide) ?_
      refine az_al1 (pc := 429) C rfl rfl dL_law_429 ?_
      refine az_al0 (pc := 430) C rfl rfl dL_law_430 ?_
      refine az_il3 (pc := 431) C dL_law_431 ?_
      refine az_ik1 (pc := 432) C dL_law_432 ?_
      refine az_iadd (pc := 433) C dL_law_433 ?_
      refine az_sld (pc := 434) C hX h dL_law_434 (fun h => ?_)
      refine az_al0 (pc := 435) C rfl rfl dL_law_435 ?_
      refine az_il3 (pc := 436) C dL_law_436 ?_
      refine az_ik2 (pc := 437) C dL_law_437 ?_
      refine az_iadd (pc := 438) C dL_law_438 ?_
      refine az_sld (pc := 439) C hX h dL_law_439 (fun h => ?_)
      refine az_al0 (pc := 440) C rfl rfl dL_law_440 ?_
      refine az_il3 (pc := 441) C dL_law_441 ?_
      refine az_ik3 (pc := 442) C dL_law_442 ?_
      refine az_iadd (pc := 443) C dL_law_443 ?_
      refine az_sld (pc := 444) C hX h dL_law_444 (fun h => ?_)
      refine az_cV3ii (pc := 445) (c := 10) C hd1 h mv_X10_ends ml_L_53 rfl (fun x hx => A_X10_ends (by omega) n hx) dL_law_445 (fun r55 h => ?_)
      refine az_al2 (pc := 448) C rfl rfl dL_law_448 ?_
      refine az_al0 (pc := 449) C rfl rfl dL_law_449 ?_
      refine az_il3 (pc := 450) C dL_law_450 ?_
      refine az_ik1 (pc := 451) C dL_law_451 ?_
      refine az_iadd (pc := 452) C dL_law_452 ?_
      refine az_sld (pc := 453) C hX h dL_law_453 (fun h => ?_)
      refine az_al0 (pc := 454) C rfl rfl dL_law_454 ?_
      refine az_il3 (pc := 455) C dL_law_455 ?_
      refine az_ik2 (pc := 456) C dL_law_456 ?_
      refine az_iadd (pc := 457) C dL_law_457 ?_
      refine az_sld (pc := 458) C hX h dL_law_458 (fun h => ?_)
      refine az_al0 (pc := 459) C rfl rfl dL_law_459 ?_
      refine az_il3 (pc := 460) C dL_law_460 ?_
      refine az_ik3 (pc := 461) C dL_law_461 ?_
      refine az_iadd (pc := 462) C dL_law_462 ?_
      refine az_sld (pc := 463) C hX h dL_law_463 (fun h => ?_)
      refine az_cV3ii (pc := 464) (c := 11) C hd1 h mv_X11_ends_ ml_L_57 rfl (fun x hx => A_X11_ends_ (by omega) n hx) dL_law_464 (fun r59 h => ?_)
      refine az_icmp_eq (pc := 467) (tgt := 880) C h dL_law_467 (by decide) (fun _ h => ?_) (fun _ h => ?_)
      · refine az_ii3 (pc := 880) C az_n6 rfl rfl dL_law_880 ?_
        refine az_goto (pc := 883) (tgt := 18) C dL_law_883 (by decide) ?_
        exact (ih h)
      refine az_ik0 (pc := 470) C dL_law_470 ?_
      obtain rfl := Option.some.inj h
      exact az_zreturn (pc := 471) C (by decide) dL_law_471 rfl
    rcases az_ite h with ⟨c10, h⟩ | ⟨c10, h⟩
    · refine az_tswIn (pc := 33) (i := 10) (tgt := 472) C (by exact c10) (by decide) rfl dL_law_33 (by decide) ?_
      refine az_al1 (pc := 472) C rfl rfl dL_law_472 ?_
      refine az_al0 (pc := 473) C rfl rfl dL_law_473 ?_
      refine az_il3 (pc := 474) C dL_law_474 ?_
      refine az_ik1 (pc := 475) C dL_law_475 ?_
      refine az_iadd (pc := 476) C dL_law_476 ?_
      refine az_sld (pc := 477) C hX h dL_law_477 (fun h => ?_)
      refine az_al0 (pc := 478) C rfl rfl dL_law_478 ?_
      refine az_il3 (pc := 479) C dL_law_479 ?_
      refine az_ik2 (pc := 480) C dL_law_480 ?_
      refine az_iadd (pc := 481) C dL_law_481 ?_
      refine az_sld (pc := 482) C hX h dL_law_482 (fun h => ?_)
      refine az_cV2ii (pc := 483) (c := 10) C hd1 h mv_X10_parts ml_L_58 rfl (fun x hx => A_X10_parts (by omega) n hx) dL_law_483 (fun r62 h => ?_)
      refine az_al2 (pc := 486) C rfl rfl dL_law_486 ?_
      refine az_al0 (pc := 487) C rfl rfl dL_law_487 ?_
      refine az_il3 (pc := 488) C dL_law_488 ?_
      refine az_ik1 (pc := 489) C dL_law_489 ?_
      refine az_iadd (pc := 490) C dL_law_490 ?_
      refine az_sld (pc := 491) C hX h dL_law_491 (fun h => ?_)
      refine az_al0 (pc := 492) C rfl rfl dL_law_492 ?_
      refine az_il3 (pc := 493) C dL_law_493 ?_
      refine az_ik2 (pc := 494) C dL_law_494 ?_
      refine az_iadd (pc := 495) C dL_law_495 ?_
      refine az_sld (pc := 496) C hX h dL_law_496 (fun h => ?_)
      refine az_cV2ii (pc := 497) (c := 11) C hd1 h mv_X11_parts ml_L_61 rfl (fun x hx => A_X11_parts (by omega) n hx) dL_law_497 (fun r65 h => ?_)
      refine az_icmp_eq (pc := 500) (tgt := 880) C h dL_law_500 (by decide) (fun _ h => ?_) (fun _ h => ?_)
      · refine az_ii3 (pc := 880) C az_n6 rfl rfl dL_law_880 ?_
        refine az_goto (pc := 883) (tgt := 18) C dL_law_883 (by decide) ?_
        exact (ih h)
      refine az_ik0 (pc := 503) C dL_law_503 ?_
      obtain rfl := Option.some.inj h
      exact az_zreturn (pc := 504) C (by decide) dL_law_504 rfl
    rcases az_ite h with ⟨c11, h⟩ | ⟨c11, h⟩
    · refine az_tswIn (pc := 33) (i := 11) (tgt := 505) C (by exact c11) (by decide) rfl dL_law_33 (by decide) ?_
      refine az_al1 (pc := 505) C rfl rfl dL_law_505 ?_
      refine az_al0 (pc := 506) C rfl rfl dL_law_506 ?_
      refine az_il3 (pc := 507) C dL_law_507 ?_
      refine az_ik1 (pc := 508) C dL_law_508 ?_
      refine az_iadd (pc := 509) C dL_law_509 ?_
      refine az_sld (pc := 510) C hX h dL_law_510 (fun h => ?_)
      refine az_al0 (pc := 511) C rfl rfl dL_law_511 ?_
      refine az_il3 (pc := 512) C dL_law_512 ?_
      refine az_ik2 (pc := 513) C dL_law_513 ?_
      refine az_iadd (pc := 514) C dL_law_514 ?_
      refine az_sld (pc := 515) C hX h dL_law_515 (fun h => ?_)
      refine az_cV2ii (pc := 516) (c := 10) C hd1 h mv_X10_bad ml_L_62 rfl (fun x hx => A_X10_bad (by omega) hx) dL_law_516 (fun r68 h => ?_)
      refine az_al2 (pc := 519) C rfl rfl dL_law_519 ?_
      refine az_al0 (pc := 520) C rfl rfl dL_law_520 ?_
      refine az_il3 (pc := 521) C dL_law_521 ?_
      refine az_ik1 (pc := 522) C dL_law_522 ?_
      refine az_iadd (pc := 523) C dL_law_523 ?_
      refine az_sld (pc := 524) C hX h dL_law_524 (fun h => ?_)
      refine az_al0 (pc := 525) C rfl rfl dL_law_525 ?_
      refine az_il3 (pc := 526) C dL_law_526 ?_
      refine az_ik2 (pc := 527) C dL_law_527 ?_
      refine az_iadd (pc := 528) C dL_law_528 ?_
      refine az_sld (pc := 529) C hX h dL_law_529 (fun h => ?_)
      refine az_cV2ii (pc := 530) (c := 11) C hd1 h mv_X11_bad_ ml_L_65 rfl (fun x hx => A_X11_bad_ (by omega) n hx) dL_law_530 (fun r71 h => ?_)
      refine az_icmp_eq (pc := 533) (tgt := 880) C h dL_law_533 (by decide) (fun _ h => ?_) (fun _ h => ?_)
      · refine az_ii3 (pc := 880) C az_n6 rfl rfl dL_law_880 ?_
        refine az_goto (pc := 883) (tgt := 18) C dL_law_883 (by decide) ?_
        exact (ih h)
      refine az_ik0 (pc := 536) C dL_law_536 ?_
      obtain rfl := Option.some.inj h
      exact az_zreturn (pc := 537) C (by decide) dL_law_537 rfl
    rcases az_ite h with ⟨c12, h⟩ | ⟨c12, h⟩
    · refine az_tswIn (pc := 33) (i := 12) (tgt := 538) C (by exact c12) (by decide) rfl dL_law_33 (by decide) ?_
      refine az_al1 (pc := 538) C rfl rfl dL_law_538 ?_
      refine az_al0 (pc := 539) C rfl rfl dL_law_539 ?_
      refine az_il3 (pc := 540) C dL_law_540 ?_
      refine az_ik1 (pc := 541) C dL_law_541 ?_
      refine az_iadd (pc := 542) C dL_law_542 ?_
      refine az_sld (pc := 543) C hX h dL_law_543 (fun h => ?_)
      refine az_cV1ii (pc := 544) (c := 10) C hd1 h mv_X10_term ml_L_66 rfl (fun x hx => A_X10_term (by omega) n hx) dL_law_544 (fun r73 h => ?_)
      refine az_al2 (pc := 547) C rfl rfl dL_law_547 ?_
      refine az_al0 (pc := 548) C rfl rfl dL_law_548 ?_
      refine az_il3 (pc := 549) C dL_law_549 ?_
      refine az_ik1 (pc := 550) C dL_law_550 ?_
      refine az_iadd (pc := 551) C dL_law_551 ?_
      refine az_sld (pc := 552) C hX h dL_law_552 (fun h => ?_)
      refine az_cV1ii (pc := 553) (c := 11) C hd1 h mv_X11_term ml_L_69 rfl (fun x hx => A_X11_term (by omega) n hx) dL_law_553 (fun r75 h => ?_)
      refine az_icmp_eq (pc := 556) (tgt := 880) C h dL_law_556 (by decide) (fun _ h => ?_) (fun _ h => ?_)
      · refine az_ii3 (pc := 880) C az_n6 rfl rfl dL_law_880 ?_
        refine az_goto (pc := 883) (tgt := 18) C dL_law_883 (by decide) ?_
        exact (ih h)
      refine az_ik0 (pc := 559) C dL_law_559 ?_
      obtain rfl := Option.some.inj h
      exact az_zreturn (pc := 560) C (by decide) dL_law_560 rfl
    rcases az_ite h with ⟨c13, h⟩ | ⟨c13, h⟩
    · refine az_tswIn (pc := 33) (i := 13) (tgt := 561) C (by exact c13) (by decide) rfl dL_law_33 (by decide) ?_
      refine az_al1 (pc := 561) C rfl rfl dL_law_561 ?_
      refine az_al0 (pc := 562) C rfl rfl dL_law_562 ?_
      refine az_il3 (pc := 563) C dL_law_563 ?_
      refine az_ik1 (pc := 564) C dL_law_564 ?_
      refine az_iadd (pc := 565) C dL_law_565 ?_
      refine az_sld (pc := 566) C hX h dL_law_566 (fun h => ?_)
      refine az_cV1ii (pc := 567) (c := 10) C hd1 h mv_X10_now ml_L_70 rfl (fun x hx => A_X10_now (by omega) n hx) dL_law_567 (fun r77 h => ?_)
      refine az_al2 (pc := 570) C rfl rfl dL_law_570 ?_
      refine az_al0 (pc := 571) C rfl rfl dL_law_571 ?_
      refine az_il3 (pc := 572) C dL_law_572 ?_
      refine az_ik1 (pc := 573) C dL_law_573 ?_
      refine az_iadd (pc := 574) C dL_law_574 ?_
      refine az_sld (pc := 575) C hX h dL_law_575 (fun h => ?_)
      refine az_cV1ii (pc := 576) (c := 11) C hd1 h mv_X11_now ml_L_73 rfl (fun x hx => A_X11_now (by omega) n hx) dL_law_576 (fun r79 h => ?_)
      refine az_icmp_eq (pc := 579) (tgt := 880) C h dL_law_579 (by decide) (fun _ h => ?_) (fun _ h => ?_)
      · refine az_ii3 (pc := 880) C az_n6 rfl rfl dL_law_880 ?_
        refine az_goto (pc := 883) (tgt := 18) C dL_law_883 (by decide) ?_
        exact (ih h)
      refine az_ik0 (pc := 582) C dL_law_582 ?_
      obtain rfl := Option.some.inj h
      exact az_zreturn (pc := 583) C (by decide) dL_law_583 rfl
    rcases az_ite h with ⟨c14, h⟩ | ⟨c14, h⟩
    · refine az_tswIn (pc := 33) (i := 14) (tgt := 584) C (by exact c14) (by decide) rfl dL_law_33 (by decide) ?_
      refine az_al1 (pc := 584) C rfl rfl dL_law_584 ?_
      refine az_al0 (pc := 585) C rfl rfl dL_law_585 ?_
      refine az_il3 (pc := 586) C dL_law_586 ?_
      refine az_ik1 (pc := 587) C dL_law_587 ?_
      refine az_iadd (pc := 588) C dL_law_588 ?_
      refine az_sld (pc := 589) C hX h dL_law_589 (fun h => ?_)
      refine az_al0 (pc := 590) C rfl rfl dL_law_590 ?_
      refine az_il3 (pc := 591) C dL_law_591 ?_
      refine az_ik2 (pc := 592) C dL_law_592 ?_
      refine az_iadd (pc := 593) C dL_law_593 ?_
      refine az_sld (pc := 594) C hX h dL_law_594 (fun h => ?_)
      refine az_cV2ii (pc := 595) (c := 10) C hd1 h mv_X10_node ml_L_74 rfl (fun x hx => A_X10_node (by omega) n hx) dL_law_595 (fun r82 h => ?_)
      refine az_al2 (pc := 598) C rfl rfl dL_law_598 ?_
      refine az_al0 (pc := 599) C rfl rfl dL_law_599 ?_
      refine az_il3 (pc := 600) C dL_law_600 ?_
      refine az_ik1 (pc := 601) C dL_law_601 ?_
      refine az_iadd (pc := 602) C dL_law_602 ?_
      refine az_sld (pc := 603) C hX h dL_law_603 (fun h => ?_)
      refine az_al0 (pc := 604) C rfl rfl dL_law_604 ?_
      refine az_il3 (pc := 605) C dL_law_605 ?_
      refine az_ik2 (pc := 606) C dL_law_606 ?_
      refine az_iadd (pc := 607) C dL_law_607 ?_
      refine az_sld (pc := 608) C hX h dL_law_608 (fun h => ?_)
      refine az_cV2ii (pc := 609) (c := 11) C hd1 h mv_X11_node ml_L_77 rfl (fun x hx => A_X11_node (by omega) n hx) dL_law_609 (fun r85 h => ?_)
      refine az_icmp_eq (pc := 612) (tgt := 880) C h dL_law_612 (by decide) (fun _ h => ?_) (fun _ h => ?_)
      · refine az_ii3 (pc := 880) C az_n6 rfl rfl dL_law_880 ?_
        refine az_goto (pc := 883) (tgt := 18) C dL_law_883 (by decide) ?_
        exact (ih h)
      refine az_ik0 (pc := 615) C dL_law_615 ?_
      obtain rfl := Option.some.inj h
      exact az_zreturn (pc := 616) C (by decide) dL_law_616 rfl
    rcases az_ite h with ⟨c15, h⟩ | ⟨c15, h⟩
    · refine az_tswIn (pc := 33) (i := 15) (tgt := 617) C (by exact c15) (by decide) rfl dL_law_33 (by decide) ?_
      refine az_al1 (pc := 617) C rfl rfl dL_law_617 ?_
      refine az_al0 (pc := 618) C rfl rfl dL_law_618 ?_
      refine az_il3 (pc := 619) C dL_law_619 ?_
      refine az_ik1 (pc := 620) C dL_law_620 ?_
      refine az_iadd (pc := 621) C dL_law_621 ?_
      refine az_sld (pc := 622) C hX h dL_law_622 (fun h => ?_)
      refine az_al0 (pc := 623) C rfl rfl dL_law_623 ?_
      refine az_il3 (pc := 624) C dL_law_624 ?_
      refine az_ik2 (pc := 625) C dL_law_625 ?_
      refine az_iadd (pc := 626) C dL_law_626 ?_
      refine az_sld (pc := 627) C hX h dL_law_627 (fun h => ?_)
      refine az_cV2ii (pc := 628) (c := 10) C hd1 h mv_X10_why ml_L_78 rfl (fun x hx => A_X10_why (by omega) n hx) dL_law_628 (fun r88 h => ?_)
      refine az_al2 (pc := 631) C rfl rfl dL_law_631 ?_
      refine az_al0 (pc := 632) C rfl rfl dL_law_632 ?_
      refine az_il3 (pc := 633) C dL_law_633 ?_
      refine az_ik1 (pc := 634) C dL_law_634 ?_
      refine az_iadd (pc := 635) C dL_law_635 ?_
      refine az_sld (pc := 636) C hX h dL_law_636 (fun h => ?_)
      refine az_al0 (pc := 637) C rfl rfl dL_law_637 ?_
      refine az_il3 (pc := 638) C dL_law_638 ?_
      refine az_ik2 (pc := 639) C dL_law_639 ?_
      refine az_iadd (pc := 640) C dL_law_640 ?_
      refine az_sld (pc := 641) C hX h dL_law_641 (fun h => ?_)
      refine az_cV2ii (pc := 642) (c := 11) C hd1 h mv_X11_why ml_L_81 rfl (fun x hx => A_X11_why (by omega) n hx) dL_law_642 (fun r91 h => ?_)
      refine az_icmp_eq (pc := 645) (tgt := 880) C h dL_law_645 (by decide) (fun _ h => ?_) (fun _ h => ?_)
      · refine az_ii3 (pc := 880) C az_n6 rfl rfl dL_law_880 ?_
        refine az_goto (pc := 883) (tgt := 18) C dL_law_883 (by decide) ?_
        exact (ih h)
      refine az_ik0 (pc := 648) C dL_law_648 ?_
      obtain rfl := Option.some.inj h
      exact az_zreturn (pc := 649) C (by decide) dL_law_649 rfl
    rcases az_ite h with ⟨c16, h⟩ | ⟨c16, h⟩
    · refine az_tswIn (pc := 33) (i := 16) (tgt := 650) C (by exact c16) (by decide) rfl dL_law_33 (by decide) ?_
      refine az_al1 (pc := 650) C rfl rfl dL_law_650 ?_
      refine az_al0 (pc := 651) C rfl rfl dL_law_651 ?_
      refine az_il3 (pc := 652) C dL_law_652 ?_
      refine az_ik1 (pc := 653) C dL_law_653 ?_
      refine az_iadd (pc := 654) C dL_law_654 ?_
      refine az_sld (pc := 655) C hX h dL_law_655 (fun h => ?_)
      refine az_al0 (pc := 656) C rfl rfl dL_law_656 ?_
      refine az_il3 (pc := 657) C dL_law_657 ?_
      refine az_ik2 (pc := 658) C dL_law_658 ?_
      refine az_iadd (pc := 659) C dL_law_659 ?_
      refine az_sld (pc := 660) C hX h dL_law_660 (fun h => ?_)
      refine az_cV2ii (pc := 661) (c := 10) C hd1 h mv_X10_still ml_L_82 rfl (fun x hx => A_X10_still (by omega) n hx) dL_law_661 (fun r94 h => ?_)
      refine az_al2 (pc := 664) C rfl rfl dL_law_664 ?_
      refine az_al0 (pc := 665) C rfl rfl dL_law_665 ?_
      refine az_il3 (pc := 666) C dL_law_666 ?_
      refine az_ik1 (pc := 667) C dL_law_667 ?_
      refine az_iadd (pc := 668) C dL_law_668 ?_
      refine az_sld (pc := 669) C hX h dL_law_669 (fun h => ?_)
      refine az_al0 (pc := 670) C rfl rfl dL_law_670 ?_
      refine az_il3 (pc := 671) C dL_law_671 ?_
      refine az_ik2 (pc := 672) C dL_law_672 ?_
      refine az_iadd (pc := 673) C dL_law_673 ?_
      refine az_sld (pc := 674) C hX h dL_law_674 (fun h => ?_)
      refine az_cV2ii (pc := 675) (c := 11) C hd1 h mv_X11_still ml_L_85 rfl (fun x hx => A_X11_still (by omega) n hx) dL_law_675 (fun r97 h => ?_)
      refine az_icmp_eq (pc := 678) (tgt := 880) C h dL_law_678 (by decide) (fun _ h => ?_) (fun _ h => ?_)
      · refine az_ii3 (pc := 880) C az_n6 rfl rfl dL_law_880 ?_
        refine az_goto (pc := 883) (tgt := 18) C dL_law_883 (by decide) ?_
        exact (ih h)
      refine az_ik0 (pc := 681) C dL_law_681 ?_
      obtain rfl := Option.some.inj h
      exact az_zreturn (pc := 682) C (by decide) dL_law_682 rfl
    rcases az_ite h with ⟨c17, h⟩ | ⟨c17, h⟩
    · refine az_tswIn (pc := 33) (i := 17) (tgt := 683) C (by exact c17) (by decide) rfl dL_law_33 (by decide) ?_
      refine az_al1 (pc := 683) C rfl rfl dL_law_683 ?_
      refine az_al0 (pc := 684) C rfl rfl dL_law_684 ?_
      refine az_il3 (pc := 685) C dL_law_685 ?_
      refine az_ik1 (pc := 686) C dL_law_686 ?_
      refine az_iadd (pc := 687) C dL_law_687 ?_
      refine az_sld (pc := 688) C hX h dL_law_688 (fun h => ?_)
      refine az_cV1ii (pc := 689) (c := 10) C hd1 h mv_X10_step ml_L_86 rfl (fun x hx => A_X10_step (by omega) n hx) dL_law_689 (fun r99 h => ?_)
      refine az_al2 (pc := 692) C rfl rfl dL_law_692 ?_
      refine az_al0 (pc := 693) C rfl rfl dL_law_693 ?_
      refine az_il3 (pc := 694) C dL_law_694 ?_
      refine az_ik1 (pc := 695) C dL_law_695 ?_
      refine az_iadd (pc := 696) C dL_law_696 ?_
      refine az_sld (pc := 697) C hX h dL_law_697 (fun h => ?_)
      refine az_cV1ii (pc := 698) (c := 11) C hd1 h mv_X11_step ml_L_89 rfl (fun x hx => A_X11_step (by omega) n hx) dL_law_698 (fun r101 h => ?_)
      refine az_icmp_eq (pc := 701) (tgt := 880) C h dL_law_701 (by decide) (fun _ h => ?_) (fun _ h => ?_)
      · refine az_ii3 (pc := 880) C az_n6 rfl rfl dL_law_880 ?_
        refine az_goto (pc := 883) (tgt := 18) C dL_law_883 (by decide) ?_
        exact (ih h)
      refine az_ik0 (pc := 704) C dL_law_704 ?_
      obtain rfl := Option.some.inj h
      exact az_zreturn (pc := 705) C (by decide) dL_law_705 rfl
    rcases az_ite h with ⟨c18, h⟩ | ⟨c18, h⟩
    · refine az_tswIn (pc := 33) (i := 18) (tgt := 706) C (by exact c18) (by decide) rfl dL_law_33 (by decide) ?_
      refine az_al1 (pc := 706) C rfl rfl dL_law_706 ?_
      refine az_al0 (pc := 707) C rfl rfl dL_law_707 ?_
      refine az_il3 (pc := 708) C dL_law_708 ?_
      refine az_ik1 (pc := 709) C dL_law_709 ?_
      refine az_iadd (pc := 710) C dL_law_710 ?_
      refine az_sld (pc := 711) C hX h dL_law_711 (fun h => ?_)
      refine az_cV1ii (pc := 712) (c := 10) C hd1 h mv_X10_reduce ml_L_90 rfl (fun x hx => A_X10_reduce (by omega) n hx) dL_law_712 (fun r103 h => ?_)
      refine az_al2 (pc := 715) C rfl rfl dL_law_715 ?_
      refine az_al0 (pc := 716) C rfl rfl dL_law_716 ?_
      refine az_il3 (pc := 717) C dL_law_717 ?_
      refine az_ik1 (pc := 718) C dL_law_718 ?_
      refine az_iadd (pc := 719) C dL_law_719 ?_
      refine az_sld (pc := 720) C hX h dL_law_720 (fun h => ?_)
      refine az_cV1ii (pc := 721) (c := 11) C hd1 h mv_X11_reduce ml_L_93 rfl (fun x hx => A_X11_reduce (by omega) n hx) dL_law_721 (fun r105 h => ?_)
      refine az_icmp_eq (pc := 724) (tgt := 880) C h dL_law_724 (by decide) (fun _ h => ?_) (fun _ h => ?_)
      · refine az_ii3 (pc := 880) C az_n6 rfl rfl dL_law_880 ?_
        refine az_goto (pc := 883) (tgt := 18) C dL_law_883 (by decide) ?_
        exact (ih h)
      refine az_ik0 (pc := 727) C dL_law_727 ?_
      obtain rfl := Option.some.inj h
      exact az_zreturn (pc := 728) C (by decide) dL_law_728 rfl
    rcases az_ite h with ⟨c19, h⟩ | ⟨c19, h⟩
    · refine az_tswIn (pc := 33) (i := 19) (tgt := 729) C (by exact c19) (by decide) rfl dL_law_33 (by decide) ?_
      refine az_al1 (pc := 729) C rfl rfl dL_law_729 ?_
      refine az_al0 (pc := 730) C rfl rfl dL_law_730 ?_
      refine az_il3 (pc := 731) C dL_law_731 ?_
      refine az_ik1 (pc := 732) C dL_law_732 ?_
      refine az_iadd (pc := 733) C dL_law_733 ?_
      refine az_sld (pc := 734) C hX h dL_law_734 (fun h => ?_)
      refine az_al0 (pc := 735) C rfl rfl dL_law_735 ?_
      refine az_il3 (pc := 736) C dL_law_736 ?_
      refine az_ik2 (pc := 737) C dL_law_737 ?_
      refine az_iadd (pc := 738) C dL_law_738 ?_
      refine az_sld (pc := 739) C hX h dL_law_739 (fun h => ?_)
      refine az_cV2ii (pc := 740) (c := 10) C hd1 h mv_X10_would ml_L_94 rfl (fun x hx => A_X10_would (by omega) n hx) dL_law_740 (fun r108 h => ?_)
      refine az_al2 (pc := 743) C rfl rfl dL_law_743 ?_
      refine az_al0 (pc := 744) C rfl rfl dL_law_744 ?_
      refine az_il3 (pc := 745) C dL_law_745 ?_
      refine az_ik1 (pc := 746) C dL_law_746 ?_
      refine az_iadd (pc := 747) C dL_law_747 ?_
      refine az_sld (pc := 748) C hX h dL_law_748 (fun h => ?_)
      refine az_al0 (pc := 749) C rfl rfl dL_law_749 ?_
      refine az_il3 (pc := 750) C dL_law_750 ?_
      refine az_ik2 (pc := 751) C dL_law_751 ?_
      refine az_iadd (pc := 752) C dL_law_752 ?_
      refine az_sld (pc := 753) C hX h dL_law_753 (fun h => ?_)
      refine az_cV2ii (pc := 754) (c := 11) C hd1 h mv_X11_would ml_L_97 rfl (fun x hx => A_X11_would (by omega) n hx) dL_law_754 (fun r111 h => ?_)
      refine az_icmp_eq (pc := 757) (tgt := 880) C h dL_law_757 (by decide) (fun _ h => ?_) (fun _ h => ?_)
      · refine az_ii3 (pc := 880) C az_n6 rfl rfl dL_law_880 ?_
        refine az_goto (pc := 883) (tgt := 18) C dL_law_883 (by decide) ?_
        exact (ih h)
      refine az_ik0 (pc := 760) C dL_law_760 ?_
      obtain rfl := Option.some.inj h
      exact az_zreturn (pc := 761) C (by decide) dL_law_761 rfl
    rcases az_ite h with ⟨c20, h⟩ | ⟨c20, h⟩
    · refine az_tswIn (pc := 33) (i := 20) (tgt := 762) C (by exact c20) (by decide) rfl dL_law_33 (by decide) ?_
      refine az_al1 (pc := 762) C rfl rfl dL_law_762 ?_
      refine az_cV0ii (pc := 763) (c := 10) C hd1 h mv_X10_period ml_L_98 rfl (fun x hx => A_X10_period (by omega) hx) dL_law_763 (fun r112 h => ?_)
      refine az_al2 (pc := 766) C rfl rfl dL_law_766 ?_
      refine az_cV0ii (pc := 767) (c := 11) C hd1 h mv_X11_period ml_L_101 rfl (fun x hx => A_X11_period (by omega) hx) dL_law_767 (fun r113 h => ?_)
      refine az_icmp_eq (pc := 770) (tgt := 880) C h dL_law_770 (by decide) (fun _ h => ?_) (fun _ h => ?_)
      · refine az_ii3 (pc := 880) C az_n6 rfl rfl dL_law_880 ?_
        refine az_goto (pc := 883) (tgt := 18) C dL_law_883 (by decide) ?_
        exact (ih h)
      refine az_ik0 (pc := 773) C dL_law_773 ?_
      obtain rfl := Option.some.inj h
      exact az_zreturn (pc := 774) C (by decide) dL_law_774 rfl
    rcases az_ite h with ⟨c21, h⟩ | ⟨c21, h⟩
    · refine az_tswIn (pc := 33) (i := 21) (tgt := 775) C (by exact c21) (by decide) rfl dL_law_33 (by decide) ?_
      refine az_al1 (pc := 775) C rfl rfl dL_law_775 ?_
      refine az_cV0ii (pc := 776) (c := 10) C hd1 h mv_X10_print ml_L_102 rfl (fun x hx => A_X10_print (by omega) n hx) dL_law_776 (fun r114 h => ?_)
      refine az_al2 (pc := 779) C rfl rfl dL_law_779 ?_
      refine az_cV0ii (pc := 780) (c := 11) C hd1 h mv_X11_print ml_L_105 rfl (fun x hx => A_X11_print (by omega) n hx) dL_law_780 (fun r115 h => ?_)
      refine az_icmp_eq (pc := 783) (tgt := 880) C h dL_law_783 (by decide) (fun _ h => ?_) (fun _ h => ?_)
      · refine az_ii3 (pc := 880) C az_n6 rfl rfl dL_law_880 ?_
        refine az_goto (pc := 883) (tgt := 18) C dL_law_883 (by decide) ?_
        exact (ih h)
      refine az_ik0 (pc := 786) C dL_law_786 ?_
      obtain rfl := Option.some.inj h
      exact az_zreturn (pc := 787) C (by decide) dL_law_787 rfl
    rcases az_ite h with ⟨c22, h⟩ | ⟨c22, h⟩
    · refine az_tswIn (pc := 33) (i := 22) (tgt := 788) C (by exact c22) (by decide) rfl dL_law_33 (by decide) ?_
      refine az_al1 (pc := 788) C rfl rfl dL_law_788 ?_
      refine az_al0 (pc := 789) C rfl rfl dL_law_789 ?_
      refine az_il3 (pc := 790) C dL_law_790 ?_
      refine az_ik1 (pc := 791) C dL_law_791 ?_
      refine az_iadd (pc := 792) C dL_law_792 ?_
      refine az_sld (pc := 793) C hX h dL_law_793 (fun h => ?_)
      refine az_cV1ii (pc := 794) (c := 10) C hd1 h mv_X10_out ml_L_106 rfl (fun x hx => A_X10_out (by omega) hx) dL_law_794 (fun r117 h => ?_)
      refine az_al2 (pc := 797) C rfl rfl dL_law_797 ?_
      refine az_al0 (pc := 798) C rfl rfl dL_law_798 ?_
      refine az_il3 (pc := 799) C dL_law_799 ?_
      refine az_ik1 (pc := 800) C dL_law_800 ?_
      refine az_iadd (pc := 801) C dL_law_801 ?_
      refine az_sld (pc := 802) C hX h dL_law_802 (fun h => ?_)
      refine az_cV1ii (pc := 803) (c := 11) C hd1 h mv_X11_out ml_L_109 rfl (fun x hx => A_X11_out (by omega) hx) dL_law_803 (fun r119 h => ?_)
      refine az_icmp_eq (pc := 806) (tgt := 880) C h dL_law_806 (by decide) (fun _ h => ?_) (fun _ h => ?_)
      · refine az_ii3 (pc := 880) C az_n6 rfl rfl dL_law_880 ?_
        refine az_goto (pc := 883) (tgt := 18) C dL_law_883 (by decide) ?_
        exact (ih h)
      refine az_ik0 (pc := 809) C dL_law_809 ?_
      obtain rfl := Option.some.inj h
      exact az_zreturn (pc := 810) C (by decide) dL_law_810 rfl
    rcases az_ite h with ⟨c23, h⟩ | ⟨c23, h⟩
    · refine az_tswIn (pc := 33) (i := 23) (tgt := 811) C (by exact c23) (by decide) rfl dL_law_33 (by decide) ?_
      refine az_al1 (pc := 811) C rfl rfl dL_law_811 ?_
      refine az_al0 (pc := 812) C rfl rfl dL_law_812 ?_
      refine az_il3 (pc := 813) C dL_law_813 ?_
      refine az_ik1 (pc := 814) C dL_law_814 ?_
      refine az_iadd (pc := 815) C dL_law_815 ?_
      refine az_sld (pc := 816) C hX h dL_law_816 (fun h => ?_)
      refine az_cV1ii (pc := 817) (c := 10) C hd1 h mv_X10_want ml_L_110 rfl (fun x hx => A_X10_want (by omega) n hx) dL_law_817 (fun r121 h => ?_)
      refine az_al2 (pc := 820) C rfl rfl dL_law_820 ?_
      refine az_al0 (pc := 821) C rfl rfl dL_law_821 ?_
      refine az_il3 (pc := 822) C dL_law_822 ?_
      refine az_ik1 (pc := 823) C dL_law_823 ?_
      refine az_iadd (pc := 824) C dL_law_824 ?_
      refine az_sld (pc := 825) C hX h dL_law_825 (fun h => ?_)
      refine az_cV1ii (pc := 826) (c := 11) C hd1 h mv_X11_want ml_L_113 rfl (fun x hx => A_X11_want (by omega) n hx) dL_law_826 (fun r123 h => ?_)
      refine az_icmp_eq (pc := 829) (tgt := 880) C h dL_law_829 (by decide) (fun _ h => ?_) (fun _ h => ?_)
      · refine az_ii3 (pc := 880) C az_n6 rfl rfl dL_law_880 ?_
        refine az_goto (pc := 883) (tgt := 18) C dL_law_883 (by decide) ?_
        exact (ih h)
      refine az_ik0 (pc := 832) C dL_law_832 ?_
      obtain rfl := Option.some.inj h
      exact az_zreturn (pc := 833) C (by decide) dL_law_833 rfl
    rcases az_ite h with ⟨c24, h⟩ | ⟨c24, h⟩
    · refine az_tswIn (pc := 33) (i := 24) (tgt := 834) C (by exact c24) (by decide) rfl dL_law_33 (by decide) ?_
      refine az_al1 (pc := 834) C rfl rfl dL_law_834 ?_
      refine az_al0 (pc := 835) C rfl rfl dL_law_835 ?_
      refine az_il3 (pc := 836) C dL_law_836 ?_
      refine az_ik1 (pc := 837) C dL_law_837 ?_
      refine az_iadd (pc := 838) C dL_law_838 ?_
      refine az_sld (pc := 839) C hX h dL_law_839 (fun h => ?_)
      refine az_cV1ii (pc := 840) (c := 10) C hd1 h mv_X10_wanted ml_L_114 rfl (fun x hx => A_X10_wanted (by omega) hx) dL_law_840 (fun r125 h => ?_)
      refine az_al2 (pc := 843) C rfl rfl dL_law_843 ?_
      refine az_al0 (pc := 844) C rfl rfl dL_law_844 ?_
      refine az_il3 (pc := 845) C dL_law_845 ?_
      refine az_ik1 (pc := 846) C dL_law_846 ?_
      refine az_iadd (pc := 847) C dL_law_847 ?_
      refine az_sld (pc := 848) C hX h dL_law_848 (fun h => ?_)
      refine az_cV1ii (pc := 849) (c := 11) C hd1 h mv_X11_wanted ml_L_117 rfl (fun x hx => A_X11_wanted (by omega) n hx) dL_law_849 (fun r127 h => ?_)
      refine az_icmp_eq (pc := 852) (tgt := 880) C h dL_law_852 (by decide) (fun _ h => ?_) (fun _ h => ?_)
      · refine az_ii3 (pc := 880) C az_n6 rfl rfl dL_law_880 ?_
        refine az_goto (pc := 883) (tgt := 18) C dL_law_883 (by decide) ?_
        exact (ih h)
      refine az_ik0 (pc := 855) C dL_law_855 ?_
      obtain rfl := Option.some.inj h
      exact az_zreturn (pc := 856) C (by decide) dL_law_856 rfl
    rcases az_ite h with ⟨c25, h⟩ | ⟨c25, h⟩
    · refine az_tswIn (pc := 33) (i := 25) (tgt := 857) C (by exact c25) (by decide) rfl dL_law_33 (by decide) ?_
      refine az_al1 (pc := 857) C rfl rfl dL_law_857 ?_
      refine az_al0 (pc := 858) C rfl rfl dL_law_858 ?_
      refine az_il3 (pc := 859) C dL_law_859 ?_
      refine az_ik1 (pc := 860) C dL_law_860 ?_
      refine az_iadd (pc := 861) C dL_law_861 ?_
      refine az_sld (pc := 862) C hX h dL_law_862 (fun h => ?_)
      refine az_cV1ii (pc := 863) (c := 10) C hd1 h mv_X10_unknown ml_L_118 rfl (fun x hx => A_X10_unknown (by omega) n hx) dL_law_863 (fun r129 h => ?_)
      refine az_al2 (pc := 866) C rfl rfl dL_law_866 ?_
      refine az_al0 (pc := 867) C rfl rfl dL_law_867 ?_
      refine az_il3 (pc := 868) C dL_law_868 ?_
      refine az_ik1 (pc := 869) C dL_law_869 ?_
      refine az_iadd (pc := 870) C dL_law_870 ?_
      refine az_sld (pc := 871) C hX h dL_law_871 (fun h => ?_)
      refine az_cV1ii (pc := 872) (c := 11) C hd1 h mv_X11_unknown ml_L_121 rfl (fun x hx => A_X11_unknown (by omega) n hx) dL_law_872 (fun r131 h => ?_)
      refine az_icmp_eq (pc := 875) (tgt := 880) C h dL_law_875 (by decide) (fun _ h => ?_) (fun _ h => ?_)
      · refine az_ii3 (pc := 880) C az_n6 rfl rfl dL_law_880 ?_
        refine az_goto (pc := 883) (tgt := 18) C dL_law_883 (by decide) ?_
        exact (ih h)
      refine az_ik0 (pc := 878) C dL_law_878 ?_
      obtain rfl := Option.some.inj h
      exact az_zreturn (pc := 879) C (by decide) dL_law_879 rfl
    refine az_tswOut (pc := 33) (tgt := 880) C (by omega) dL_law_33 (by decide) ?_
    refine az_ii3 (pc := 880) C az_n6 rfl rfl dL_law_880 ?_
    refine az_goto (pc := 883) (tgt := 18) C dL_law_883 (by decide) ?_
    exact (ih h)
set_option maxRecDepth 10000 in
set_option maxHeartbeats 4000000 in
theorem A_L_law {Z : az_Z} {d : Nat} (C : az_C Z yL_law cL_law 4 (some .boolean) d) (hD : 421 ≤ d) {xl : Int} {xs : Int → Int} {bb : Int} (hX : az_X Z bb xl xs) (n : Nat) {σ : az_Hp} {r : (Int × az_Hp)} (h : fz_L_law xl xs n σ = some r) : az_AW Z 4 0 [(30, bb), (31, 0), (31, 0), (31, 0)] [] σ (some (0, r.1), r.2) := by
  have hd1 : 1 ≤ d := by omega
  unfold fz_L_law at h
  refine az_newc (pc := 0) C h az_cl10 rfl cl_L_7 az_inst10 az_ini10 dL_law_0 (fun h => ?_)
  refine az_dup (pc := 3) C rfl rfl dL_law_3 ?_
  refine az_cI0 (pc := 4) (c := 10) C hd1 h mi_X10_init ml_L_9 rfl rfl (fun x hx => A_X10_init (by omega) n hx) dL_law_4 (fun r2 h => ?_)
  refine az_as1 (pc := 7) C rfl rfl rfl rfl dL_law_7 ?_
  refine az_newc (pc := 8) C h az_cl11 rfl cl_L_10 az_inst11 az_ini11 dL_law_8 (fun h => ?_)
  refine az_dup (pc := 11) C rfl rfl dL_law_11 ?_
  refine az_cI0 (pc := 12) (c := 11) C hd1 h mi_X11_init ml_L_12 rfl rfl (fun x hx => A_X11_init (by omega) hx) dL_law_12 (fun r4 h => ?_)
  refine az_as2 (pc := 15) C rfl rfl rfl rfl dL_law_15 ?_
  refine az_ik0 (pc := 16) C dL_law_16 ?_
  refine az_is3 (pc := 17) C rfl rfl dL_law_17 ?_
  exact (A_L_law_18 C hD hX n n h)
