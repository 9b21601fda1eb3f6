theorem d_law_0 : decode code 0 = .ok (.new 7, 3) := by decide +kernel
theorem d_law_3 : decode code 3 = .ok (.dup, 1) := by decide +kernel
theorem d_law_4 : decode code 4 = .ok (.invokespecial 9, 3) := by decide +kernel
theorem d_law_7 : decode code 7 = .ok (.astore_n 1, 1) := by decide +kernel
theorem d_law_8 : decode code 8 = .ok (.new 10, 3) := by decide +kernel
theorem d_law_11 : decode code 11 = .ok (.dup, 1) := by decide +kernel
theorem d_law_12 : decode code 12 = .ok (.invokespecial 12, 3) := by decide +kernel
theorem d_law_15 : decode code 15 = .ok (.astore_n 2, 1) := by decide +kernel
theorem d_law_16 : decode code 16 = .ok (.iconst 0, 1) := by decide +kernel
theorem d_law_17 : decode code 17 = .ok (.istore_n 3, 1) := by decide +kernel
theorem d_law_18 : decode code 18 = .ok (.iload_n 3, 1) := by decide +kernel
theorem d_law_19 : decode code 19 = .ok (.aload_n 0, 1) := by decide +kernel
theorem d_law_20 : decode code 20 = .ok (.arraylength, 1) := by decide +kernel
theorem d_law_21 : decode code 21 = .ok (.bipush 6, 2) := by decide +kernel
theorem d_law_23 : decode code 23 = .ok (.isub, 1) := by decide +kernel
theorem d_law_24 : decode code 24 = .ok (.if_icmp .gt 891, 3) := by decide +kernel
theorem d_law_27 : decode code 27 = .ok (.aload_n 0, 1) := by decide +kernel
theorem d_law_28 : decode code 28 = .ok (.iload_n 3, 1) := by decide +kernel
theorem d_law_29 : decode code 29 = .ok (.iaload, 1) := by decide +kernel
theorem d_law_30 : decode code 30 = .ok (.bipush 31, 2) := by decide +kernel
theorem d_law_32 : decode code 32 = .ok (.iand, 1) := by decide +kernel
theorem d_law_33 : decode code 33 = .ok (.tableswitch 876 0 22 #[107, 140, 183, 226, 289, 322, 345, 408, 431, 454, 477, 500, 533, 566, 609, 652, 685, 728, 761, 784, 807, 830, 853], 107) := by decide +kernel
theorem d_law_140 : decode code 140 = .ok (.aload_n 1, 1) := by decide +kernel
theorem d_law_141 : decode code 141 = .ok (.aload_n 0, 1) := by decide +kernel
theorem d_law_142 : decode code 142 = .ok (.iload_n 3, 1) := by decide +kernel
theorem d_law_143 : decode code 143 = .ok (.iconst 1, 1) := by decide +kernel
theorem d_law_144 : decode code 144 = .ok (.iadd, 1) := by decide +kernel
theorem d_law_145 : decode code 145 = .ok (.iaload, 1) := by decide +kernel
theorem d_law_146 : decode code 146 = .ok (.aload_n 0, 1) := by decide +kernel
theorem d_law_147 : decode code 147 = .ok (.iload_n 3, 1) := by decide +kernel
theorem d_law_148 : decode code 148 = .ok (.iconst 2, 1) := by decide +kernel
theorem d_law_149 : decode code 149 = .ok (.iadd, 1) := by decide +kernel
theorem d_law_150 : decode code 150 = .ok (.iaload, 1) := by decide +kernel
theorem d_law_151 : decode code 151 = .ok (.invokevirtual 13, 3) := by decide +kernel
theorem d_law_154 : decode code 154 = .ok (.aload_n 2, 1) := by decide +kernel
theorem d_law_155 : decode code 155 = .ok (.aload_n 0, 1) := by decide +kernel
theorem d_law_156 : decode code 156 = .ok (.iload_n 3, 1) := by decide +kernel
theorem d_law_157 : decode code 157 = .ok (.iconst 1, 1) := by decide +kernel
theorem d_law_158 : decode code 158 = .ok (.iadd, 1) := by decide +kernel
theorem d_law_159 : decode code 159 = .ok (.iaload, 1) := by decide +kernel
theorem d_law_160 : decode code 160 = .ok (.aload_n 0, 1) := by decide +kernel
theorem d_law_161 : decode code 161 = .ok (.iload_n 3, 1) := by decide +kernel
theorem d_law_162 : decode code 162 = .ok (.iconst 2, 1) := by decide +kernel
theorem d_law_163 : decode code 163 = .ok (.iadd, 1) := by decide +kernel
theorem d_law_164 : decode code 164 = .ok (.iaload, 1) := by decide +kernel
theorem d_law_165 : decode code 165 = .ok (.invokevirtual 17, 3) := by decide +kernel
theorem d_law_168 : decode code 168 = .ok (.if_icmp .eq 741, 3) := by decide +kernel
theorem d_law_171 : decode code 171 = .ok (.iconst 0, 1) := by decide +kernel
theorem d_law_172 : decode code 172 = .ok (.ireturn, 1) := by decide +kernel
theorem d_law_173 : decode code 173 = .ok (.aload_n 1, 1) := by decide +kernel
theorem d_law_174 : decode code 174 = .ok (.aload_n 0, 1) := by decide +kernel
theorem d_law_175 : decode code 175 = .ok (.iload_n 3, 1) := by decide +kernel
theorem d_law_176 : decode code 176 = .ok (.iconst 1, 1) := by decide +kernel
theorem d_law_177 : decode code 177 = .ok (.iadd, 1) := by decide +kernel
theorem d_law_178 : decode code 178 = .ok (.iaload, 1) := by decide +kernel
theorem d_law_179 : decode code 179 = .ok (.aload_n 0, 1) := by decide +kernel
theorem d_law_180 : decode code 180 = .ok (.iload_n 3, 1) := by decide +kernel
theorem d_law_181 : decode code 181 = .ok (.iconst 2, 1) := by decide +kernel
theorem d_law_182 : decode code 182 = .ok (.iadd, 1) := by decide +kernel
theorem d_law_183 : decode code 183 = .ok (.iaload, 1) := by decide +kernel
theorem d_law_184 : decode code 184 = .ok (.aload_n 0, 1) := by decide +kernel
theorem d_law_185 : decode code 185 = .ok (.iload_n 3, 1) := by decide +kernel
theorem d_law_186 : decode code 186 = .ok (.iconst 3, 1) := by decide +kernel
theorem d_law_187 : decode code 187 = .ok (.iadd, 1) := by decide +kernel
theorem d_law_188 : decode code 188 = .ok (.iaload, 1) := by decide +kernel
theorem d_law_189 : decode code 189 = .ok (.invokevirtual 18, 3) := by decide +kernel
theorem d_law_192 : decode code 192 = .ok (.aload_n 2, 1) := by decide +kernel
theorem d_law_193 : decode code 193 = .ok (.aload_n 0, 1) := by decide +kernel
theorem d_law_194 : decode code 194 = .ok (.iload_n 3, 1) := by decide +kernel
theorem d_law_195 : decode code 195 = .ok (.iconst 1, 1) := by decide +kernel
theorem d_law_196 : decode code 196 = .ok (.iadd, 1) := by decide +kernel
theorem d_law_197 : decode code 197 = .ok (.iaload, 1) := by decide +kernel
theorem d_law_198 : decode code 198 = .ok (.aload_n 0, 1) := by decide +kernel
theorem d_law_199 : decode code 199 = .ok (.iload_n 3, 1) := by decide +kernel
theorem d_law_200 : decode code 200 = .ok (.iconst 2, 1) := by decide +kernel
theorem d_law_201 : decode code 201 = .ok (.iadd, 1) := by decide +kernel
theorem d_law_202 : decode code 202 = .ok (.iaload, 1) := by decide +kernel
theorem d_law_203 : decode code 203 = .ok (.aload_n 0, 1) := by decide +kernel
theorem d_law_204 : decode code 204 = .ok (.iload_n 3, 1) := by decide +kernel
theorem d_law_205 : decode code 205 = .ok (.iconst 3, 1) := by decide +kernel
theorem d_law_206 : decode code 206 = .ok (.iadd, 1) := by decide +kernel
theorem d_law_207 : decode code 207 = .ok (.iaload, 1) := by decide +kernel
theorem d_law_208 : decode code 208 = .ok (.invokevirtual 22, 3) := by decide +kernel
theorem d_law_211 : decode code 211 = .ok (.if_icmp .eq 698, 3) := by decide +kernel
theorem d_law_214 : decode code 214 = .ok (.iconst 0, 1) := by decide +kernel
theorem d_law_215 : decode code 215 = .ok (.ireturn, 1) := by decide +kernel
theorem d_law_216 : decode code 216 = .ok (.aload_n 1, 1) := by decide +kernel
theorem d_law_217 : decode code 217 = .ok (.aload_n 0, 1) := by decide +kernel
theorem d_law_218 : decode code 218 = .ok (.iload_n 3, 1) := by decide +kernel
theorem d_law_219 : decode code 219 = .ok (.iconst 1, 1) := by decide +kernel
theorem d_law_220 : decode code 220 = .ok (.iadd, 1) := by decide +kernel
theorem d_law_221 : decode code 221 = .ok (.iaload, 1) := by decide +kernel
theorem d_law_222 : decode code 222 = .ok (.aload_n 0, 1) := by decide +kernel
theorem d_law_223 : decode code 223 = .ok (.iload_n 3, 1) := by decide +kernel
theorem d_law_224 : decode code 224 = .ok (.iconst 2, 1) := by decide +kernel
theorem d_law_225 : decode code 225 = .ok (.iadd, 1) := by decide +kernel
theorem d_law_226 : decode code 226 = .ok (.iaload, 1) := by decide +kernel
theorem d_law_227 : decode code 227 = .ok (.aload_n 0, 1) := by decide +kernel
theorem d_law_228 : decode code 228 = .ok (.iload_n 3, 1) := by decide +kernel
theorem d_law_229 : decode code 229 = .ok (.iconst 3, 1) := by decide +kernel
theorem d_law_230 : decode code 230 = .ok (.iadd, 1) := by decide +kernel
theorem d_law_231 : decode code 231 = .ok (.iaload, 1) := by decide +kernel
theorem d_law_232 : decode code 232 = .ok (.invokevirtual 23, 3) := by decide +kernel
theorem d_law_235 : decode code 235 = .ok (.aload_n 2, 1) := by decide +kernel
theorem d_law_236 : decode code 236 = .ok (.aload_n 0, 1) := by decide +kernel
theorem d_law_237 : decode code 237 = .ok (.iload_n 3, 1) := by decide +kernel
theorem d_law_238 : decode code 238 = .ok (.iconst 1, 1) := by decide +kernel
theorem d_law_239 : decode code 239 = .ok (.iadd, 1) := by decide +kernel
theorem d_law_240 : decode code 240 = .ok (.iaload, 1) := by decide +kernel
theorem d_law_241 : decode code 241 = .ok (.aload_n 0, 1) := by decide +kernel
theorem d_law_242 : decode code 242 = .ok (.iload_n 3, 1) := by decide +kernel
theorem d_law_243 : decode code 243 = .ok (.iconst 2, 1) := by decide +kernel
theorem d_law_244 : decode code 244 = .ok (.iadd, 1) := by decide +kernel
theorem d_law_245 : decode code 245 = .ok (.iaload, 1) := by decide +kernel
theorem d_law_246 : decode code 246 = .ok (.aload_n 0, 1) := by decide +kernel
theorem d_law_247 : decode code 247 = .ok (.iload_n 3, 1) := by decide +kernel
theorem d_law_248 : decode code 248 = .ok (.iconst 3, 1) := by decide +kernel
theorem d_law_249 : decode code 249 = .ok (.iadd, 1) := by decide +kernel
theorem d_law_250 : decode code 250 = .ok (.iaload, 1) := by decide +kernel
theorem d_law_251 : decode code 251 = .ok (.invokevirtual 26, 3) := by decide +kernel
theorem d_law_254 : decode code 254 = .ok (.if_icmp .eq 655, 3) := by decide +kernel
theorem d_law_257 : decode code 257 = .ok (.iconst 0, 1) := by decide +kernel
theorem d_law_258 : decode code 258 = .ok (.ireturn, 1) := by decide +kernel
theorem d_law_259 : decode code 259 = .ok (.aload_n 1, 1) := by decide +kernel
theorem d_law_260 : decode code 260 = .ok (.aload_n 0, 1) := by decide +kernel
theorem d_law_261 : decode code 261 = .ok (.iload_n 3, 1) := by decide +kernel
theorem d_law_262 : decode code 262 = .ok (.iconst 1, 1) := by decide +kernel
theorem d_law_263 : decode code 263 = .ok (.iadd, 1) := by decide +kernel
theorem d_law_264 : decode code 264 = .ok (.iaload, 1) := by decide +kernel
theorem d_law_265 : decode code 265 = .ok (.aload_n 0, 1) := by decide +kernel
theorem d_law_266 : decode code 266 = .ok (.iload_n 3, 1) := by decide +kernel
theorem d_law_267 : decode code 267 = .ok (.iconst 2, 1) := by decide +kernel
theorem d_law_268 : decode code 268 = .ok (.iadd, 1) := by decide +kernel
theorem d_law_269 : decode code 269 = .ok (.iaload, 1) := by decide +kernel
theorem d_law_270 : decode code 270 = .ok (.aload_n 0, 1) := by decide +kernel
theorem d_law_271 : decode code 271 = .ok (.iload_n 3, 1) := by decide +kernel
theorem d_law_272 : decode code 272 = .ok (.iconst 3, 1) := by decide +kernel
theorem d_law_273 : decode code 273 = .ok (.iadd, 1) := by decide +kernel
theorem d_law_274 : decode code 274 = .ok (.iaload, 1) := by decide +kernel
theorem d_law_275 : decode code 275 = .ok (.aload_n 0, 1) := by decide +kernel
theorem d_law_276 : decode code 276 = .ok (.iload_n 3, 1) := by decide +kernel
theorem d_law_277 : decode code 277 = .ok (.iconst 4, 1) := by decide +kernel
theorem d_law_278 : decode code 278 = .ok (.iadd, 1) := by decide +kernel
theorem d_law_279 : decode code 279 = .ok (.iaload, 1) := by decide +kernel
theorem d_law_280 : decode code 280 = .ok (.aload_n 0, 1) := by decide +kernel
theorem d_law_281 : decode code 281 = .ok (.iload_n 3, 1) := by decide +kernel
theorem d_law_282 : decode code 282 = .ok (.iconst 5, 1) := by decide +kernel
theorem d_law_283 : decode code 283 = .ok (.iadd, 1) := by decide +kernel
theorem d_law_284 : decode code 284 = .ok (.iaload, 1) := by decide +kernel
theorem d_law_285 : decode code 285 = .ok (.invokevirtual 27, 3) := by decide +kernel
theorem d_law_288 : decode code 288 = .ok (.aload_n 2, 1) := by decide +kernel
theorem d_law_289 : decode code 289 = .ok (.aload_n 0, 1) := by decide +kernel
theorem d_law_290 : decode code 290 = .ok (.iload_n 3, 1) := by decide +kernel
theorem d_law_291 : decode code 291 = .ok (.iconst 1, 1) := by decide +kernel
theorem d_law_292 : decode code 292 = .ok (.iadd, 1) := by decide +kernel
theorem d_law_293 : decode code 293 = .ok (.iaload, 1) := by decide +kernel
theorem d_law_294 : decode code 294 = .ok (.aload_n 0, 1) := by decide +kernel
theorem d_law_295 : decode code 295 = .ok (.iload_n 3, 1) := by decide +kernel
theorem d_law_296 : decode code 296 = .ok (.iconst 2, 1) := by decide +kernel
theorem d_law_297 : decode code 297 = .ok (.iadd, 1) := by decide +kernel
theorem d_law_298 : decode code 298 = .ok (.iaload, 1) := by decide +kernel
theorem d_law_299 : decode code 299 = .ok (.aload_n 0, 1) := by decide +kernel
theorem d_law_300 : decode code 300 = .ok (.iload_n 3, 1) := by decide +kernel
theorem d_law_301 : decode code 301 = .ok (.iconst 3, 1) := by decide +kernel
theorem d_law_302 : decode code 302 = .ok (.iadd, 1) := by decide +kernel
theorem d_law_303 : decode code 303 = .ok (.iaload, 1) := by decide +kernel
theorem d_law_304 : decode code 304 = .ok (.aload_n 0, 1) := by decide +kernel
theorem d_law_305 : decode code 305 = .ok (.iload_n 3, 1) := by decide +kernel
theorem d_law_306 : decode code 306 = .ok (.iconst 4, 1) := by decide +kernel
theorem d_law_307 : decode code 307 = .ok (.iadd, 1) := by decide +kernel
theorem d_law_308 : decode code 308 = .ok (.iaload, 1) := by decide +kernel
theorem d_law_309 : decode code 309 = .ok (.aload_n 0, 1) := by decide +kernel
theorem d_law_310 : decode code 310 = .ok (.iload_n 3, 1) := by decide +kernel
theorem d_law_311 : decode code 311 = .ok (.iconst 5, 1) := by decide +kernel
theorem d_law_312 : decode code 312 = .ok (.iadd, 1) := by decide +kernel
theorem d_law_313 : decode code 313 = .ok (.iaload, 1) := by decide +kernel
theorem d_law_314 : decode code 314 = .ok (.invokevirtual 31, 3) := by decide +kernel
theorem d_law_317 : decode code 317 = .ok (.if_icmp .eq 592, 3) := by decide +kernel
theorem d_law_320 : decode code 320 = .ok (.iconst 0, 1) := by decide +kernel
theorem d_law_321 : decode code 321 = .ok (.ireturn, 1) := by decide +kernel
theorem d_law_322 : decode code 322 = .ok (.aload_n 1, 1) := by decide +kernel
theorem d_law_323 : decode code 323 = .ok (.aload_n 0, 1) := by decide +kernel
theorem d_law_324 : decode code 324 = .ok (.iload_n 3, 1) := by decide +kernel
theorem d_law_325 : decode code 325 = .ok (.iconst 1, 1) := by decide +kernel
theorem d_law_326 : decode code 326 = .ok (.iadd, 1) := by decide +kernel
theorem d_law_327 : decode code 327 = .ok (.iaload, 1) := by decide +kernel
theorem d_law_328 : decode code 328 = .ok (.aload_n 0, 1) := by decide +kernel
theorem d_law_329 : decode code 329 = .ok (.iload_n 3, 1) := by decide +kernel
theorem d_law_330 : decode code 330 = .ok (.iconst 2, 1) := by decide +kernel
theorem d_law_331 : decode code 331 = .ok (.iadd, 1) := by decide +kernel
theorem d_law_332 : decode code 332 = .ok (.iaload, 1) := by decide +kernel
theorem d_law_333 : decode code 333 = .ok (.invokevirtual 32, 3) := by decide +kernel
theorem d_law_336 : decode code 336 = .ok (.aload_n 2, 1) := by decide +kernel
theorem d_law_337 : decode code 337 = .ok (.aload_n 0, 1) := by decide +kernel
theorem d_law_338 : decode code 338 = .ok (.iload_n 3, 1) := by decide +kernel
theorem d_law_339 : decode code 339 = .ok (.iconst 1, 1) := by decide +kernel
theorem d_law_340 : decode code 340 = .ok (.iadd, 1) := by decide +kernel
theorem d_law_341 : decode code 341 = .ok (.iaload, 1) := by decide +kernel
theorem d_law_342 : decode code 342 = .ok (.aload_n 0, 1) := by decide +kernel
theorem d_law_343 : decode code 343 = .ok (.iload_n 3, 1) := by decide +kernel
theorem d_law_344 : decode code 344 = .ok (.iconst 2, 1) := by decide +kernel
theorem d_law_345 : decode code 345 = .ok (.iadd, 1) := by decide +kernel
theorem d_law_346 : decode code 346 = .ok (.iaload, 1) := by decide +kernel
theorem d_law_347 : decode code 347 = .ok (.invokevirtual 35, 3) := by decide +kernel
theorem d_law_350 : decode code 350 = .ok (.if_icmp .eq 559, 3) := by decide +kernel
theorem d_law_353 : decode code 353 = .ok (.iconst 0, 1) := by decide +kernel
theorem d_law_354 : decode code 354 = .ok (.ireturn, 1) := by decide +kernel
theorem d_law_355 : decode code 355 = .ok (.aload_n 1, 1) := by decide +kernel
theorem d_law_356 : decode code 356 = .ok (.aload_n 0, 1) := by decide +kernel
theorem d_law_357 : decode code 357 = .ok (.iload_n 3, 1) := by decide +kernel
theorem d_law_358 : decode code 358 = .ok (.iconst 1, 1) := by decide +kernel
theorem d_law_359 : decode code 359 = .ok (.iadd, 1) := by decide +kernel
theorem d_law_360 : decode code 360 = .ok (.iaload, 1) := by decide +kernel
theorem d_law_361 : decode code 361 = .ok (.invokevirtual 36, 3) := by decide +kernel
theorem d_law_364 : decode code 364 = .ok (.aload_n 2, 1) := by decide +kernel
theorem d_law_365 : decode code 365 = .ok (.aload_n 0, 1) := by decide +kernel
theorem d_law_366 : decode code 366 = .ok (.iload_n 3, 1) := by decide +kernel
theorem d_law_367 : decode code 367 = .ok (.iconst 1, 1) := by decide +kernel
theorem d_law_368 : decode code 368 = .ok (.iadd, 1) := by decide +kernel
theorem d_law_369 : decode code 369 = .ok (.iaload, 1) := by decide +kernel
theorem d_law_370 : decode code 370 = .ok (.invokevirtual 40, 3) := by decide +kernel
theorem d_law_373 : decode code 373 = .ok (.if_icmp .eq 536, 3) := by decide +kernel
theorem d_law_376 : decode code 376 = .ok (.iconst 0, 1) := by decide +kernel
theorem d_law_377 : decode code 377 = .ok (.ireturn, 1) := by decide +kernel
theorem d_law_378 : decode code 378 = .ok (.aload_n 1, 1) := by decide +kernel
theorem d_law_379 : decode code 379 = .ok (.aload_n 0, 1) := by decide +kernel
theorem d_law_380 : decode code 380 = .ok (.iload_n 3, 1) := by decide +kernel
theorem d_law_381 : decode code 381 = .ok (.iconst 1, 1) := by decide +kernel
theorem d_law_382 : decode code 382 = .ok (.iadd, 1) := by decide +kernel
theorem d_law_383 : decode code 383 = .ok (.iaload, 1) := by decide +kernel
theorem d_law_384 : decode code 384 = .ok (.aload_n 0, 1) := by decide +kernel
theorem d_law_385 : decode code 385 = .ok (.iload_n 3, 1) := by decide +kernel
theorem d_law_386 : decode code 386 = .ok (.iconst 2, 1) := by decide +kernel
theorem d_law_387 : decode code 387 = .ok (.iadd, 1) := by decide +kernel
theorem d_law_388 : decode code 388 = .ok (.iaload, 1) := by decide +kernel
theorem d_law_389 : decode code 389 = .ok (.aload_n 0, 1) := by decide +kernel
theorem d_law_390 : decode code 390 = .ok (.iload_n 3, 1) := by decide +kernel
theorem d_law_391 : decode code 391 = .ok (.iconst 3, 1) := by decide +kernel
theorem d_law_392 : decode code 392 = .ok (.iadd, 1) := by decide +kernel
theorem d_law_393 : decode code 393 = .ok (.iaload, 1) := by decide +kernel
theorem d_law_394 : decode code 394 = .ok (.aload_n 0, 1) := by decide +kernel
theorem d_law_395 : decode code 395 = .ok (.iload_n 3, 1) := by decide +kernel
theorem d_law_396 : decode code 396 = .ok (.iconst 4, 1) := by decide +kernel
theorem d_law_397 : decode code 397 = .ok (.iadd, 1) := by decide +kernel
theorem d_law_398 : decode code 398 = .ok (.iaload, 1) := by decide +kernel
theorem d_law_399 : decode code 399 = .ok (.aload_n 0, 1) := by decide +kernel
theorem d_law_400 : decode code 400 = .ok (.iload_n 3, 1) := by decide +kernel
theorem d_law_401 : decode code 401 = .ok (.iconst 5, 1) := by decide +kernel
theorem d_law_402 : decode code 402 = .ok (.iadd, 1) := by decide +kernel
theorem d_law_403 : decode code 403 = .ok (.iaload, 1) := by decide +kernel
theorem d_law_404 : decode code 404 = .ok (.invokevirtual 41, 3) := by decide +kernel
theorem d_law_407 : decode code 407 = .ok (.aload_n 2, 1) := by decide +kernel
theorem d_law_408 : decode code 408 = .ok (.aload_n 0, 1) := by decide +kernel
theorem d_law_409 : decode code 409 = .ok (.iload_n 3, 1) := by decide +kernel
theorem d_law_410 : decode code 410 = .ok (.iconst 1, 1) := by decide +kernel
theorem d_law_411 : decode code 411 = .ok (.iadd, 1) := by decide +kernel
theorem d_law_412 : decode code 412 = .ok (.iaload, 1) := by decide +kernel
theorem d_law_413 : decode code 413 = .ok (.aload_n 0, 1) := by decide +kernel
theorem d_law_414 : decode code 414 = .ok (.iload_n 3, 1) := by decide +kernel
theorem d_law_415 : decode code 415 = .ok (.iconst 2, 1) := by decide +kernel
theorem d_law_416 : decode code 416 = .ok (.iadd, 1) := by decide +kernel
theorem d_law_417 : decode code 417 = .ok (.iaload, 1) := by decide +kernel
theorem d_law_418 : decode code 418 = .ok (.aload_n 0, 1) := by decide +kernel
theorem d_law_419 : decode code 419 = .ok (.iload_n 3, 1) := by decide +kernel
theorem d_law_420 : decode code 420 = .ok (.iconst 3, 1) := by decide +kernel
theorem d_law_421 : decode code 421 = .ok (.iadd, 1) := by decide +kernel
theorem d_law_422 : decode code 422 = .ok (.iaload, 1) := by decide +kernel
theorem d_law_423 : decode code 423 = .ok (.aload_n 0, 1) := by decide +kernel
theorem d_law_424 : decode code 424 = .ok (.iload_n 3, 1) := by decide +kernel
theorem d_law_425 : decode code 425 = .ok (.iconst 4, 1) := by decide +kernel
theorem d_law_426 : decode code 426 = .ok (.iadd, 1) := by decide +kernel
theorem d_law_427 : decode code 427 = .ok (.iaload, 1) := by decide +kernel
theorem d_law_428 : decode code 428 = .ok (.aload_n 0, 1) := by decide +kernel
theorem d_law_429 : decode code 429 = .ok (.iload_n 3, 1) := by decide +kernel
theorem d_law_430 : decode code 430 = .ok (.iconst 5, 1) := by decide +kernel
theorem d_law_431 : decode code 431 = .ok (.iadd, 1) := by decide +kernel
theorem d_law_432 : decode code 432 = .ok (.iaload, 1) := by decide +kernel
theorem d_law_433 : decode code 433 = .ok (.invokevirtual 44, 3) := by decide +kernel
theorem d_law_436 : decode code 436 = .ok (.if_icmp .eq 473, 3) := by decide +kernel
theorem d_law_439 : decode code 439 = .ok (.iconst 0, 1) := by decide +kernel
theorem d_law_440 : decode code 440 = .ok (.ireturn, 1) := by decide +kernel
theorem d_law_441 : decode code 441 = .ok (.aload_n 1, 1) := by decide +kernel
theorem d_law_442 : decode code 442 = .ok (.aload_n 0, 1) := by decide +kernel
theorem d_law_443 : decode code 443 = .ok (.iload_n 3, 1) := by decide +kernel
theorem d_law_444 : decode code 444 = .ok (.iconst 1, 1) := by decide +kernel
theorem d_law_445 : decode code 445 = .ok (.iadd, 1) := by decide +kernel
theorem d_law_446 : decode code 446 = .ok (.iaload, 1) := by decide +kernel
theorem d_law_447 : decode code 447 = .ok (.invokevirtual 45, 3) := by decide +kernel
theorem d_law_450 : decode code 450 = .ok (.aload_n 2, 1) := by decide +kernel
theorem d_law_451 : decode code 451 = .ok (.aload_n 0, 1) := by decide +kernel
theorem d_law_452 : decode code 452 = .ok (.iload_n 3, 1) := by decide +kernel
theorem d_law_453 : decode code 453 = .ok (.iconst 1, 1) := by decide +kernel
theorem d_law_454 : decode code 454 = .ok (.iadd, 1) := by decide +kernel
theorem d_law_455 : decode code 455 = .ok (.iaload, 1) := by decide +kernel
theorem d_law_456 : decode code 456 = .ok (.invokevirtual 48, 3) := by decide +kernel
theorem d_law_459 : decode code 459 = .ok (.if_icmp .eq 450, 3) := by decide +kernel
theorem d_law_462 : decode code 462 = .ok (.iconst 0, 1) := by decide +kernel
theorem d_law_463 : decode code 463 = .ok (.ireturn, 1) := by decide +kernel
theorem d_law_464 : decode code 464 = .ok (.aload_n 1, 1) := by decide +kernel
theorem d_law_465 : decode code 465 = .ok (.aload_n 0, 1) := by decide +kernel
theorem d_law_466 : decode code 466 = .ok (.iload_n 3, 1) := by decide +kernel
theorem d_law_467 : decode code 467 = .ok (.iconst 1, 1) := by decide +kernel
theorem d_law_468 : decode code 468 = .ok (.iadd, 1) := by decide +kernel
theorem d_law_469 : decode code 469 = .ok (.iaload, 1) := by decide +kernel
theorem d_law_470 : decode code 470 = .ok (.invokevirtual 49, 3) := by decide +kernel
theorem d_law_473 : decode code 473 = .ok (.aload_n 2, 1) := by decide +kernel
theorem d_law_474 : decode code 474 = .ok (.aload_n 0, 1) := by decide +kernel
theorem d_law_475 : decode code 475 = .ok (.iload_n 3, 1) := by decide +kernel
theorem d_law_476 : decode code 476 = .ok (.iconst 1, 1) := by decide +kernel
theorem d_law_477 : decode code 477 = .ok (.iadd, 1) := by decide +kernel
theorem d_law_478 : decode code 478 = .ok (.iaload, 1) := by decide +kernel
theorem d_law_479 : decode code 479 = .ok (.invokevirtual 52, 3) := by decide +kernel
theorem d_law_482 : decode code 482 = .ok (.if_icmp .eq 427, 3) := by decide +kernel
theorem d_law_485 : decode code 485 = .ok (.iconst 0, 1) := by decide +kernel
theorem d_law_486 : decode code 486 = .ok (.ireturn, 1) := by decide +kernel
theorem d_law_487 : decode code 487 = .ok (.aload_n 1, 1) := by decide +kernel
theorem d_law_488 : decode code 488 = .ok (.aload_n 0, 1) := by decide +kernel
theorem d_law_489 : decode code 489 = .ok (.iload_n 3, 1) := by decide +kernel
theorem d_law_490 : decode code 490 = .ok (.iconst 1, 1) := by decide +kernel
theorem d_law_491 : decode code 491 = .ok (.iadd, 1) := by decide +kernel
theorem d_law_492 : decode code 492 = .ok (.iaload, 1) := by decide +kernel
theorem d_law_493 : decode code 493 = .ok (.invokevirtual 53, 3) := by decide +kernel
theorem d_law_496 : decode code 496 = .ok (.aload_n 2, 1) := by decide +kernel
theorem d_law_497 : decode code 497 = .ok (.aload_n 0, 1) := by decide +kernel
theorem d_law_498 : decode code 498 = .ok (.iload_n 3, 1) := by decide +kernel
theorem d_law_499 : decode code 499 = .ok (.iconst 1, 1) := by decide +kernel
theorem d_law_500 : decode code 500 = .ok (.iadd, 1) := by decide +kernel
theorem d_law_501 : decode code 501 = .ok (.iaload, 1) := by decide +kernel
theorem d_law_502 : decode code 502 = .ok (.invokevirtual 56, 3) := by decide +kernel
theorem d_law_505 : decode code 505 = .ok (.if_icmp .eq 404, 3) := by decide +kernel
theorem d_law_508 : decode code 508 = .ok (.iconst 0, 1) := by decide +kernel
theorem d_law_509 : decode code 509 = .ok (.ireturn, 1) := by decide +kernel
theorem d_law_510 : decode code 510 = .ok (.aload_n 1, 1) := by decide +kernel
theorem d_law_511 : decode code 511 = .ok (.aload_n 0, 1) := by decide +kernel
theorem d_law_512 : decode code 512 = .ok (.iload_n 3, 1) := by decide +kernel
theorem d_law_513 : decode code 513 = .ok (.iconst 1, 1) := by decide +kernel
theorem d_law_514 : decode code 514 = .ok (.iadd, 1) := by decide +kernel
theorem d_law_515 : decode code 515 = .ok (.iaload, 1) := by decide +kernel
theorem d_law_516 : decode code 516 = .ok (.invokevirtual 57, 3) := by decide +kernel
theorem d_law_519 : decode code 519 = .ok (.aload_n 2, 1) := by decide +kernel
theorem d_law_520 : decode code 520 = .ok (.aload_n 0, 1) := by decide +kernel
theorem d_law_521 : decode code 521 = .ok (.iload_n 3, 1) := by decide +kernel
theorem d_law_522 : decode code 522 = .ok (.iconst 1, 1) := by decide +kernel
theorem d_law_523 : decode code 523 = .ok (.iadd, 1) := by decide +kernel
theorem d_law_524 : decode code 524 = .ok (.iaload, 1) := by decide +kernel
theorem d_law_525 : decode code 525 = .ok (.invokevirtual 60, 3) := by decide +kernel
theorem d_law_528 : decode code 528 = .ok (.if_icmp .eq 381, 3) := by decide +kernel
theorem d_law_531 : decode code 531 = .ok (.iconst 0, 1) := by decide +kernel
theorem d_law_532 : decode code 532 = .ok (.ireturn, 1) := by decide +kernel
theorem d_law_533 : decode code 533 = .ok (.aload_n 1, 1) := by decide +kernel
theorem d_law_534 : decode code 534 = .ok (.aload_n 0, 1) := by decide +kernel
theorem d_law_535 : decode code 535 = .ok (.iload_n 3, 1) := by decide +kernel
theorem d_law_536 : decode code 536 = .ok (.iconst 1, 1) := by decide +kernel
theorem d_law_537 : decode code 537 = .ok (.iadd, 1) := by decide +kernel
theorem d_law_538 : decode code 538 = .ok (.iaload, 1) := by decide +kernel
theorem d_law_539 : decode code 539 = .ok (.aload_n 0, 1) := by decide +kernel
theorem d_law_540 : decode code 540 = .ok (.iload_n 3, 1) := by decide +kernel
theorem d_law_541 : decode code 541 = .ok (.iconst 2, 1) := by decide +kernel
theorem d_law_542 : decode code 542 = .ok (.iadd, 1) := by decide +kernel
theorem d_law_543 : decode code 543 = .ok (.iaload, 1) := by decide +kernel
theorem d_law_544 : decode code 544 = .ok (.invokevirtual 61, 3) := by decide +kernel
theorem d_law_547 : decode code 547 = .ok (.aload_n 2, 1) := by decide +kernel
theorem d_law_548 : decode code 548 = .ok (.aload_n 0, 1) := by decide +kernel
theorem d_law_549 : decode code 549 = .ok (.iload_n 3, 1) := by decide +kernel
theorem d_law_550 : decode code 550 = .ok (.iconst 1, 1) := by decide +kernel
theorem d_law_551 : decode code 551 = .ok (.iadd, 1) := by decide +kernel
theorem d_law_552 : decode code 552 = .ok (.iaload, 1) := by decide +kernel
theorem d_law_553 : decode code 553 = .ok (.aload_n 0, 1) := by decide +kernel
theorem d_law_554 : decode code 554 = .ok (.iload_n 3, 1) := by decide +kernel
theorem d_law_555 : decode code 555 = .ok (.iconst 2, 1) := by decide +kernel
theorem d_law_556 : decode code 556 = .ok (.iadd, 1) := by decide +kernel
theorem d_law_557 : decode code 557 = .ok (.iaload, 1) := by decide +kernel
theorem d_law_558 : decode code 558 = .ok (.invokevirtual 64, 3) := by decide +kernel
theorem d_law_561 : decode code 561 = .ok (.if_icmp .eq 348, 3) := by decide +kernel
theorem d_law_564 : decode code 564 = .ok (.iconst 0, 1) := by decide +kernel
theorem d_law_565 : decode code 565 = .ok (.ireturn, 1) := by decide +kernel
theorem d_law_566 : decode code 566 = .ok (.aload_n 1, 1) := by decide +kernel
theorem d_law_567 : decode code 567 = .ok (.aload_n 0, 1) := by decide +kernel
theorem d_law_568 : decode code 568 = .ok (.iload_n 3, 1) := by decide +kernel
theorem d_law_569 : decode code 569 = .ok (.iconst 1, 1) := by decide +kernel
theorem d_law_570 : decode code 570 = .ok (.iadd, 1) := by decide +kernel
theorem d_law_571 : decode code 571 = .ok (.iaload, 1) := by decide +kernel
theorem d_law_572 : decode code 572 = .ok (.aload_n 0, 1) := by decide +kernel
theorem d_law_573 : decode code 573 = .ok (.iload_n 3, 1) := by decide +kernel
theorem d_law_574 : decode code 574 = .ok (.iconst 2, 1) := by decide +kernel
theorem d_law_575 : decode code 575 = .ok (.iadd, 1) := by decide +kernel
theorem d_law_576 : decode code 576 = .ok (.iaload, 1) := by decide +kernel
theorem d_law_577 : decode code 577 = .ok (.invokevirtual 65, 3) := by decide +kernel
theorem d_law_580 : decode code 580 = .ok (.aload_n 2, 1) := by decide +kernel
theorem d_law_581 : decode code 581 = .ok (.aload_n 0, 1) := by decide +kernel
theorem d_law_582 : decode code 582 = .ok (.iload_n 3, 1) := by decide +kernel
theorem d_law_583 : decode code 583 = .ok (.iconst 1, 1) := by decide +kernel
theorem d_law_584 : decode code 584 = .ok (.iadd, 1) := by decide +kernel
theorem d_law_585 : decode code 585 = .ok (.iaload, 1) := by decide +kernel
theorem d_law_586 : decode code 586 = .ok (.aload_n 0, 1) := by decide +kernel
theorem d_law_587 : decode code 587 = .ok (.iload_n 3, 1) := by decide +kernel
theorem d_law_588 : decode code 588 = .ok (.iconst 2, 1) := by decide +kernel
theorem d_law_589 : decode code 589 = .ok (.iadd, 1) := by decide +kernel
theorem d_law_590 : decode code 590 = .ok (.iaload, 1) := by decide +kernel
theorem d_law_591 : decode code 591 = .ok (.invokevirtual 68, 3) := by decide +kernel
theorem d_law_594 : decode code 594 = .ok (.if_icmp .eq 315, 3) := by decide +kernel
theorem d_law_597 : decode code 597 = .ok (.iconst 0, 1) := by decide +kernel
theorem d_law_598 : decode code 598 = .ok (.ireturn, 1) := by decide +kernel
theorem d_law_599 : decode code 599 = .ok (.aload_n 1, 1) := by decide +kernel
theorem d_law_600 : decode code 600 = .ok (.aload_n 0, 1) := by decide +kernel
theorem d_law_601 : decode code 601 = .ok (.iload_n 3, 1) := by decide +kernel
theorem d_law_602 : decode code 602 = .ok (.iconst 1, 1) := by decide +kernel
theorem d_law_603 : decode code 603 = .ok (.iadd, 1) := by decide +kernel
theorem d_law_604 : decode code 604 = .ok (.iaload, 1) := by decide +kernel
theorem d_law_605 : decode code 605 = .ok (.aload_n 0, 1) := by decide +kernel
theorem d_law_606 : decode code 606 = .ok (.iload_n 3, 1) := by decide +kernel
theorem d_law_607 : decode code 607 = .ok (.iconst 2, 1) := by decide +kernel
theorem d_law_608 : decode code 608 = .ok (.iadd, 1) := by decide +kernel
theorem d_law_609 : decode code 609 = .ok (.iaload, 1) := by decide +kernel
theorem d_law_610 : decode code 610 = .ok (.aload_n 0, 1) := by decide +kernel
theorem d_law_611 : decode code 611 = .ok (.iload_n 3, 1) := by decide +kernel
theorem d_law_612 : decode code 612 = .ok (.iconst 3, 1) := by decide +kernel
theorem d_law_613 : decode code 613 = .ok (.iadd, 1) := by decide +kernel
theorem d_law_614 : decode code 614 = .ok (.iaload, 1) := by decide +kernel
theorem d_law_615 : decode code 615 = .ok (.invokevirtual 69, 3) := by decide +kernel
theorem d_law_618 : decode code 618 = .ok (.aload_n 2, 1) := by decide +kernel
theorem d_law_619 : decode code 619 = .ok (.aload_n 0, 1) := by decide +kernel
theorem d_law_620 : decode code 620 = .ok (.iload_n 3, 1) := by decide +kernel
theorem d_law_621 : decode code 621 = .ok (.iconst 1, 1) := by decide +kernel
theorem d_law_622 : decode code 622 = .ok (.iadd, 1) := by decide +kernel
theorem d_law_623 : decode code 623 = .ok (.iaload, 1) := by decide +kernel
theorem d_law_624 : decode code 624 = .ok (.aload_n 0, 1) := by decide +kernel
theorem d_law_625 : decode code 625 = .ok (.iload_n 3, 1) := by decide +kernel
theorem d_law_626 : decode code 626 = .ok (.iconst 2, 1) := by decide +kernel
theorem d_law_627 : decode code 627 = .ok (.iadd, 1) := by decide +kernel
theorem d_law_628 : decode code 628 = .ok (.iaload, 1) := by decide +kernel
theorem d_law_629 : decode code 629 = .ok (.aload_n 0, 1) := by decide +kernel
theorem d_law_630 : decode code 630 = .ok (.iload_n 3, 1) := by decide +kernel
theorem d_law_631 : decode code 631 = .ok (.iconst 3, 1) := by decide +kernel
theorem d_law_632 : decode code 632 = .ok (.iadd, 1) := by decide +kernel
theorem d_law_633 : decode code 633 = .ok (.iaload, 1) := by decide +kernel
theorem d_law_634 : decode code 634 = .ok (.invokevirtual 72, 3) := by decide +kernel
theorem d_law_637 : decode code 637 = .ok (.if_icmp .eq 272, 3) := by decide +kernel
theorem d_law_640 : decode code 640 = .ok (.iconst 0, 1) := by decide +kernel
theorem d_law_641 : decode code 641 = .ok (.ireturn, 1) := by decide +kernel
theorem d_law_642 : decode code 642 = .ok (.aload_n 1, 1) := by decide +kernel
theorem d_law_643 : decode code 643 = .ok (.aload_n 0, 1) := by decide +kernel
theorem d_law_644 : decode code 644 = .ok (.iload_n 3, 1) := by decide +kernel
theorem d_law_645 : decode code 645 = .ok (.iconst 1, 1) := by decide +kernel
theorem d_law_646 : decode code 646 = .ok (.iadd, 1) := by decide +kernel
theorem d_law_647 : decode code 647 = .ok (.iaload, 1) := by decide +kernel
theorem d_law_648 : decode code 648 = .ok (.aload_n 0, 1) := by decide +kernel
theorem d_law_649 : decode code 649 = .ok (.iload_n 3, 1) := by decide +kernel
theorem d_law_650 : decode code 650 = .ok (.iconst 2, 1) := by decide +kernel
theorem d_law_651 : decode code 651 = .ok (.iadd, 1) := by decide +kernel
theorem d_law_652 : decode code 652 = .ok (.iaload, 1) := by decide +kernel
theorem d_law_653 : decode code 653 = .ok (.aload_n 0, 1) := by decide +kernel
theorem d_law_654 : decode code 654 = .ok (.iload_n 3, 1) := by decide +kernel
theorem d_law_655 : decode code 655 = .ok (.iconst 3, 1) := by decide +kernel
theorem d_law_656 : decode code 656 = .ok (.iadd, 1) := by decide +kernel
theorem d_law_657 : decode code 657 = .ok (.iaload, 1) := by decide +kernel
theorem d_law_658 : decode code 658 = .ok (.invokevirtual 73, 3) := by decide +kernel
theorem d_law_661 : decode code 661 = .ok (.aload_n 2, 1) := by decide +kernel
theorem d_law_662 : decode code 662 = .ok (.aload_n 0, 1) := by decide +kernel
theorem d_law_663 : decode code 663 = .ok (.iload_n 3, 1) := by decide +kernel
theorem d_law_664 : decode code 664 = .ok (.iconst 1, 1) := by decide +kernel
theorem d_law_665 : decode code 665 = .ok (.iadd, 1) := by decide +kernel
theorem d_law_666 : decode code 666 = .ok (.iaload, 1) := by decide +kernel
theorem d_law_667 : decode code 667 = .ok (.aload_n 0, 1) := by decide +kernel
theorem d_law_668 : decode code 668 = .ok (.iload_n 3, 1) := by decide +kernel
theorem d_law_669 : decode code 669 = .ok (.iconst 2, 1) := by decide +kernel
theorem d_law_670 : decode code 670 = .ok (.iadd, 1) := by decide +kernel
theorem d_law_671 : decode code 671 = .ok (.iaload, 1) := by decide +kernel
theorem d_law_672 : decode code 672 = .ok (.aload_n 0, 1) := by decide +kernel
theorem d_law_673 : decode code 673 = .ok (.iload_n 3, 1) := by decide +kernel
theorem d_law_674 : decode code 674 = .ok (.iconst 3, 1) := by decide +kernel
theorem d_law_675 : decode code 675 = .ok (.iadd, 1) := by decide +kernel
theorem d_law_676 : decode code 676 = .ok (.iaload, 1) := by decide +kernel
theorem d_law_677 : decode code 677 = .ok (.invokevirtual 76, 3) := by decide +kernel
theorem d_law_680 : decode code 680 = .ok (.if_icmp .eq 229, 3) := by decide +kernel
theorem d_law_683 : decode code 683 = .ok (.iconst 0, 1) := by decide +kernel
theorem d_law_684 : decode code 684 = .ok (.ireturn, 1) := by decide +kernel
theorem d_law_685 : decode code 685 = .ok (.aload_n 1, 1) := by decide +kernel
theorem d_law_686 : decode code 686 = .ok (.aload_n 0, 1) := by decide +kernel
theorem d_law_687 : decode code 687 = .ok (.iload_n 3, 1) := by decide +kernel
theorem d_law_688 : decode code 688 = .ok (.iconst 1, 1) := by decide +kernel
theorem d_law_689 : decode code 689 = .ok (.iadd, 1) := by decide +kernel
theorem d_law_690 : decode code 690 = .ok (.iaload, 1) := by decide +kernel
theorem d_law_691 : decode code 691 = .ok (.aload_n 0, 1) := by decide +kernel
theorem d_law_692 : decode code 692 = .ok (.iload_n 3, 1) := by decide +kernel
theorem d_law_693 : decode code 693 = .ok (.iconst 2, 1) := by decide +kernel
theorem d_law_694 : decode code 694 = .ok (.iadd, 1) := by decide +kernel
theorem d_law_695 : decode code 695 = .ok (.iaload, 1) := by decide +kernel
theorem d_law_696 : decode code 696 = .ok (.invokevirtual 77, 3) := by decide +kernel
theorem d_law_699 : decode code 699 = .ok (.aload_n 2, 1) := by decide +kernel
theorem d_law_700 : decode code 700 = .ok (.aload_n 0, 1) := by decide +kernel
theorem d_law_701 : decode code 701 = .ok (.iload_n 3, 1) := by decide +kernel
theorem d_law_702 : decode code 702 = .ok (.iconst 1, 1) := by decide +kernel
theorem d_law_703 : decode code 703 = .ok (.iadd, 1) := by decide +kernel
theorem d_law_704 : decode code 704 = .ok (.iaload, 1) := by decide +kernel
theorem d_law_705 : decode code 705 = .ok (.aload_n 0, 1) := by decide +kernel
theorem d_law_706 : decode code 706 = .ok (.iload_n 3, 1) := by decide +kernel
theorem d_law_707 : decode code 707 = .ok (.iconst 2, 1) := by decide +kernel
theorem d_law_708 : decode code 708 = .ok (.iadd, 1) := by decide +kernel
theorem d_law_709 : decode code 709 = .ok (.iaload, 1) := by decide +kernel
theorem d_law_710 : decode code 710 = .ok (.invokevirtual 80, 3) := by decide +kernel
theorem d_law_713 : decode code 713 = .ok (.if_icmp .eq 196, 3) := by decide +kernel
theorem d_law_716 : decode code 716 = .ok (.iconst 0, 1) := by decide +kernel
theorem d_law_717 : decode code 717 = .ok (.ireturn, 1) := by decide +kernel
theorem d_law_718 : decode code 718 = .ok (.aload_n 1, 1) := by decide +kernel
theorem d_law_719 : decode code 719 = .ok (.aload_n 0, 1) := by decide +kernel
theorem d_law_720 : decode code 720 = .ok (.iload_n 3, 1) := by decide +kernel
theorem d_law_721 : decode code 721 = .ok (.iconst 1, 1) := by decide +kernel
theorem d_law_722 : decode code 722 = .ok (.iadd, 1) := by decide +kernel
theorem d_law_723 : decode code 723 = .ok (.iaload, 1) := by decide +kernel
theorem d_law_724 : decode code 724 = .ok (.aload_n 0, 1) := by decide +kernel
theorem d_law_725 : decode code 725 = .ok (.iload_n 3, 1) := by decide +kernel
theorem d_law_726 : decode code 726 = .ok (.iconst 2, 1) := by decide +kernel
theorem d_law_727 : decode code 727 = .ok (.iadd, 1) := by decide +kernel
theorem d_law_728 : decode code 728 = .ok (.iaload, 1) := by decide +kernel
theorem d_law_729 : decode code 729 = .ok (.aload_n 0, 1) := by decide +kernel
theorem d_law_730 : decode code 730 = .ok (.iload_n 3, 1) := by decide +kernel
theorem d_law_731 : decode code 731 = .ok (.iconst 3, 1) := by decide +kernel
theorem d_law_732 : decode code 732 = .ok (.iadd, 1) := by decide +kernel
theorem d_law_733 : decode code 733 = .ok (.iaload, 1) := by decide +kernel
theorem d_law_734 : decode code 734 = .ok (.invokevirtual 81, 3) := by decide +kernel
theorem d_law_737 : decode code 737 = .ok (.aload_n 2, 1) := by decide +kernel
theorem d_law_738 : decode code 738 = .ok (.aload_n 0, 1) := by decide +kernel
theorem d_law_739 : decode code 739 = .ok (.iload_n 3, 1) := by decide +kernel
theorem d_law_740 : decode code 740 = .ok (.iconst 1, 1) := by decide +kernel
theorem d_law_741 : decode code 741 = .ok (.iadd, 1) := by decide +kernel
theorem d_law_742 : decode code 742 = .ok (.iaload, 1) := by decide +kernel
theorem d_law_743 : decode code 743 = .ok (.aload_n 0, 1) := by decide +kernel
theorem d_law_744 : decode code 744 = .ok (.iload_n 3, 1) := by decide +kernel
theorem d_law_745 : decode code 745 = .ok (.iconst 2, 1) := by decide +kernel
theorem d_law_746 : decode code 746 = .ok (.iadd, 1) := by decide +kernel
theorem d_law_747 : decode code 747 = .ok (.iaload, 1) := by decide +kernel
theorem d_law_748 : decode code 748 = .ok (.aload_n 0, 1) := by decide +kernel
theorem d_law_749 : decode code 749 = .ok (.iload_n 3, 1) := by decide +kernel
theorem d_law_750 : decode code 750 = .ok (.iconst 3, 1) := by decide +kernel
theorem d_law_751 : decode code 751 = .ok (.iadd, 1) := by decide +kernel
theorem d_law_752 : decode code 752 = .ok (.iaload, 1) := by decide +kernel
theorem d_law_753 : decode code 753 = .ok (.invokevirtual 84, 3) := by decide +kernel
theorem d_law_756 : decode code 756 = .ok (.if_icmp .eq 153, 3) := by decide +kernel
theorem d_law_759 : decode code 759 = .ok (.iconst 0, 1) := by decide +kernel
theorem d_law_760 : decode code 760 = .ok (.ireturn, 1) := by decide +kernel
theorem d_law_761 : decode code 761 = .ok (.aload_n 1, 1) := by decide +kernel
theorem d_law_762 : decode code 762 = .ok (.aload_n 0, 1) := by decide +kernel
theorem d_law_763 : decode code 763 = .ok (.iload_n 3, 1) := by decide +kernel
theorem d_law_764 : decode code 764 = .ok (.iconst 1, 1) := by decide +kernel
theorem d_law_765 : decode code 765 = .ok (.iadd, 1) := by decide +kernel
theorem d_law_766 : decode code 766 = .ok (.iaload, 1) := by decide +kernel
theorem d_law_767 : decode code 767 = .ok (.aload_n 0, 1) := by decide +kernel
theorem d_law_768 : decode code 768 = .ok (.iload_n 3, 1) := by decide +kernel
theorem d_law_769 : decode code 769 = .ok (.iconst 2, 1) := by decide +kernel
theorem d_law_770 : decode code 770 = .ok (.iadd, 1) := by decide +kernel
theorem d_law_771 : decode code 771 = .ok (.iaload, 1) := by decide +kernel
theorem d_law_772 : decode code 772 = .ok (.invokevirtual 85, 3) := by decide +kernel
theorem d_law_775 : decode code 775 = .ok (.aload_n 2, 1) := by decide +kernel
theorem d_law_776 : decode code 776 = .ok (.aload_n 0, 1) := by decide +kernel
theorem d_law_777 : decode code 777 = .ok (.iload_n 3, 1) := by decide +kernel
theorem d_law_778 : decode code 778 = .ok (.iconst 1, 1) := by decide +kernel
theorem d_law_779 : decode code 779 = .ok (.iadd, 1) := by decide +kernel
theorem d_law_780 : decode code 780 = .ok (.iaload, 1) := by decide +kernel
theorem d_law_781 : decode code 781 = .ok (.aload_n 0, 1) := by decide +kernel
theorem d_law_782 : decode code 782 = .ok (.iload_n 3, 1) := by decide +kernel
theorem d_law_783 : decode code 783 = .ok (.iconst 2, 1) := by decide +kernel
theorem d_law_784 : decode code 784 = .ok (.iadd, 1) := by decide +kernel
theorem d_law_785 : decode code 785 = .ok (.iaload, 1) := by decide +kernel
theorem d_law_786 : decode code 786 = .ok (.invokevirtual 88, 3) := by decide +kernel
theorem d_law_789 : decode code 789 = .ok (.if_icmp .eq 120, 3) := by decide +kernel
theorem d_law_792 : decode code 792 = .ok (.iconst 0, 1) := by decide +kernel
theorem d_law_793 : decode code 793 = .ok (.ireturn, 1) := by decide +kernel
theorem d_law_794 : decode code 794 = .ok (.aload_n 1, 1) := by decide +kernel
theorem d_law_795 : decode code 795 = .ok (.aload_n 0, 1) := by decide +kernel
theorem d_law_796 : decode code 796 = .ok (.iload_n 3, 1) := by decide +kernel
theorem d_law_797 : decode code 797 = .ok (.iconst 1, 1) := by decide +kernel
theorem d_law_798 : decode code 798 = .ok (.iadd, 1) := by decide +kernel
theorem d_law_799 : decode code 799 = .ok (.iaload, 1) := by decide +kernel
theorem d_law_800 : decode code 800 = .ok (.invokevirtual 89, 3) := by decide +kernel
theorem d_law_803 : decode code 803 = .ok (.aload_n 2, 1) := by decide +kernel
theorem d_law_804 : decode code 804 = .ok (.aload_n 0, 1) := by decide +kernel
theorem d_law_805 : decode code 805 = .ok (.iload_n 3, 1) := by decide +kernel
theorem d_law_806 : decode code 806 = .ok (.iconst 1, 1) := by decide +kernel
theorem d_law_807 : decode code 807 = .ok (.iadd, 1) := by decide +kernel
theorem d_law_808 : decode code 808 = .ok (.iaload, 1) := by decide +kernel
theorem d_law_809 : decode code 809 = .ok (.invokevirtual 92, 3) := by decide +kernel
theorem d_law_812 : decode code 812 = .ok (.if_icmp .eq 97, 3) := by decide +kernel
theorem d_law_815 : decode code 815 = .ok (.iconst 0, 1) := by decide +kernel
theorem d_law_816 : decode code 816 = .ok (.ireturn, 1) := by decide +kernel
theorem d_law_817 : decode code 817 = .ok (.aload_n 1, 1) := by decide +kernel
theorem d_law_818 : decode code 818 = .ok (.aload_n 0, 1) := by decide +kernel
theorem d_law_819 : decode code 819 = .ok (.iload_n 3, 1) := by decide +kernel
theorem d_law_820 : decode code 820 = .ok (.iconst 1, 1) := by decide +kernel
theorem d_law_821 : decode code 821 = .ok (.iadd, 1) := by decide +kernel
theorem d_law_822 : decode code 822 = .ok (.iaload, 1) := by decide +kernel
theorem d_law_823 : decode code 823 = .ok (.invokevirtual 93, 3) := by decide +kernel
theorem d_law_826 : decode code 826 = .ok (.aload_n 2, 1) := by decide +kernel
theorem d_law_827 : decode code 827 = .ok (.aload_n 0, 1) := by decide +kernel
theorem d_law_828 : decode code 828 = .ok (.iload_n 3, 1) := by decide +kernel
theorem d_law_829 : decode code 829 = .ok (.iconst 1, 1) := by decide +kernel
theorem d_law_830 : decode code 830 = .ok (.iadd, 1) := by decide +kernel
theorem d_law_831 : decode code 831 = .ok (.iaload, 1) := by decide +kernel
theorem d_law_832 : decode code 832 = .ok (.invokevirtual 96, 3) := by decide +kernel
theorem d_law_835 : decode code 835 = .ok (.if_icmp .eq 74, 3) := by decide +kernel
theorem d_law_838 : decode code 838 = .ok (.iconst 0, 1) := by decide +kernel
theorem d_law_839 : decode code 839 = .ok (.ireturn, 1) := by decide +kernel
theorem d_law_840 : decode code 840 = .ok (.aload_n 1, 1) := by decide +kernel
theorem d_law_841 : decode code 841 = .ok (.aload_n 0, 1) := by decide +kernel
theorem d_law_842 : decode code 842 = .ok (.iload_n 3, 1) := by decide +kernel
theorem d_law_843 : decode code 843 = .ok (.iconst 1, 1) := by decide +kernel
theorem d_law_844 : decode code 844 = .ok (.iadd, 1) := by decide +kernel
theorem d_law_845 : decode code 845 = .ok (.iaload, 1) := by decide +kernel
theorem d_law_846 : decode code 846 = .ok (.invokevirtual 97, 3) := by decide +kernel
theorem d_law_849 : decode code 849 = .ok (.aload_n 2, 1) := by decide +kernel
theorem d_law_850 : decode code 850 = .ok (.aload_n 0, 1) := by decide +kernel
theorem d_law_851 : decode code 851 = .ok (.iload_n 3, 1) := by decide +kernel
theorem d_law_852 : decode code 852 = .ok (.iconst 1, 1) := by decide +kernel
theorem d_law_853 : decode code 853 = .ok (.iadd, 1) := by decide +kernel
theorem d_law_854 : decode code 854 = .ok (.iaload, 1) := by decide +kernel
theorem d_law_855 : decode code 855 = .ok (.invokevirtual 100, 3) := by decide +kernel
theorem d_law_858 : decode code 858 = .ok (.if_icmp .eq 51, 3) := by decide +kernel
theorem d_law_861 : decode code 861 = .ok (.iconst 0, 1) := by decide +kernel
theorem d_law_862 : decode code 862 = .ok (.ireturn, 1) := by decide +kernel
theorem d_law_863 : decode code 863 = .ok (.aload_n 1, 1) := by decide +kernel
theorem d_law_864 : decode code 864 = .ok (.aload_n 0, 1) := by decide +kernel
theorem d_law_865 : decode code 865 = .ok (.iload_n 3, 1) := by decide +kernel
theorem d_law_866 : decode code 866 = .ok (.iconst 1, 1) := by decide +kernel
theorem d_law_867 : decode code 867 = .ok (.iadd, 1) := by decide +kernel
theorem d_law_868 : decode code 868 = .ok (.iaload, 1) := by decide +kernel
theorem d_law_869 : decode code 869 = .ok (.invokevirtual 101, 3) := by decide +kernel
theorem d_law_872 : decode code 872 = .ok (.aload_n 2, 1) := by decide +kernel
theorem d_law_873 : decode code 873 = .ok (.aload_n 0, 1) := by decide +kernel
theorem d_law_874 : decode code 874 = .ok (.iload_n 3, 1) := by decide +kernel
theorem d_law_875 : decode code 875 = .ok (.iconst 1, 1) := by decide +kernel
theorem d_law_876 : decode code 876 = .ok (.iadd, 1) := by decide +kernel
theorem d_law_877 : decode code 877 = .ok (.iaload, 1) := by decide +kernel
theorem d_law_878 : decode code 878 = .ok (.invokevirtual 104, 3) := by decide +kernel
theorem d_law_881 : decode code 881 = .ok (.if_icmp .eq 28, 3) := by decide +kernel
theorem d_law_884 : decode code 884 = .ok (.iconst 0, 1) := by decide +kernel
theorem d_law_885 : decode code 885 = .ok (.ireturn, 1) := by decide +kernel
theorem d_law_886 : decode code 886 = .ok (.aload_n 1, 1) := by decide +kernel
theorem d_law_887 : decode code 887 = .ok (.aload_n 0, 1) := by decide +kernel
theorem d_law_888 : decode code 888 = .ok (.iload_n 3, 1) := by decide +kernel
theorem d_law_889 : decode code 889 = .ok (.iconst 1, 1) := by decide +kernel
theorem d_law_890 : decode code 890 = .ok (.iadd, 1) := by decide +kernel
theorem d_law_891 : decode code 891 = .ok (.iaload, 1) := by decide +kernel
theorem d_law_892 : decode code 892 = .ok (.invokevirtual 105, 3) := by decide +kernel
theorem d_law_895 : decode code 895 = .ok (.aload_n 2, 1) := by decide +kernel
theorem d_law_896 : decode code 896 = .ok (.aload_n 0, 1) := by decide +kernel
theorem d_law_897 : decode code 897 = .ok (.iload_n 3, 1) := by decide +kernel
theorem d_law_898 : decode code 898 = .ok (.iconst 1, 1) := by decide +kernel
theorem d_law_899 : decode code 899 = .ok (.iadd, 1) := by decide +kernel
theorem d_law_900 : decode code 900 = .ok (.iaload, 1) := by decide +kernel
theorem d_law_901 : decode code 901 = .ok (.invokevirtual 108, 3) := by decide +kernel
theorem d_law_904 : decode code 904 = .ok (.if_icmp .eq 5, 3) := by decide +kernel
theorem d_law_907 : decode code 907 = .ok (.iconst 0, 1) := by decide +kernel
theorem d_law_908 : decode code 908 = .ok (.ireturn, 1) := by decide +kernel
theorem d_law_909 : decode code 909 = .ok (.iinc 3 6, 3) := by decide +kernel
theorem d_law_912 : decode code 912 = .ok (.goto (-894), 3) := by decide +kernel
theorem d_law_915 : decode code 915 = .ok (.iconst 1, 1) := by decide +kernel
theorem d_law_916 : decode code 916 = .ok (.ireturn, 1) := by decide +kernel
