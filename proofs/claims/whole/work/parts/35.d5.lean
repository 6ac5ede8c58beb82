/-! instructions -/
theorem d_La_law_0 : decode code 0 = .ok (.new 7, 3) := by decide +kernel
theorem d_La_law_3 : decode code 3 = .ok (.dup, 1) := by decide +kernel
theorem d_La_law_4 : decode code 4 = .ok (.invokespecial 9, 3) := by decide +kernel
theorem d_La_law_7 : decode code 7 = .ok (.astore_n 1, 1) := by decide +kernel
theorem d_La_law_8 : decode code 8 = .ok (.new 10, 3) := by decide +kernel
theorem d_La_law_11 : decode code 11 = .ok (.dup, 1) := by decide +kernel
theorem d_La_law_12 : decode code 12 = .ok (.invokespecial 12, 3) := by decide +kernel
theorem d_La_law_15 : decode code 15 = .ok (.astore_n 2, 1) := by decide +kernel
theorem d_La_law_16 : decode code 16 = .ok (.iconst 0, 1) := by decide +kernel
theorem d_La_law_17 : decode code 17 = .ok (.istore_n 3, 1) := by decide +kernel
theorem d_La_law_18 : decode code 18 = .ok (.iload_n 3, 1) := by decide +kernel
theorem d_La_law_19 : decode code 19 = .ok (.aload_n 0, 1) := by decide +kernel
theorem d_La_law_20 : decode code 20 = .ok (.arraylength, 1) := by decide +kernel
theorem d_La_law_21 : decode code 21 = .ok (.iconst 5, 1) := by decide +kernel
theorem d_La_law_22 : decode code 22 = .ok (.isub, 1) := by decide +kernel
theorem d_La_law_23 : decode code 23 = .ok (.if_icmp .gt 760, 3) := by decide +kernel
theorem d_La_law_26 : decode code 26 = .ok (.aload_n 0, 1) := by decide +kernel
theorem d_La_law_27 : decode code 27 = .ok (.iload_n 3, 1) := by decide +kernel
theorem d_La_law_28 : decode code 28 = .ok (.iaload, 1) := by decide +kernel
theorem d_La_law_29 : decode code 29 = .ok (.bipush 31, 2) := by decide +kernel
theorem d_La_law_31 : decode code 31 = .ok (.iand, 1) := by decide +kernel
theorem d_La_law_32 : decode code 32 = .ok (.tableswitch 745 0 19 #[96, 109, 162, 221, 270, 319, 352, 385, 408, 442, 475, 508, 531, 544, 557, 580, 613, 646, 679, 712], 96) := by decide +kernel
theorem d_La_law_128 : decode code 128 = .ok (.aload_n 1, 1) := by decide +kernel
theorem d_La_law_129 : decode code 129 = .ok (.invokevirtual 13, 3) := by decide +kernel
theorem d_La_law_132 : decode code 132 = .ok (.aload_n 2, 1) := by decide +kernel
theorem d_La_law_133 : decode code 133 = .ok (.invokevirtual 17, 3) := by decide +kernel
theorem d_La_law_136 : decode code 136 = .ok (.if_icmp .eq 641, 3) := by decide +kernel
theorem d_La_law_139 : decode code 139 = .ok (.iconst 0, 1) := by decide +kernel
theorem d_La_law_140 : decode code 140 = .ok (.ireturn, 1) := by decide +kernel
theorem d_La_law_141 : decode code 141 = .ok (.aload_n 1, 1) := by decide +kernel
theorem d_La_law_142 : decode code 142 = .ok (.aload_n 0, 1) := by decide +kernel
theorem d_La_law_143 : decode code 143 = .ok (.iload_n 3, 1) := by decide +kernel
theorem d_La_law_144 : decode code 144 = .ok (.iconst 1, 1) := by decide +kernel
theorem d_La_law_145 : decode code 145 = .ok (.iadd, 1) := by decide +kernel
theorem d_La_law_146 : decode code 146 = .ok (.iaload, 1) := by decide +kernel
theorem d_La_law_147 : decode code 147 = .ok (.aload_n 0, 1) := by decide +kernel
theorem d_La_law_148 : decode code 148 = .ok (.iload_n 3, 1) := by decide +kernel
theorem d_La_law_149 : decode code 149 = .ok (.iconst 2, 1) := by decide +kernel
theorem d_La_law_150 : decode code 150 = .ok (.iadd, 1) := by decide +kernel
theorem d_La_law_151 : decode code 151 = .ok (.iaload, 1) := by decide +kernel
theorem d_La_law_152 : decode code 152 = .ok (.aload_n 0, 1) := by decide +kernel
theorem d_La_law_153 : decode code 153 = .ok (.iload_n 3, 1) := by decide +kernel
theorem d_La_law_154 : decode code 154 = .ok (.iconst 3, 1) := by decide +kernel
theorem d_La_law_155 : decode code 155 = .ok (.iadd, 1) := by decide +kernel
theorem d_La_law_156 : decode code 156 = .ok (.iaload, 1) := by decide +kernel
theorem d_La_law_157 : decode code 157 = .ok (.aload_n 0, 1) := by decide +kernel
theorem d_La_law_158 : decode code 158 = .ok (.iload_n 3, 1) := by decide +kernel
theorem d_La_law_159 : decode code 159 = .ok (.iconst 4, 1) := by decide +kernel
theorem d_La_law_160 : decode code 160 = .ok (.iadd, 1) := by decide +kernel
theorem d_La_law_161 : decode code 161 = .ok (.iaload, 1) := by decide +kernel
theorem d_La_law_162 : decode code 162 = .ok (.invokevirtual 18, 3) := by decide +kernel
theorem d_La_law_165 : decode code 165 = .ok (.aload_n 2, 1) := by decide +kernel
theorem d_La_law_166 : decode code 166 = .ok (.aload_n 0, 1) := by decide +kernel
theorem d_La_law_167 : decode code 167 = .ok (.iload_n 3, 1) := by decide +kernel
theorem d_La_law_168 : decode code 168 = .ok (.iconst 1, 1) := by decide +kernel
theorem d_La_law_169 : decode code 169 = .ok (.iadd, 1) := by decide +kernel
theorem d_La_law_170 : decode code 170 = .ok (.iaload, 1) := by decide +kernel
theorem d_La_law_171 : decode code 171 = .ok (.aload_n 0, 1) := by decide +kernel
theorem d_La_law_172 : decode code 172 = .ok (.iload_n 3, 1) := by decide +kernel
theorem d_La_law_173 : decode code 173 = .ok (.iconst 2, 1) := by decide +kernel
theorem d_La_law_174 : decode code 174 = .ok (.iadd, 1) := by decide +kernel
theorem d_La_law_175 : decode code 175 = .ok (.iaload, 1) := by decide +kernel
theorem d_La_law_176 : decode code 176 = .ok (.aload_n 0, 1) := by decide +kernel
theorem d_La_law_177 : decode code 177 = .ok (.iload_n 3, 1) := by decide +kernel
theorem d_La_law_178 : decode code 178 = .ok (.iconst 3, 1) := by decide +kernel
theorem d_La_law_179 : decode code 179 = .ok (.iadd, 1) := by decide +kernel
theorem d_La_law_180 : decode code 180 = .ok (.iaload, 1) := by decide +kernel
theorem d_La_law_181 : decode code 181 = .ok (.aload_n 0, 1) := by decide +kernel
theorem d_La_law_182 : decode code 182 = .ok (.iload_n 3, 1) := by decide +kernel
theorem d_La_law_183 : decode code 183 = .ok (.iconst 4, 1) := by decide +kernel
theorem d_La_law_184 : decode code 184 = .ok (.iadd, 1) := by decide +kernel
theorem d_La_law_185 : decode code 185 = .ok (.iaload, 1) := by decide +kernel
theorem d_La_law_186 : decode code 186 = .ok (.invokevirtual 22, 3) := by decide +kernel
theorem d_La_law_189 : decode code 189 = .ok (.if_icmp .eq 588, 3) := by decide +kernel
theorem d_La_law_192 : decode code 192 = .ok (.iconst 0, 1) := by decide +kernel
theorem d_La_law_193 : decode code 193 = .ok (.ireturn, 1) := by decide +kernel
theorem d_La_law_194 : decode code 194 = .ok (.aload_n 1, 1) := by decide +kernel
theorem d_La_law_195 : decode code 195 = .ok (.aload_n 0, 1) := by decide +kernel
theorem d_La_law_196 : decode code 196 = .ok (.iload_n 3, 1) := by decide +kernel
theorem d_La_law_197 : decode code 197 = .ok (.iconst 1, 1) := by decide +kernel
theorem d_La_law_198 : decode code 198 = .ok (.iadd, 1) := by decide +kernel
theorem d_La_law_199 : decode code 199 = .ok (.iaload, 1) := by decide +kernel
theorem d_La_law_200 : decode code 200 = .ok (.aload_n 0, 1) := by decide +kernel
theorem d_La_law_201 : decode code 201 = .ok (.iload_n 3, 1) := by decide +kernel
theorem d_La_law_202 : decode code 202 = .ok (.iconst 2, 1) := by decide +kernel
theorem d_La_law_203 : decode code 203 = .ok (.iadd, 1) := by decide +kernel
theorem d_La_law_204 : decode code 204 = .ok (.iaload, 1) := by decide +kernel
theorem d_La_law_205 : decode code 205 = .ok (.aload_n 0, 1) := by decide +kernel
theorem d_La_law_206 : decode code 206 = .ok (.iload_n 3, 1) := by decide +kernel
theorem d_La_law_207 : decode code 207 = .ok (.iconst 3, 1) := by decide +kernel
theorem d_La_law_208 : decode code 208 = .ok (.iadd, 1) := by decide +kernel
theorem d_La_law_209 : decode code 209 = .ok (.iaload, 1) := by decide +kernel
theorem d_La_law_210 : decode code 210 = .ok (.ifCond .eq 7, 3) := by decide +kernel
theorem d_La_law_213 : decode code 213 = .ok (.iconst 1, 1) := by decide +kernel
theorem d_La_law_214 : decode code 214 = .ok (.goto 4, 3) := by decide +kernel
theorem d_La_law_217 : decode code 217 = .ok (.iconst 0, 1) := by decide +kernel
theorem d_La_law_218 : decode code 218 = .ok (.invokevirtual 23, 3) := by decide +kernel
theorem d_La_law_221 : decode code 221 = .ok (.aload_n 2, 1) := by decide +kernel
theorem d_La_law_222 : decode code 222 = .ok (.aload_n 0, 1) := by decide +kernel
theorem d_La_law_223 : decode code 223 = .ok (.iload_n 3, 1) := by decide +kernel
theorem d_La_law_224 : decode code 224 = .ok (.iconst 1, 1) := by decide +kernel
theorem d_La_law_225 : decode code 225 = .ok (.iadd, 1) := by decide +kernel
theorem d_La_law_226 : decode code 226 = .ok (.iaload, 1) := by decide +kernel
theorem d_La_law_227 : decode code 227 = .ok (.aload_n 0, 1) := by decide +kernel
theorem d_La_law_228 : decode code 228 = .ok (.iload_n 3, 1) := by decide +kernel
theorem d_La_law_229 : decode code 229 = .ok (.iconst 2, 1) := by decide +kernel
theorem d_La_law_230 : decode code 230 = .ok (.iadd, 1) := by decide +kernel
theorem d_La_law_231 : decode code 231 = .ok (.iaload, 1) := by decide +kernel
theorem d_La_law_232 : decode code 232 = .ok (.aload_n 0, 1) := by decide +kernel
theorem d_La_law_233 : decode code 233 = .ok (.iload_n 3, 1) := by decide +kernel
theorem d_La_law_234 : decode code 234 = .ok (.iconst 3, 1) := by decide +kernel
theorem d_La_law_235 : decode code 235 = .ok (.iadd, 1) := by decide +kernel
theorem d_La_law_236 : decode code 236 = .ok (.iaload, 1) := by decide +kernel
theorem d_La_law_237 : decode code 237 = .ok (.ifCond .eq 7, 3) := by decide +kernel
theorem d_La_law_240 : decode code 240 = .ok (.iconst 1, 1) := by decide +kernel
theorem d_La_law_241 : decode code 241 = .ok (.goto 4, 3) := by decide +kernel
theorem d_La_law_244 : decode code 244 = .ok (.iconst 0, 1) := by decide +kernel
theorem d_La_law_245 : decode code 245 = .ok (.invokevirtual 27, 3) := by decide +kernel
theorem d_La_law_248 : decode code 248 = .ok (.if_icmp .eq 529, 3) := by decide +kernel
theorem d_La_law_251 : decode code 251 = .ok (.iconst 0, 1) := by decide +kernel
theorem d_La_law_252 : decode code 252 = .ok (.ireturn, 1) := by decide +kernel
theorem d_La_law_253 : decode code 253 = .ok (.aload_n 1, 1) := by decide +kernel
theorem d_La_law_254 : decode code 254 = .ok (.aload_n 0, 1) := by decide +kernel
theorem d_La_law_255 : decode code 255 = .ok (.iload_n 3, 1) := by decide +kernel
theorem d_La_law_256 : decode code 256 = .ok (.iconst 1, 1) := by decide +kernel
theorem d_La_law_257 : decode code 257 = .ok (.iadd, 1) := by decide +kernel
theorem d_La_law_258 : decode code 258 = .ok (.iaload, 1) := by decide +kernel
theorem d_La_law_259 : decode code 259 = .ok (.aload_n 0, 1) := by decide +kernel
theorem d_La_law_260 : decode code 260 = .ok (.iload_n 3, 1) := by decide +kernel
theorem d_La_law_261 : decode code 261 = .ok (.iconst 2, 1) := by decide +kernel
theorem d_La_law_262 : decode code 262 = .ok (.iadd, 1) := by decide +kernel
theorem d_La_law_263 : decode code 263 = .ok (.iaload, 1) := by decide +kernel
theorem d_La_law_264 : decode code 264 = .ok (.ifCond .eq 7, 3) := by decide +kernel
theorem d_La_law_267 : decode code 267 = .ok (.iconst 1, 1) := by decide +kernel
theorem d_La_law_268 : decode code 268 = .ok (.goto 4, 3) := by decide +kernel
theorem d_La_law_271 : decode code 271 = .ok (.iconst 0, 1) := by decide +kernel
theorem d_La_law_272 : decode code 272 = .ok (.invokevirtual 28, 3) := by decide +kernel
theorem d_La_law_275 : decode code 275 = .ok (.aload_n 2, 1) := by decide +kernel
theorem d_La_law_276 : decode code 276 = .ok (.aload_n 0, 1) := by decide +kernel
theorem d_La_law_277 : decode code 277 = .ok (.iload_n 3, 1) := by decide +kernel
theorem d_La_law_278 : decode code 278 = .ok (.iconst 1, 1) := by decide +kernel
theorem d_La_law_279 : decode code 279 = .ok (.iadd, 1) := by decide +kernel
theorem d_La_law_280 : decode code 280 = .ok (.iaload, 1) := by decide +kernel
theorem d_La_law_281 : decode code 281 = .ok (.aload_n 0, 1) := by decide +kernel
theorem d_La_law_282 : decode code 282 = .ok (.iload_n 3, 1) := by decide +kernel
theorem d_La_law_283 : decode code 283 = .ok (.iconst 2, 1) := by decide +kernel
theorem d_La_law_284 : decode code 284 = .ok (.iadd, 1) := by decide +kernel
theorem d_La_law_285 : decode code 285 = .ok (.iaload, 1) := by decide +kernel
theorem d_La_law_286 : decode code 286 = .ok (.ifCond .eq 7, 3) := by decide +kernel
theorem d_La_law_289 : decode code 289 = .ok (.iconst 1, 1) := by decide +kernel
theorem d_La_law_290 : decode code 290 = .ok (.goto 4, 3) := by decide +kernel
theorem d_La_law_293 : decode code 293 = .ok (.iconst 0, 1) := by decide +kernel
theorem d_La_law_294 : decode code 294 = .ok (.invokevirtual 32, 3) := by decide +kernel
theorem d_La_law_297 : decode code 297 = .ok (.if_icmp .eq 480, 3) := by decide +kernel
theorem d_La_law_300 : decode code 300 = .ok (.iconst 0, 1) := by decide +kernel
theorem d_La_law_301 : decode code 301 = .ok (.ireturn, 1) := by decide +kernel
theorem d_La_law_302 : decode code 302 = .ok (.aload_n 1, 1) := by decide +kernel
theorem d_La_law_303 : decode code 303 = .ok (.aload_n 0, 1) := by decide +kernel
theorem d_La_law_304 : decode code 304 = .ok (.iload_n 3, 1) := by decide +kernel
theorem d_La_law_305 : decode code 305 = .ok (.iconst 1, 1) := by decide +kernel
theorem d_La_law_306 : decode code 306 = .ok (.iadd, 1) := by decide +kernel
theorem d_La_law_307 : decode code 307 = .ok (.iaload, 1) := by decide +kernel
theorem d_La_law_308 : decode code 308 = .ok (.aload_n 0, 1) := by decide +kernel
theorem d_La_law_309 : decode code 309 = .ok (.iload_n 3, 1) := by decide +kernel
theorem d_La_law_310 : decode code 310 = .ok (.iconst 2, 1) := by decide +kernel
theorem d_La_law_311 : decode code 311 = .ok (.iadd, 1) := by decide +kernel
theorem d_La_law_312 : decode code 312 = .ok (.iaload, 1) := by decide +kernel
theorem d_La_law_313 : decode code 313 = .ok (.ifCond .eq 7, 3) := by decide +kernel
theorem d_La_law_316 : decode code 316 = .ok (.iconst 1, 1) := by decide +kernel
theorem d_La_law_317 : decode code 317 = .ok (.goto 4, 3) := by decide +kernel
theorem d_La_law_320 : decode code 320 = .ok (.iconst 0, 1) := by decide +kernel
theorem d_La_law_321 : decode code 321 = .ok (.invokevirtual 33, 3) := by decide +kernel
theorem d_La_law_324 : decode code 324 = .ok (.aload_n 2, 1) := by decide +kernel
theorem d_La_law_325 : decode code 325 = .ok (.aload_n 0, 1) := by decide +kernel
theorem d_La_law_326 : decode code 326 = .ok (.iload_n 3, 1) := by decide +kernel
theorem d_La_law_327 : decode code 327 = .ok (.iconst 1, 1) := by decide +kernel
theorem d_La_law_328 : decode code 328 = .ok (.iadd, 1) := by decide +kernel
theorem d_La_law_329 : decode code 329 = .ok (.iaload, 1) := by decide +kernel
theorem d_La_law_330 : decode code 330 = .ok (.aload_n 0, 1) := by decide +kernel
theorem d_La_law_331 : decode code 331 = .ok (.iload_n 3, 1) := by decide +kernel
theorem d_La_law_332 : decode code 332 = .ok (.iconst 2, 1) := by decide +kernel
theorem d_La_law_333 : decode code 333 = .ok (.iadd, 1) := by decide +kernel
theorem d_La_law_334 : decode code 334 = .ok (.iaload, 1) := by decide +kernel
theorem d_La_law_335 : decode code 335 = .ok (.ifCond .eq 7, 3) := by decide +kernel
theorem d_La_law_338 : decode code 338 = .ok (.iconst 1, 1) := by decide +kernel
theorem d_La_law_339 : decode code 339 = .ok (.goto 4, 3) := by decide +kernel
theorem d_La_law_342 : decode code 342 = .ok (.iconst 0, 1) := by decide +kernel
theorem d_La_law_343 : decode code 343 = .ok (.invokevirtual 36, 3) := by decide +kernel
theorem d_La_law_346 : decode code 346 = .ok (.if_icmp .eq 431, 3) := by decide +kernel
theorem d_La_law_349 : decode code 349 = .ok (.iconst 0, 1) := by decide +kernel
theorem d_La_law_350 : decode code 350 = .ok (.ireturn, 1) := by decide +kernel
theorem d_La_law_351 : decode code 351 = .ok (.aload_n 1, 1) := by decide +kernel
theorem d_La_law_352 : decode code 352 = .ok (.aload_n 0, 1) := by decide +kernel
theorem d_La_law_353 : decode code 353 = .ok (.iload_n 3, 1) := by decide +kernel
theorem d_La_law_354 : decode code 354 = .ok (.iconst 1, 1) := by decide +kernel
theorem d_La_law_355 : decode code 355 = .ok (.iadd, 1) := by decide +kernel
theorem d_La_law_356 : decode code 356 = .ok (.iaload, 1) := by decide +kernel
theorem d_La_law_357 : decode code 357 = .ok (.aload_n 0, 1) := by decide +kernel
theorem d_La_law_358 : decode code 358 = .ok (.iload_n 3, 1) := by decide +kernel
theorem d_La_law_359 : decode code 359 = .ok (.iconst 2, 1) := by decide +kernel
theorem d_La_law_360 : decode code 360 = .ok (.iadd, 1) := by decide +kernel
theorem d_La_law_361 : decode code 361 = .ok (.iaload, 1) := by decide +kernel
theorem d_La_law_362 : decode code 362 = .ok (.invokevirtual 37, 3) := by decide +kernel
theorem d_La_law_365 : decode code 365 = .ok (.aload_n 2, 1) := by decide +kernel
theorem d_La_law_366 : decode code 366 = .ok (.aload_n 0, 1) := by decide +kernel
theorem d_La_law_367 : decode code 367 = .ok (.iload_n 3, 1) := by decide +kernel
theorem d_La_law_368 : decode code 368 = .ok (.iconst 1, 1) := by decide +kernel
theorem d_La_law_369 : decode code 369 = .ok (.iadd, 1) := by decide +kernel
theorem d_La_law_370 : decode code 370 = .ok (.iaload, 1) := by decide +kernel
theorem d_La_law_371 : decode code 371 = .ok (.aload_n 0, 1) := by decide +kernel
theorem d_La_law_372 : decode code 372 = .ok (.iload_n 3, 1) := by decide +kernel
theorem d_La_law_373 : decode code 373 = .ok (.iconst 2, 1) := by decide +kernel
theorem d_La_law_374 : decode code 374 = .ok (.iadd, 1) := by decide +kernel
theorem d_La_law_375 : decode code 375 = .ok (.iaload, 1) := by decide +kernel
theorem d_La_law_376 : decode code 376 = .ok (.invokevirtual 41, 3) := by decide +kernel
theorem d_La_law_379 : decode code 379 = .ok (.if_icmp .eq 398, 3) := by decide +kernel
theorem d_La_law_382 : decode code 382 = .ok (.iconst 0, 1) := by decide +kernel
theorem d_La_law_383 : decode code 383 = .ok (.ireturn, 1) := by decide +kernel
theorem d_La_law_384 : decode code 384 = .ok (.aload_n 1, 1) := by decide +kernel
theorem d_La_law_385 : decode code 385 = .ok (.aload_n 0, 1) := by decide +kernel
theorem d_La_law_386 : decode code 386 = .ok (.iload_n 3, 1) := by decide +kernel
theorem d_La_law_387 : decode code 387 = .ok (.iconst 1, 1) := by decide +kernel
theorem d_La_law_388 : decode code 388 = .ok (.iadd, 1) := by decide +kernel
theorem d_La_law_389 : decode code 389 = .ok (.iaload, 1) := by decide +kernel
theorem d_La_law_390 : decode code 390 = .ok (.aload_n 0, 1) := by decide +kernel
theorem d_La_law_391 : decode code 391 = .ok (.iload_n 3, 1) := by decide +kernel
theorem d_La_law_392 : decode code 392 = .ok (.iconst 2, 1) := by decide +kernel
theorem d_La_law_393 : decode code 393 = .ok (.iadd, 1) := by decide +kernel
theorem d_La_law_394 : decode code 394 = .ok (.iaload, 1) := by decide +kernel
theorem d_La_law_395 : decode code 395 = .ok (.invokevirtual 42, 3) := by decide +kernel
theorem d_La_law_398 : decode code 398 = .ok (.aload_n 2, 1) := by decide +kernel
theorem d_La_law_399 : decode code 399 = .ok (.aload_n 0, 1) := by decide +kernel
theorem d_La_law_400 : decode code 400 = .ok (.iload_n 3, 1) := by decide +kernel
theorem d_La_law_401 : decode code 401 = .ok (.iconst 1, 1) := by decide +kernel
theorem d_La_law_402 : decode code 402 = .ok (.iadd, 1) := by decide +kernel
theorem d_La_law_403 : decode code 403 = .ok (.iaload, 1) := by decide +kernel
theorem d_La_law_404 : decode code 404 = .ok (.aload_n 0, 1) := by decide +kernel
theorem d_La_law_405 : decode code 405 = .ok (.iload_n 3, 1) := by decide +kernel
theorem d_La_law_406 : decode code 406 = .ok (.iconst 2, 1) := by decide +kernel
theorem d_La_law_407 : decode code 407 = .ok (.iadd, 1) := by decide +kernel
theorem d_La_law_408 : decode code 408 = .ok (.iaload, 1) := by decide +kernel
theorem d_La_law_409 : decode code 409 = .ok (.invokevirtual 45, 3) := by decide +kernel
theorem d_La_law_412 : decode code 412 = .ok (.if_icmp .eq 365, 3) := by decide +kernel
theorem d_La_law_415 : decode code 415 = .ok (.iconst 0, 1) := by decide +kernel
theorem d_La_law_416 : decode code 416 = .ok (.ireturn, 1) := by decide +kernel
theorem d_La_law_417 : decode code 417 = .ok (.aload_n 1, 1) := by decide +kernel
theorem d_La_law_418 : decode code 418 = .ok (.aload_n 0, 1) := by decide +kernel
theorem d_La_law_419 : decode code 419 = .ok (.iload_n 3, 1) := by decide +kernel
theorem d_La_law_420 : decode code 420 = .ok (.iconst 1, 1) := by decide +kernel
theorem d_La_law_421 : decode code 421 = .ok (.iadd, 1) := by decide +kernel
theorem d_La_law_422 : decode code 422 = .ok (.iaload, 1) := by decide +kernel
theorem d_La_law_423 : decode code 423 = .ok (.invokevirtual 46, 3) := by decide +kernel
theorem d_La_law_426 : decode code 426 = .ok (.aload_n 2, 1) := by decide +kernel
theorem d_La_law_427 : decode code 427 = .ok (.aload_n 0, 1) := by decide +kernel
theorem d_La_law_428 : decode code 428 = .ok (.iload_n 3, 1) := by decide +kernel
theorem d_La_law_429 : decode code 429 = .ok (.iconst 1, 1) := by decide +kernel
theorem d_La_law_430 : decode code 430 = .ok (.iadd, 1) := by decide +kernel
theorem d_La_law_431 : decode code 431 = .ok (.iaload, 1) := by decide +kernel
theorem d_La_law_432 : decode code 432 = .ok (.invokevirtual 50, 3) := by decide +kernel
theorem d_La_law_435 : decode code 435 = .ok (.if_icmp .eq 342, 3) := by decide +kernel
theorem d_La_law_438 : decode code 438 = .ok (.iconst 0, 1) := by decide +kernel
theorem d_La_law_439 : decode code 439 = .ok (.ireturn, 1) := by decide +kernel
theorem d_La_law_440 : decode code 440 = .ok (.aload_n 1, 1) := by decide +kernel
theorem d_La_law_441 : decode code 441 = .ok (.aload_n 0, 1) := by decide +kernel
theorem d_La_law_442 : decode code 442 = .ok (.iload_n 3, 1) := by decide +kernel
theorem d_La_law_443 : decode code 443 = .ok (.iconst 1, 1) := by decide +kernel
theorem d_La_law_444 : decode code 444 = .ok (.iadd, 1) := by decide +kernel
theorem d_La_law_445 : decode code 445 = .ok (.iaload, 1) := by decide +kernel
theorem d_La_law_446 : decode code 446 = .ok (.aload_n 0, 1) := by decide +kernel
theorem d_La_law_447 : decode code 447 = .ok (.iload_n 3, 1) := by decide +kernel
theorem d_La_law_448 : decode code 448 = .ok (.iconst 2, 1) := by decide +kernel
theorem d_La_law_449 : decode code 449 = .ok (.iadd, 1) := by decide +kernel
theorem d_La_law_450 : decode code 450 = .ok (.iaload, 1) := by decide +kernel
theorem d_La_law_451 : decode code 451 = .ok (.invokevirtual 51, 3) := by decide +kernel
theorem d_La_law_454 : decode code 454 = .ok (.aload_n 2, 1) := by decide +kernel
theorem d_La_law_455 : decode code 455 = .ok (.aload_n 0, 1) := by decide +kernel
theorem d_La_law_456 : decode code 456 = .ok (.iload_n 3, 1) := by decide +kernel
theorem d_La_law_457 : decode code 457 = .ok (.iconst 1, 1) := by decide +kernel
theorem d_La_law_458 : decode code 458 = .ok (.iadd, 1) := by decide +kernel
theorem d_La_law_459 : decode code 459 = .ok (.iaload, 1) := by decide +kernel
theorem d_La_law_460 : decode code 460 = .ok (.aload_n 0, 1) := by decide +kernel
theorem d_La_law_461 : decode code 461 = .ok (.iload_n 3, 1) := by decide +kernel
theorem d_La_law_462 : decode code 462 = .ok (.iconst 2, 1) := by decide +kernel
theorem d_La_law_463 : decode code 463 = .ok (.iadd, 1) := by decide +kernel
theorem d_La_law_464 : decode code 464 = .ok (.iaload, 1) := by decide +kernel
theorem d_La_law_465 : decode code 465 = .ok (.invokevirtual 55, 3) := by decide +kernel
theorem d_La_law_468 : decode code 468 = .ok (.lcmp, 1) := by decide +kernel
theorem d_La_law_469 : decode code 469 = .ok (.ifCond .eq 308, 3) := by decide +kernel
theorem d_La_law_472 : decode code 472 = .ok (.iconst 0, 1) := by decide +kernel
theorem d_La_law_473 : decode code 473 = .ok (.ireturn, 1) := by decide +kernel
theorem d_La_law_474 : decode code 474 = .ok (.aload_n 1, 1) := by decide +kernel
theorem d_La_law_475 : decode code 475 = .ok (.aload_n 0, 1) := by decide +kernel
theorem d_La_law_476 : decode code 476 = .ok (.iload_n 3, 1) := by decide +kernel
theorem d_La_law_477 : decode code 477 = .ok (.iconst 1, 1) := by decide +kernel
theorem d_La_law_478 : decode code 478 = .ok (.iadd, 1) := by decide +kernel
theorem d_La_law_479 : decode code 479 = .ok (.iaload, 1) := by decide +kernel
theorem d_La_law_480 : decode code 480 = .ok (.aload_n 0, 1) := by decide +kernel
theorem d_La_law_481 : decode code 481 = .ok (.iload_n 3, 1) := by decide +kernel
theorem d_La_law_482 : decode code 482 = .ok (.iconst 2, 1) := by decide +kernel
theorem d_La_law_483 : decode code 483 = .ok (.iadd, 1) := by decide +kernel
theorem d_La_law_484 : decode code 484 = .ok (.iaload, 1) := by decide +kernel
theorem d_La_law_485 : decode code 485 = .ok (.invokevirtual 56, 3) := by decide +kernel
theorem d_La_law_488 : decode code 488 = .ok (.aload_n 2, 1) := by decide +kernel
theorem d_La_law_489 : decode code 489 = .ok (.aload_n 0, 1) := by decide +kernel
theorem d_La_law_490 : decode code 490 = .ok (.iload_n 3, 1) := by decide +kernel
theorem d_La_law_491 : decode code 491 = .ok (.iconst 1, 1) := by decide +kernel
theorem d_La_law_492 : decode code 492 = .ok (.iadd, 1) := by decide +kernel
theorem d_La_law_493 : decode code 493 = .ok (.iaload, 1) := by decide +kernel
theorem d_La_law_494 : decode code 494 = .ok (.aload_n 0, 1) := by decide +kernel
theorem d_La_law_495 : decode code 495 = .ok (.iload_n 3, 1) := by decide +kernel
theorem d_La_law_496 : decode code 496 = .ok (.iconst 2, 1) := by decide +kernel
theorem d_La_law_497 : decode code 497 = .ok (.iadd, 1) := by decide +kernel
theorem d_La_law_498 : decode code 498 = .ok (.iaload, 1) := by decide +kernel
theorem d_La_law_499 : decode code 499 = .ok (.invokevirtual 60, 3) := by decide +kernel
theorem d_La_law_502 : decode code 502 = .ok (.if_icmp .eq 275, 3) := by decide +kernel
theorem d_La_law_505 : decode code 505 = .ok (.iconst 0, 1) := by decide +kernel
theorem d_La_law_506 : decode code 506 = .ok (.ireturn, 1) := by decide +kernel
theorem d_La_law_507 : decode code 507 = .ok (.aload_n 1, 1) := by decide +kernel
theorem d_La_law_508 : decode code 508 = .ok (.aload_n 0, 1) := by decide +kernel
theorem d_La_law_509 : decode code 509 = .ok (.iload_n 3, 1) := by decide +kernel
theorem d_La_law_510 : decode code 510 = .ok (.iconst 1, 1) := by decide +kernel
theorem d_La_law_511 : decode code 511 = .ok (.iadd, 1) := by decide +kernel
theorem d_La_law_512 : decode code 512 = .ok (.iaload, 1) := by decide +kernel
theorem d_La_law_513 : decode code 513 = .ok (.aload_n 0, 1) := by decide +kernel
theorem d_La_law_514 : decode code 514 = .ok (.iload_n 3, 1) := by decide +kernel
theorem d_La_law_515 : decode code 515 = .ok (.iconst 2, 1) := by decide +kernel
theorem d_La_law_516 : decode code 516 = .ok (.iadd, 1) := by decide +kernel
theorem d_La_law_517 : decode code 517 = .ok (.iaload, 1) := by decide +kernel
theorem d_La_law_518 : decode code 518 = .ok (.invokevirtual 61, 3) := by decide +kernel
theorem d_La_law_521 : decode code 521 = .ok (.aload_n 2, 1) := by decide +kernel
theorem d_La_law_522 : decode code 522 = .ok (.aload_n 0, 1) := by decide +kernel
theorem d_La_law_523 : decode code 523 = .ok (.iload_n 3, 1) := by decide +kernel
theorem d_La_law_524 : decode code 524 = .ok (.iconst 1, 1) := by decide +kernel
theorem d_La_law_525 : decode code 525 = .ok (.iadd, 1) := by decide +kernel
theorem d_La_law_526 : decode code 526 = .ok (.iaload, 1) := by decide +kernel
theorem d_La_law_527 : decode code 527 = .ok (.aload_n 0, 1) := by decide +kernel
theorem d_La_law_528 : decode code 528 = .ok (.iload_n 3, 1) := by decide +kernel
theorem d_La_law_529 : decode code 529 = .ok (.iconst 2, 1) := by decide +kernel
theorem d_La_law_530 : decode code 530 = .ok (.iadd, 1) := by decide +kernel
theorem d_La_law_531 : decode code 531 = .ok (.iaload, 1) := by decide +kernel
theorem d_La_law_532 : decode code 532 = .ok (.invokevirtual 64, 3) := by decide +kernel
theorem d_La_law_535 : decode code 535 = .ok (.if_icmp .eq 242, 3) := by decide +kernel
theorem d_La_law_538 : decode code 538 = .ok (.iconst 0, 1) := by decide +kernel
theorem d_La_law_539 : decode code 539 = .ok (.ireturn, 1) := by decide +kernel
theorem d_La_law_540 : decode code 540 = .ok (.aload_n 1, 1) := by decide +kernel
theorem d_La_law_541 : decode code 541 = .ok (.aload_n 0, 1) := by decide +kernel
theorem d_La_law_542 : decode code 542 = .ok (.iload_n 3, 1) := by decide +kernel
theorem d_La_law_543 : decode code 543 = .ok (.iconst 1, 1) := by decide +kernel
theorem d_La_law_544 : decode code 544 = .ok (.iadd, 1) := by decide +kernel
theorem d_La_law_545 : decode code 545 = .ok (.iaload, 1) := by decide +kernel
theorem d_La_law_546 : decode code 546 = .ok (.invokevirtual 65, 3) := by decide +kernel
theorem d_La_law_549 : decode code 549 = .ok (.aload_n 2, 1) := by decide +kernel
theorem d_La_law_550 : decode code 550 = .ok (.aload_n 0, 1) := by decide +kernel
theorem d_La_law_551 : decode code 551 = .ok (.iload_n 3, 1) := by decide +kernel
theorem d_La_law_552 : decode code 552 = .ok (.iconst 1, 1) := by decide +kernel
theorem d_La_law_553 : decode code 553 = .ok (.iadd, 1) := by decide +kernel
theorem d_La_law_554 : decode code 554 = .ok (.iaload, 1) := by decide +kernel
theorem d_La_law_555 : decode code 555 = .ok (.invokevirtual 68, 3) := by decide +kernel
theorem d_La_law_558 : decode code 558 = .ok (.if_icmp .eq 219, 3) := by decide +kernel
theorem d_La_law_561 : decode code 561 = .ok (.iconst 0, 1) := by decide +kernel
theorem d_La_law_562 : decode code 562 = .ok (.ireturn, 1) := by decide +kernel
theorem d_La_law_563 : decode code 563 = .ok (.aload_n 1, 1) := by decide +kernel
theorem d_La_law_564 : decode code 564 = .ok (.invokevirtual 69, 3) := by decide +kernel
theorem d_La_law_567 : decode code 567 = .ok (.aload_n 2, 1) := by decide +kernel
theorem d_La_law_568 : decode code 568 = .ok (.invokevirtual 73, 3) := by decide +kernel
theorem d_La_law_571 : decode code 571 = .ok (.if_icmp .eq 206, 3) := by decide +kernel
theorem d_La_law_574 : decode code 574 = .ok (.iconst 0, 1) := by decide +kernel
theorem d_La_law_575 : decode code 575 = .ok (.ireturn, 1) := by decide +kernel
theorem d_La_law_576 : decode code 576 = .ok (.aload_n 1, 1) := by decide +kernel
theorem d_La_law_577 : decode code 577 = .ok (.invokevirtual 74, 3) := by decide +kernel
theorem d_La_law_580 : decode code 580 = .ok (.aload_n 2, 1) := by decide +kernel
theorem d_La_law_581 : decode code 581 = .ok (.invokevirtual 77, 3) := by decide +kernel
theorem d_La_law_584 : decode code 584 = .ok (.if_icmp .eq 193, 3) := by decide +kernel
theorem d_La_law_587 : decode code 587 = .ok (.iconst 0, 1) := by decide +kernel
theorem d_La_law_588 : decode code 588 = .ok (.ireturn, 1) := by decide +kernel
theorem d_La_law_589 : decode code 589 = .ok (.aload_n 1, 1) := by decide +kernel
theorem d_La_law_590 : decode code 590 = .ok (.aload_n 0, 1) := by decide +kernel
theorem d_La_law_591 : decode code 591 = .ok (.iload_n 3, 1) := by decide +kernel
theorem d_La_law_592 : decode code 592 = .ok (.iconst 1, 1) := by decide +kernel
theorem d_La_law_593 : decode code 593 = .ok (.iadd, 1) := by decide +kernel
theorem d_La_law_594 : decode code 594 = .ok (.iaload, 1) := by decide +kernel
theorem d_La_law_595 : decode code 595 = .ok (.invokevirtual 78, 3) := by decide +kernel
theorem d_La_law_598 : decode code 598 = .ok (.aload_n 2, 1) := by decide +kernel
theorem d_La_law_599 : decode code 599 = .ok (.aload_n 0, 1) := by decide +kernel
theorem d_La_law_600 : decode code 600 = .ok (.iload_n 3, 1) := by decide +kernel
theorem d_La_law_601 : decode code 601 = .ok (.iconst 1, 1) := by decide +kernel
theorem d_La_law_602 : decode code 602 = .ok (.iadd, 1) := by decide +kernel
theorem d_La_law_603 : decode code 603 = .ok (.iaload, 1) := by decide +kernel
theorem d_La_law_604 : decode code 604 = .ok (.invokevirtual 81, 3) := by decide +kernel
theorem d_La_law_607 : decode code 607 = .ok (.if_icmp .eq 170, 3) := by decide +kernel
theorem d_La_law_610 : decode code 610 = .ok (.iconst 0, 1) := by decide +kernel
theorem d_La_law_611 : decode code 611 = .ok (.ireturn, 1) := by decide +kernel
theorem d_La_law_612 : decode code 612 = .ok (.aload_n 1, 1) := by decide +kernel
theorem d_La_law_613 : decode code 613 = .ok (.aload_n 0, 1) := by decide +kernel
theorem d_La_law_614 : decode code 614 = .ok (.iload_n 3, 1) := by decide +kernel
theorem d_La_law_615 : decode code 615 = .ok (.iconst 1, 1) := by decide +kernel
theorem d_La_law_616 : decode code 616 = .ok (.iadd, 1) := by decide +kernel
theorem d_La_law_617 : decode code 617 = .ok (.iaload, 1) := by decide +kernel
theorem d_La_law_618 : decode code 618 = .ok (.aload_n 0, 1) := by decide +kernel
theorem d_La_law_619 : decode code 619 = .ok (.iload_n 3, 1) := by decide +kernel
theorem d_La_law_620 : decode code 620 = .ok (.iconst 2, 1) := by decide +kernel
theorem d_La_law_621 : decode code 621 = .ok (.iadd, 1) := by decide +kernel
theorem d_La_law_622 : decode code 622 = .ok (.iaload, 1) := by decide +kernel
theorem d_La_law_623 : decode code 623 = .ok (.invokevirtual 82, 3) := by decide +kernel
theorem d_La_law_626 : decode code 626 = .ok (.aload_n 2, 1) := by decide +kernel
theorem d_La_law_627 : decode code 627 = .ok (.aload_n 0, 1) := by decide +kernel
theorem d_La_law_628 : decode code 628 = .ok (.iload_n 3, 1) := by decide +kernel
theorem d_La_law_629 : decode code 629 = .ok (.iconst 1, 1) := by decide +kernel
theorem d_La_law_630 : decode code 630 = .ok (.iadd, 1) := by decide +kernel
theorem d_La_law_631 : decode code 631 = .ok (.iaload, 1) := by decide +kernel
theorem d_La_law_632 : decode code 632 = .ok (.aload_n 0, 1) := by decide +kernel
theorem d_La_law_633 : decode code 633 = .ok (.iload_n 3, 1) := by decide +kernel
theorem d_La_law_634 : decode code 634 = .ok (.iconst 2, 1) := by decide +kernel
theorem d_La_law_635 : decode code 635 = .ok (.iadd, 1) := by decide +kernel
theorem d_La_law_636 : decode code 636 = .ok (.iaload, 1) := by decide +kernel
theorem d_La_law_637 : decode code 637 = .ok (.invokevirtual 85, 3) := by decide +kernel
theorem d_La_law_640 : decode code 640 = .ok (.if_icmp .eq 137, 3) := by decide +kernel
theorem d_La_law_643 : decode code 643 = .ok (.iconst 0, 1) := by decide +kernel
theorem d_La_law_644 : decode code 644 = .ok (.ireturn, 1) := by decide +kernel
theorem d_La_law_645 : decode code 645 = .ok (.aload_n 1, 1) := by decide +kernel
theorem d_La_law_646 : decode code 646 = .ok (.aload_n 0, 1) := by decide +kernel
theorem d_La_law_647 : decode code 647 = .ok (.iload_n 3, 1) := by decide +kernel
theorem d_La_law_648 : decode code 648 = .ok (.iconst 1, 1) := by decide +kernel
theorem d_La_law_649 : decode code 649 = .ok (.iadd, 1) := by decide +kernel
theorem d_La_law_650 : decode code 650 = .ok (.iaload, 1) := by decide +kernel
theorem d_La_law_651 : decode code 651 = .ok (.aload_n 0, 1) := by decide +kernel
theorem d_La_law_652 : decode code 652 = .ok (.iload_n 3, 1) := by decide +kernel
theorem d_La_law_653 : decode code 653 = .ok (.iconst 2, 1) := by decide +kernel
theorem d_La_law_654 : decode code 654 = .ok (.iadd, 1) := by decide +kernel
theorem d_La_law_655 : decode code 655 = .ok (.iaload, 1) := by decide +kernel
theorem d_La_law_656 : decode code 656 = .ok (.invokevirtual 86, 3) := by decide +kernel
theorem d_La_law_659 : decode code 659 = .ok (.aload_n 2, 1) := by decide +kernel
theorem d_La_law_660 : decode code 660 = .ok (.aload_n 0, 1) := by decide +kernel
theorem d_La_law_661 : decode code 661 = .ok (.iload_n 3, 1) := by decide +kernel
theorem d_La_law_662 : decode code 662 = .ok (.iconst 1, 1) := by decide +kernel
theorem d_La_law_663 : decode code 663 = .ok (.iadd, 1) := by decide +kernel
theorem d_La_law_664 : decode code 664 = .ok (.iaload, 1) := by decide +kernel
theorem d_La_law_665 : decode code 665 = .ok (.aload_n 0, 1) := by decide +kernel
theorem d_La_law_666 : decode code 666 = .ok (.iload_n 3, 1) := by decide +kernel
theorem d_La_law_667 : decode code 667 = .ok (.iconst 2, 1) := by decide +kernel
theorem d_La_law_668 : decode code 668 = .ok (.iadd, 1) := by decide +kernel
theorem d_La_law_669 : decode code 669 = .ok (.iaload, 1) := by decide +kernel
theorem d_La_law_670 : decode code 670 = .ok (.invokevirtual 89, 3) := by decide +kernel
theorem d_La_law_673 : decode code 673 = .ok (.if_icmp .eq 104, 3) := by decide +kernel
theorem d_La_law_676 : decode code 676 = .ok (.iconst 0, 1) := by decide +kernel
theorem d_La_law_677 : decode code 677 = .ok (.ireturn, 1) := by decide +kernel
theorem d_La_law_678 : decode code 678 = .ok (.aload_n 1, 1) := by decide +kernel
theorem d_La_law_679 : decode code 679 = .ok (.aload_n 0, 1) := by decide +kernel
theorem d_La_law_680 : decode code 680 = .ok (.iload_n 3, 1) := by decide +kernel
theorem d_La_law_681 : decode code 681 = .ok (.iconst 1, 1) := by decide +kernel
theorem d_La_law_682 : decode code 682 = .ok (.iadd, 1) := by decide +kernel
theorem d_La_law_683 : decode code 683 = .ok (.iaload, 1) := by decide +kernel
theorem d_La_law_684 : decode code 684 = .ok (.aload_n 0, 1) := by decide +kernel
theorem d_La_law_685 : decode code 685 = .ok (.iload_n 3, 1) := by decide +kernel
theorem d_La_law_686 : decode code 686 = .ok (.iconst 2, 1) := by decide +kernel
theorem d_La_law_687 : decode code 687 = .ok (.iadd, 1) := by decide +kernel
theorem d_La_law_688 : decode code 688 = .ok (.iaload, 1) := by decide +kernel
theorem d_La_law_689 : decode code 689 = .ok (.invokevirtual 90, 3) := by decide +kernel
theorem d_La_law_692 : decode code 692 = .ok (.aload_n 2, 1) := by decide +kernel
theorem d_La_law_693 : decode code 693 = .ok (.aload_n 0, 1) := by decide +kernel
theorem d_La_law_694 : decode code 694 = .ok (.iload_n 3, 1) := by decide +kernel
theorem d_La_law_695 : decode code 695 = .ok (.iconst 1, 1) := by decide +kernel
theorem d_La_law_696 : decode code 696 = .ok (.iadd, 1) := by decide +kernel
theorem d_La_law_697 : decode code 697 = .ok (.iaload, 1) := by decide +kernel
theorem d_La_law_698 : decode code 698 = .ok (.aload_n 0, 1) := by decide +kernel
theorem d_La_law_699 : decode code 699 = .ok (.iload_n 3, 1) := by decide +kernel
theorem d_La_law_700 : decode code 700 = .ok (.iconst 2, 1) := by decide +kernel
theorem d_La_law_701 : decode code 701 = .ok (.iadd, 1) := by decide +kernel
theorem d_La_law_702 : decode code 702 = .ok (.iaload, 1) := by decide +kernel
theorem d_La_law_703 : decode code 703 = .ok (.invokevirtual 93, 3) := by decide +kernel
theorem d_La_law_706 : decode code 706 = .ok (.if_icmp .eq 71, 3) := by decide +kernel
theorem d_La_law_709 : decode code 709 = .ok (.iconst 0, 1) := by decide +kernel
theorem d_La_law_710 : decode code 710 = .ok (.ireturn, 1) := by decide +kernel
theorem d_La_law_711 : decode code 711 = .ok (.aload_n 1, 1) := by decide +kernel
theorem d_La_law_712 : decode code 712 = .ok (.aload_n 0, 1) := by decide +kernel
theorem d_La_law_713 : decode code 713 = .ok (.iload_n 3, 1) := by decide +kernel
theorem d_La_law_714 : decode code 714 = .ok (.iconst 1, 1) := by decide +kernel
theorem d_La_law_715 : decode code 715 = .ok (.iadd, 1) := by decide +kernel
theorem d_La_law_716 : decode code 716 = .ok (.iaload, 1) := by decide +kernel
theorem d_La_law_717 : decode code 717 = .ok (.aload_n 0, 1) := by decide +kernel
theorem d_La_law_718 : decode code 718 = .ok (.iload_n 3, 1) := by decide +kernel
theorem d_La_law_719 : decode code 719 = .ok (.iconst 2, 1) := by decide +kernel
theorem d_La_law_720 : decode code 720 = .ok (.iadd, 1) := by decide +kernel
theorem d_La_law_721 : decode code 721 = .ok (.iaload, 1) := by decide +kernel
theorem d_La_law_722 : decode code 722 = .ok (.invokevirtual 94, 3) := by decide +kernel
theorem d_La_law_725 : decode code 725 = .ok (.aload_n 2, 1) := by decide +kernel
theorem d_La_law_726 : decode code 726 = .ok (.aload_n 0, 1) := by decide +kernel
theorem d_La_law_727 : decode code 727 = .ok (.iload_n 3, 1) := by decide +kernel
theorem d_La_law_728 : decode code 728 = .ok (.iconst 1, 1) := by decide +kernel
theorem d_La_law_729 : decode code 729 = .ok (.iadd, 1) := by decide +kernel
theorem d_La_law_730 : decode code 730 = .ok (.iaload, 1) := by decide +kernel
theorem d_La_law_731 : decode code 731 = .ok (.aload_n 0, 1) := by decide +kernel
theorem d_La_law_732 : decode code 732 = .ok (.iload_n 3, 1) := by decide +kernel
theorem d_La_law_733 : decode code 733 = .ok (.iconst 2, 1) := by decide +kernel
theorem d_La_law_734 : decode code 734 = .ok (.iadd, 1) := by decide +kernel
theorem d_La_law_735 : decode code 735 = .ok (.iaload, 1) := by decide +kernel
theorem d_La_law_736 : decode code 736 = .ok (.invokevirtual 97, 3) := by decide +kernel
theorem d_La_law_739 : decode code 739 = .ok (.if_icmp .eq 38, 3) := by decide +kernel
theorem d_La_law_742 : decode code 742 = .ok (.iconst 0, 1) := by decide +kernel
theorem d_La_law_743 : decode code 743 = .ok (.ireturn, 1) := by decide +kernel
theorem d_La_law_744 : decode code 744 = .ok (.aload_n 1, 1) := by decide +kernel
theorem d_La_law_745 : decode code 745 = .ok (.aload_n 0, 1) := by decide +kernel
theorem d_La_law_746 : decode code 746 = .ok (.iload_n 3, 1) := by decide +kernel
theorem d_La_law_747 : decode code 747 = .ok (.iconst 1, 1) := by decide +kernel
theorem d_La_law_748 : decode code 748 = .ok (.iadd, 1) := by decide +kernel
theorem d_La_law_749 : decode code 749 = .ok (.iaload, 1) := by decide +kernel
theorem d_La_law_750 : decode code 750 = .ok (.aload_n 0, 1) := by decide +kernel
theorem d_La_law_751 : decode code 751 = .ok (.iload_n 3, 1) := by decide +kernel
theorem d_La_law_752 : decode code 752 = .ok (.iconst 2, 1) := by decide +kernel
theorem d_La_law_753 : decode code 753 = .ok (.iadd, 1) := by decide +kernel
theorem d_La_law_754 : decode code 754 = .ok (.iaload, 1) := by decide +kernel
theorem d_La_law_755 : decode code 755 = .ok (.invokevirtual 98, 3) := by decide +kernel
theorem d_La_law_758 : decode code 758 = .ok (.aload_n 2, 1) := by decide +kernel
theorem d_La_law_759 : decode code 759 = .ok (.aload_n 0, 1) := by decide +kernel
theorem d_La_law_760 : decode code 760 = .ok (.iload_n 3, 1) := by decide +kernel
theorem d_La_law_761 : decode code 761 = .ok (.iconst 1, 1) := by decide +kernel
theorem d_La_law_762 : decode code 762 = .ok (.iadd, 1) := by decide +kernel
theorem d_La_law_763 : decode code 763 = .ok (.iaload, 1) := by decide +kernel
theorem d_La_law_764 : decode code 764 = .ok (.aload_n 0, 1) := by decide +kernel
theorem d_La_law_765 : decode code 765 = .ok (.iload_n 3, 1) := by decide +kernel
theorem d_La_law_766 : decode code 766 = .ok (.iconst 2, 1) := by decide +kernel
theorem d_La_law_767 : decode code 767 = .ok (.iadd, 1) := by decide +kernel
theorem d_La_law_768 : decode code 768 = .ok (.iaload, 1) := by decide +kernel
theorem d_La_law_769 : decode code 769 = .ok (.invokevirtual 101, 3) := by decide +kernel
theorem d_La_law_772 : decode code 772 = .ok (.if_icmp .eq 5, 3) := by decide +kernel
theorem d_La_law_775 : decode code 775 = .ok (.iconst 0, 1) := by decide +kernel
theorem d_La_law_776 : decode code 776 = .ok (.ireturn, 1) := by decide +kernel
theorem d_La_law_777 : decode code 777 = .ok (.iinc 3 5, 3) := by decide +kernel
theorem d_La_law_780 : decode code 780 = .ok (.goto (-762), 3) := by decide +kernel
theorem d_La_law_783 : decode code 783 = .ok (.iconst 1, 1) := by decide +kernel
theorem d_La_law_784 : decode code 784 = .ok (.ireturn, 1) := by decide +kernel
