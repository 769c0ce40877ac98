/-! methods of the reference: what each does is its function -/
theorem dX12_mean_0 : decode cX12_mean 0 = .ok (.aload_n 0, 1) := by decide +kernel
theorem dX12_mean_1 : decode cX12_mean 1 = .ok (.getfield 49, 3) := by decide +kernel
theorem dX12_mean_4 : decode cX12_mean 4 = .ok (.iload_n 1, 1) := by decide +kernel
theorem dX12_mean_5 : decode cX12_mean 5 = .ok (.iaload, 1) := by decide +kernel
theorem dX12_mean_6 : decode cX12_mean 6 = .ok (.tableswitch 528 20 33 #[70, 115, 138, 180, 282, 305, 305, 318, 398, 421, 451, 528, 528, 471], 70) := by decide +kernel
theorem dX12_mean_76 : decode cX12_mean 76 = .ok (.aload_n 0, 1) := by decide +kernel
theorem dX12_mean_77 : decode cX12_mean 77 = .ok (.getfield 55, 3) := by decide +kernel
theorem dX12_mean_80 : decode cX12_mean 80 = .ok (.iload_n 1, 1) := by decide +kernel
theorem dX12_mean_81 : decode cX12_mean 81 = .ok (.iaload, 1) := by decide +kernel
theorem dX12_mean_82 : decode cX12_mean 82 = .ok (.istore_n 2, 1) := by decide +kernel
theorem dX12_mean_83 : decode cX12_mean 83 = .ok (.iload_n 2, 1) := by decide +kernel
theorem dX12_mean_84 : decode cX12_mean 84 = .ok (.ifCond .lt 34, 3) := by decide +kernel
theorem dX12_mean_87 : decode cX12_mean 87 = .ok (.aload_n 0, 1) := by decide +kernel
theorem dX12_mean_88 : decode cX12_mean 88 = .ok (.getfield 49, 3) := by decide +kernel
theorem dX12_mean_91 : decode cX12_mean 91 = .ok (.iload_n 2, 1) := by decide +kernel
theorem dX12_mean_92 : decode cX12_mean 92 = .ok (.iaload, 1) := by decide +kernel
theorem dX12_mean_93 : decode cX12_mean 93 = .ok (.bipush 35, 2) := by decide +kernel
theorem dX12_mean_95 : decode cX12_mean 95 = .ok (.if_icmp .eq 13, 3) := by decide +kernel
theorem dX12_mean_98 : decode cX12_mean 98 = .ok (.aload_n 0, 1) := by decide +kernel
theorem dX12_mean_99 : decode cX12_mean 99 = .ok (.aload_n 0, 1) := by decide +kernel
theorem dX12_mean_100 : decode cX12_mean 100 = .ok (.getfield 55, 3) := by decide +kernel
theorem dX12_mean_103 : decode cX12_mean 103 = .ok (.iload_n 2, 1) := by decide +kernel
theorem dX12_mean_104 : decode cX12_mean 104 = .ok (.iaload, 1) := by decide +kernel
theorem dX12_mean_105 : decode cX12_mean 105 = .ok (.invokevirtual 549, 3) := by decide +kernel
theorem dX12_mean_108 : decode cX12_mean 108 = .ok (.aload_n 0, 1) := by decide +kernel
theorem dX12_mean_109 : decode cX12_mean 109 = .ok (.getfield 64, 3) := by decide +kernel
theorem dX12_mean_112 : decode cX12_mean 112 = .ok (.iload_n 2, 1) := by decide +kernel
theorem dX12_mean_113 : decode cX12_mean 113 = .ok (.iaload, 1) := by decide +kernel
theorem dX12_mean_114 : decode cX12_mean 114 = .ok (.istore_n 2, 1) := by decide +kernel
theorem dX12_mean_115 : decode cX12_mean 115 = .ok (.goto (-32), 3) := by decide +kernel
theorem dX12_mean_118 : decode cX12_mean 118 = .ok (.goto 416, 3) := by decide +kernel
theorem dX12_mean_121 : decode cX12_mean 121 = .ok (.aload_n 0, 1) := by decide +kernel
theorem dX12_mean_122 : decode cX12_mean 122 = .ok (.aload_n 0, 1) := by decide +kernel
theorem dX12_mean_123 : decode cX12_mean 123 = .ok (.getfield 58, 3) := by decide +kernel
theorem dX12_mean_126 : decode cX12_mean 126 = .ok (.iload_n 1, 1) := by decide +kernel
theorem dX12_mean_127 : decode cX12_mean 127 = .ok (.iaload, 1) := by decide +kernel
theorem dX12_mean_128 : decode cX12_mean 128 = .ok (.invokevirtual 549, 3) := by decide +kernel
theorem dX12_mean_131 : decode cX12_mean 131 = .ok (.aload_n 0, 1) := by decide +kernel
theorem dX12_mean_132 : decode cX12_mean 132 = .ok (.aload_n 0, 1) := by decide +kernel
theorem dX12_mean_133 : decode cX12_mean 133 = .ok (.getfield 55, 3) := by decide +kernel
theorem dX12_mean_136 : decode cX12_mean 136 = .ok (.iload_n 1, 1) := by decide +kernel
theorem dX12_mean_137 : decode cX12_mean 137 = .ok (.iaload, 1) := by decide +kernel
theorem dX12_mean_138 : decode cX12_mean 138 = .ok (.invokevirtual 534, 3) := by decide +kernel
theorem dX12_mean_141 : decode cX12_mean 141 = .ok (.goto 393, 3) := by decide +kernel
theorem dX12_mean_144 : decode cX12_mean 144 = .ok (.aload_n 0, 1) := by decide +kernel
theorem dX12_mean_145 : decode cX12_mean 145 = .ok (.aload_n 0, 1) := by decide +kernel
theorem dX12_mean_146 : decode cX12_mean 146 = .ok (.getfield 55, 3) := by decide +kernel
theorem dX12_mean_149 : decode cX12_mean 149 = .ok (.iload_n 1, 1) := by decide +kernel
theorem dX12_mean_150 : decode cX12_mean 150 = .ok (.iaload, 1) := by decide +kernel
theorem dX12_mean_151 : decode cX12_mean 151 = .ok (.iconst 0, 1) := by decide +kernel
theorem dX12_mean_152 : decode cX12_mean 152 = .ok (.invokevirtual 552, 3) := by decide +kernel
theorem dX12_mean_155 : decode cX12_mean 155 = .ok (.ifCond .ne 18, 3) := by decide +kernel
theorem dX12_mean_158 : decode cX12_mean 158 = .ok (.aload_n 0, 1) := by decide +kernel
theorem dX12_mean_159 : decode cX12_mean 159 = .ok (.aload_n 0, 1) := by decide +kernel
theorem dX12_mean_160 : decode cX12_mean 160 = .ok (.getfield 52, 3) := by decide +kernel
theorem dX12_mean_163 : decode cX12_mean 163 = .ok (.aload_n 0, 1) := by decide +kernel
theorem dX12_mean_164 : decode cX12_mean 164 = .ok (.getfield 55, 3) := by decide +kernel
theorem dX12_mean_167 : decode cX12_mean 167 = .ok (.iload_n 1, 1) := by decide +kernel
theorem dX12_mean_168 : decode cX12_mean 168 = .ok (.iaload, 1) := by decide +kernel
theorem dX12_mean_169 : decode cX12_mean 169 = .ok (.iaload, 1) := by decide +kernel
theorem dX12_mean_170 : decode cX12_mean 170 = .ok (.invokevirtual 525, 3) := by decide +kernel
theorem dX12_mean_173 : decode cX12_mean 173 = .ok (.aload_n 0, 1) := by decide +kernel
theorem dX12_mean_174 : decode cX12_mean 174 = .ok (.aload_n 0, 1) := by decide +kernel
theorem dX12_mean_175 : decode cX12_mean 175 = .ok (.getfield 58, 3) := by decide +kernel
theorem dX12_mean_178 : decode cX12_mean 178 = .ok (.iload_n 1, 1) := by decide +kernel
theorem dX12_mean_179 : decode cX12_mean 179 = .ok (.iaload, 1) := by decide +kernel
theorem dX12_mean_180 : decode cX12_mean 180 = .ok (.invokevirtual 549, 3) := by decide +kernel
theorem dX12_mean_183 : decode cX12_mean 183 = .ok (.goto 351, 3) := by decide +kernel
theorem dX12_mean_186 : decode cX12_mean 186 = .ok (.aload_n 0, 1) := by decide +kernel
theorem dX12_mean_187 : decode cX12_mean 187 = .ok (.aload_n 0, 1) := by decide +kernel
theorem dX12_mean_188 : decode cX12_mean 188 = .ok (.getfield 55, 3) := by decide +kernel
theorem dX12_mean_191 : decode cX12_mean 191 = .ok (.aload_n 0, 1) := by decide +kernel
theorem dX12_mean_192 : decode cX12_mean 192 = .ok (.getfield 55, 3) := by decide +kernel
theorem dX12_mean_195 : decode cX12_mean 195 = .ok (.iload_n 1, 1) := by decide +kernel
theorem dX12_mean_196 : decode cX12_mean 196 = .ok (.iaload, 1) := by decide +kernel
theorem dX12_mean_197 : decode cX12_mean 197 = .ok (.iaload, 1) := by decide +kernel
theorem dX12_mean_198 : decode cX12_mean 198 = .ok (.iconst 5, 1) := by decide +kernel
theorem dX12_mean_199 : decode cX12_mean 199 = .ok (.invokevirtual 521, 3) := by decide +kernel
theorem dX12_mean_202 : decode cX12_mean 202 = .ok (.ifCond .eq 21, 3) := by decide +kernel
theorem dX12_mean_205 : decode cX12_mean 205 = .ok (.aload_n 0, 1) := by decide +kernel
theorem dX12_mean_206 : decode cX12_mean 206 = .ok (.aload_n 0, 1) := by decide +kernel
theorem dX12_mean_207 : decode cX12_mean 207 = .ok (.getfield 55, 3) := by decide +kernel
theorem dX12_mean_210 : decode cX12_mean 210 = .ok (.aload_n 0, 1) := by decide +kernel
theorem dX12_mean_211 : decode cX12_mean 211 = .ok (.getfield 55, 3) := by decide +kernel
theorem dX12_mean_214 : decode cX12_mean 214 = .ok (.iload_n 1, 1) := by decide +kernel
theorem dX12_mean_215 : decode cX12_mean 215 = .ok (.iaload, 1) := by decide +kernel
theorem dX12_mean_216 : decode cX12_mean 216 = .ok (.iaload, 1) := by decide +kernel
theorem dX12_mean_217 : decode cX12_mean 217 = .ok (.invokevirtual 546, 3) := by decide +kernel
theorem dX12_mean_220 : decode cX12_mean 220 = .ok (.ifCond .lt 18, 3) := by decide +kernel
theorem dX12_mean_223 : decode cX12_mean 223 = .ok (.aload_n 0, 1) := by decide +kernel
theorem dX12_mean_224 : decode cX12_mean 224 = .ok (.aload_n 0, 1) := by decide +kernel
theorem dX12_mean_225 : decode cX12_mean 225 = .ok (.getfield 52, 3) := by decide +kernel
theorem dX12_mean_228 : decode cX12_mean 228 = .ok (.aload_n 0, 1) := by decide +kernel
theorem dX12_mean_229 : decode cX12_mean 229 = .ok (.getfield 55, 3) := by decide +kernel
theorem dX12_mean_232 : decode cX12_mean 232 = .ok (.iload_n 1, 1) := by decide +kernel
theorem dX12_mean_233 : decode cX12_mean 233 = .ok (.iaload, 1) := by decide +kernel
theorem dX12_mean_234 : decode cX12_mean 234 = .ok (.iaload, 1) := by decide +kernel
theorem dX12_mean_235 : decode cX12_mean 235 = .ok (.invokevirtual 525, 3) := by decide +kernel
theorem dX12_mean_238 : decode cX12_mean 238 = .ok (.aload_n 0, 1) := by decide +kernel
theorem dX12_mean_239 : decode cX12_mean 239 = .ok (.getfield 61, 3) := by decide +kernel
theorem dX12_mean_242 : decode cX12_mean 242 = .ok (.aload_n 0, 1) := by decide +kernel
theorem dX12_mean_243 : decode cX12_mean 243 = .ok (.getfield 55, 3) := by decide +kernel
theorem dX12_mean_246 : decode cX12_mean 246 = .ok (.iload_n 1, 1) := by decide +kernel
theorem dX12_mean_247 : decode cX12_mean 247 = .ok (.iaload, 1) := by decide +kernel
theorem dX12_mean_248 : decode cX12_mean 248 = .ok (.aload_n 0, 1) := by decide +kernel
theorem dX12_mean_249 : decode cX12_mean 249 = .ok (.getfield 70, 3) := by decide +kernel
theorem dX12_mean_252 : decode cX12_mean 252 = .ok (.aload_n 0, 1) := by decide +kernel
theorem dX12_mean_253 : decode cX12_mean 253 = .ok (.getfield 55, 3) := by decide +kernel
theorem dX12_mean_256 : decode cX12_mean 256 = .ok (.aload_n 0, 1) := by decide +kernel
theorem dX12_mean_257 : decode cX12_mean 257 = .ok (.getfield 55, 3) := by decide +kernel
theorem dX12_mean_260 : decode cX12_mean 260 = .ok (.iload_n 1, 1) := by decide +kernel
theorem dX12_mean_261 : decode cX12_mean 261 = .ok (.iaload, 1) := by decide +kernel
theorem dX12_mean_262 : decode cX12_mean 262 = .ok (.iaload, 1) := by decide +kernel
theorem dX12_mean_263 : decode cX12_mean 263 = .ok (.iaload, 1) := by decide +kernel
theorem dX12_mean_264 : decode cX12_mean 264 = .ok (.iastore, 1) := by decide +kernel
theorem dX12_mean_265 : decode cX12_mean 265 = .ok (.aload_n 0, 1) := by decide +kernel
theorem dX12_mean_266 : decode cX12_mean 266 = .ok (.aload_n 0, 1) := by decide +kernel
theorem dX12_mean_267 : decode cX12_mean 267 = .ok (.getfield 58, 3) := by decide +kernel
theorem dX12_mean_270 : decode cX12_mean 270 = .ok (.iload_n 1, 1) := by decide +kernel
theorem dX12_mean_271 : decode cX12_mean 271 = .ok (.iaload, 1) := by decide +kernel
theorem dX12_mean_272 : decode cX12_mean 272 = .ok (.invokevirtual 549, 3) := by decide +kernel
theorem dX12_mean_275 : decode cX12_mean 275 = .ok (.aload_n 0, 1) := by decide +kernel
theorem dX12_mean_276 : decode cX12_mean 276 = .ok (.aload_n 0, 1) := by decide +kernel
theorem dX12_mean_277 : decode cX12_mean 277 = .ok (.getfield 61, 3) := by decide +kernel
theorem dX12_mean_280 : decode cX12_mean 280 = .ok (.iload_n 1, 1) := by decide +kernel
theorem dX12_mean_281 : decode cX12_mean 281 = .ok (.iaload, 1) := by decide +kernel
theorem dX12_mean_282 : decode cX12_mean 282 = .ok (.invokevirtual 549, 3) := by decide +kernel
theorem dX12_mean_285 : decode cX12_mean 285 = .ok (.goto 249, 3) := by decide +kernel
theorem dX12_mean_288 : decode cX12_mean 288 = .ok (.aload_n 0, 1) := by decide +kernel
theorem dX12_mean_289 : decode cX12_mean 289 = .ok (.aload_n 0, 1) := by decide +kernel
theorem dX12_mean_290 : decode cX12_mean 290 = .ok (.getfield 55, 3) := by decide +kernel
theorem dX12_mean_293 : decode cX12_mean 293 = .ok (.iload_n 1, 1) := by decide +kernel
theorem dX12_mean_294 : decode cX12_mean 294 = .ok (.iaload, 1) := by decide +kernel
theorem dX12_mean_295 : decode cX12_mean 295 = .ok (.invokevirtual 549, 3) := by decide +kernel
theorem dX12_mean_298 : decode cX12_mean 298 = .ok (.aload_n 0, 1) := by decide +kernel
theorem dX12_mean_299 : decode cX12_mean 299 = .ok (.aload_n 0, 1) := by decide +kernel
theorem dX12_mean_300 : decode cX12_mean 300 = .ok (.getfield 58, 3) := by decide +kernel
theorem dX12_mean_303 : decode cX12_mean 303 = .ok (.iload_n 1, 1) := by decide +kernel
theorem dX12_mean_304 : decode cX12_mean 304 = .ok (.iaload, 1) := by decide +kernel
theorem dX12_mean_305 : decode cX12_mean 305 = .ok (.invokevirtual 549, 3) := by decide +kernel
theorem dX12_mean_308 : decode cX12_mean 308 = .ok (.goto 226, 3) := by decide +kernel
theorem dX12_mean_311 : decode cX12_mean 311 = .ok (.aload_n 0, 1) := by decide +kernel
theorem dX12_mean_312 : decode cX12_mean 312 = .ok (.aload_n 0, 1) := by decide +kernel
theorem dX12_mean_313 : decode cX12_mean 313 = .ok (.getfield 55, 3) := by decide +kernel
theorem dX12_mean_316 : decode cX12_mean 316 = .ok (.iload_n 1, 1) := by decide +kernel
theorem dX12_mean_317 : decode cX12_mean 317 = .ok (.iaload, 1) := by decide +kernel
theorem dX12_mean_318 : decode cX12_mean 318 = .ok (.invokevirtual 549, 3) := by decide +kernel
theorem dX12_mean_321 : decode cX12_mean 321 = .ok (.goto 213, 3) := by decide +kernel
theorem dX12_mean_324 : decode cX12_mean 324 = .ok (.aload_n 0, 1) := by decide +kernel
theorem dX12_mean_325 : decode cX12_mean 325 = .ok (.aload_n 0, 1) := by decide +kernel
theorem dX12_mean_326 : decode cX12_mean 326 = .ok (.getfield 55, 3) := by decide +kernel
theorem dX12_mean_329 : decode cX12_mean 329 = .ok (.iload_n 1, 1) := by decide +kernel
theorem dX12_mean_330 : decode cX12_mean 330 = .ok (.iaload, 1) := by decide +kernel
theorem dX12_mean_331 : decode cX12_mean 331 = .ok (.invokevirtual 549, 3) := by decide +kernel
theorem dX12_mean_334 : decode cX12_mean 334 = .ok (.aload_n 0, 1) := by decide +kernel
theorem dX12_mean_335 : decode cX12_mean 335 = .ok (.aload_n 0, 1) := by decide +kernel
theorem dX12_mean_336 : decode cX12_mean 336 = .ok (.getfield 58, 3) := by decide +kernel
theorem dX12_mean_339 : decode cX12_mean 339 = .ok (.iload_n 1, 1) := by decide +kernel
theorem dX12_mean_340 : decode cX12_mean 340 = .ok (.iaload, 1) := by decide +kernel
theorem dX12_mean_341 : decode cX12_mean 341 = .ok (.invokevirtual 537, 3) := by decide +kernel
theorem dX12_mean_344 : decode cX12_mean 344 = .ok (.aload_n 0, 1) := by decide +kernel
theorem dX12_mean_345 : decode cX12_mean 345 = .ok (.getfield 61, 3) := by decide +kernel
theorem dX12_mean_348 : decode cX12_mean 348 = .ok (.iload_n 1, 1) := by decide +kernel
theorem dX12_mean_349 : decode cX12_mean 349 = .ok (.iaload, 1) := by decide +kernel
theorem dX12_mean_350 : decode cX12_mean 350 = .ok (.ifCond .lt 32, 3) := by decide +kernel
theorem dX12_mean_353 : decode cX12_mean 353 = .ok (.aload_n 0, 1) := by decide +kernel
theorem dX12_mean_354 : decode cX12_mean 354 = .ok (.getfield 49, 3) := by decide +kernel
theorem dX12_mean_357 : decode cX12_mean 357 = .ok (.aload_n 0, 1) := by decide +kernel
theorem dX12_mean_358 : decode cX12_mean 358 = .ok (.getfield 61, 3) := by decide +kernel
theorem dX12_mean_361 : decode cX12_mean 361 = .ok (.iload_n 1, 1) := by decide +kernel
theorem dX12_mean_362 : decode cX12_mean 362 = .ok (.iaload, 1) := by decide +kernel
theorem dX12_mean_363 : decode cX12_mean 363 = .ok (.iaload, 1) := by decide +kernel
theorem dX12_mean_364 : decode cX12_mean 364 = .ok (.bipush 27, 2) := by decide +kernel
theorem dX12_mean_366 : decode cX12_mean 366 = .ok (.if_icmp .ne 16, 3) := by decide +kernel
theorem dX12_mean_369 : decode cX12_mean 369 = .ok (.aload_n 0, 1) := by decide +kernel
theorem dX12_mean_370 : decode cX12_mean 370 = .ok (.aload_n 0, 1) := by decide +kernel
theorem dX12_mean_371 : decode cX12_mean 371 = .ok (.getfield 61, 3) := by decide +kernel
theorem dX12_mean_374 : decode cX12_mean 374 = .ok (.iload_n 1, 1) := by decide +kernel
theorem dX12_mean_375 : decode cX12_mean 375 = .ok (.iaload, 1) := by decide +kernel
theorem dX12_mean_376 : decode cX12_mean 376 = .ok (.invokevirtual 543, 3) := by decide +kernel
theorem dX12_mean_379 : decode cX12_mean 379 = .ok (.goto 155, 3) := by decide +kernel
theorem dX12_mean_382 : decode cX12_mean 382 = .ok (.aload_n 0, 1) := by decide +kernel
theorem dX12_mean_383 : decode cX12_mean 383 = .ok (.getfield 61, 3) := by decide +kernel
theorem dX12_mean_386 : decode cX12_mean 386 = .ok (.iload_n 1, 1) := by decide +kernel
theorem dX12_mean_387 : decode cX12_mean 387 = .ok (.iaload, 1) := by decide +kernel
theorem dX12_mean_388 : decode cX12_mean 388 = .ok (.ifCond .lt 146, 3) := by decide +kernel
theorem dX12_mean_391 : decode cX12_mean 391 = .ok (.aload_n 0, 1) := by decide +kernel
theorem dX12_mean_392 : decode cX12_mean 392 = .ok (.aload_n 0, 1) := by decide +kernel
theorem dX12_mean_393 : decode cX12_mean 393 = .ok (.getfield 61, 3) := by decide +kernel
theorem dX12_mean_396 : decode cX12_mean 396 = .ok (.iload_n 1, 1) := by decide +kernel
theorem dX12_mean_397 : decode cX12_mean 397 = .ok (.iaload, 1) := by decide +kernel
theorem dX12_mean_398 : decode cX12_mean 398 = .ok (.invokevirtual 537, 3) := by decide +kernel
theorem dX12_mean_401 : decode cX12_mean 401 = .ok (.goto 133, 3) := by decide +kernel
theorem dX12_mean_404 : decode cX12_mean 404 = .ok (.aload_n 0, 1) := by decide +kernel
theorem dX12_mean_405 : decode cX12_mean 405 = .ok (.aload_n 0, 1) := by decide +kernel
theorem dX12_mean_406 : decode cX12_mean 406 = .ok (.getfield 55, 3) := by decide +kernel
theorem dX12_mean_409 : decode cX12_mean 409 = .ok (.iload_n 1, 1) := by decide +kernel
theorem dX12_mean_410 : decode cX12_mean 410 = .ok (.iaload, 1) := by decide +kernel
theorem dX12_mean_411 : decode cX12_mean 411 = .ok (.invokevirtual 549, 3) := by decide +kernel
theorem dX12_mean_414 : decode cX12_mean 414 = .ok (.aload_n 0, 1) := by decide +kernel
theorem dX12_mean_415 : decode cX12_mean 415 = .ok (.aload_n 0, 1) := by decide +kernel
theorem dX12_mean_416 : decode cX12_mean 416 = .ok (.getfield 58, 3) := by decide +kernel
theorem dX12_mean_419 : decode cX12_mean 419 = .ok (.iload_n 1, 1) := by decide +kernel
theorem dX12_mean_420 : decode cX12_mean 420 = .ok (.iaload, 1) := by decide +kernel
theorem dX12_mean_421 : decode cX12_mean 421 = .ok (.invokevirtual 537, 3) := by decide +kernel
theorem dX12_mean_424 : decode cX12_mean 424 = .ok (.goto 110, 3) := by decide +kernel
theorem dX12_mean_427 : decode cX12_mean 427 = .ok (.aload_n 0, 1) := by decide +kernel
theorem dX12_mean_428 : decode cX12_mean 428 = .ok (.getfield 531, 3) := by decide +kernel
theorem dX12_mean_431 : decode cX12_mean 431 = .ok (.ifCond .ne 13, 3) := by decide +kernel
theorem dX12_mean_434 : decode cX12_mean 434 = .ok (.aload_n 0, 1) := by decide +kernel
theorem dX12_mean_435 : decode cX12_mean 435 = .ok (.aload_n 0, 1) := by decide +kernel
theorem dX12_mean_436 : decode cX12_mean 436 = .ok (.getfield 52, 3) := by decide +kernel
theorem dX12_mean_439 : decode cX12_mean 439 = .ok (.iload_n 1, 1) := by decide +kernel
theorem dX12_mean_440 : decode cX12_mean 440 = .ok (.iaload, 1) := by decide +kernel
theorem dX12_mean_441 : decode cX12_mean 441 = .ok (.invokevirtual 525, 3) := by decide +kernel
theorem dX12_mean_444 : decode cX12_mean 444 = .ok (.aload_n 0, 1) := by decide +kernel
theorem dX12_mean_445 : decode cX12_mean 445 = .ok (.aload_n 0, 1) := by decide +kernel
theorem dX12_mean_446 : decode cX12_mean 446 = .ok (.getfield 55, 3) := by decide +kernel
theorem dX12_mean_449 : decode cX12_mean 449 = .ok (.iload_n 1, 1) := by decide +kernel
theorem dX12_mean_450 : decode cX12_mean 450 = .ok (.iaload, 1) := by decide +kernel
theorem dX12_mean_451 : decode cX12_mean 451 = .ok (.invokevirtual 549, 3) := by decide +kernel
theorem dX12_mean_454 : decode cX12_mean 454 = .ok (.goto 80, 3) := by decide +kernel
theorem dX12_mean_457 : decode cX12_mean 457 = .ok (.aload_n 0, 1) := by decide +kernel
theorem dX12_mean_458 : decode cX12_mean 458 = .ok (.getfield 531, 3) := by decide +kernel
theorem dX12_mean_461 : decode cX12_mean 461 = .ok (.ifCond .eq 73, 3) := by decide +kernel
theorem dX12_mean_464 : decode cX12_mean 464 = .ok (.aload_n 0, 1) := by decide +kernel
theorem dX12_mean_465 : decode cX12_mean 465 = .ok (.aload_n 0, 1) := by decide +kernel
theorem dX12_mean_466 : decode cX12_mean 466 = .ok (.getfield 52, 3) := by decide +kernel
theorem dX12_mean_469 : decode cX12_mean 469 = .ok (.iload_n 1, 1) := by decide +kernel
theorem dX12_mean_470 : decode cX12_mean 470 = .ok (.iaload, 1) := by decide +kernel
theorem dX12_mean_471 : decode cX12_mean 471 = .ok (.invokevirtual 525, 3) := by decide +kernel
theorem dX12_mean_474 : decode cX12_mean 474 = .ok (.goto 60, 3) := by decide +kernel
theorem dX12_mean_477 : decode cX12_mean 477 = .ok (.aload_n 0, 1) := by decide +kernel
theorem dX12_mean_478 : decode cX12_mean 478 = .ok (.aload_n 0, 1) := by decide +kernel
theorem dX12_mean_479 : decode cX12_mean 479 = .ok (.getfield 55, 3) := by decide +kernel
theorem dX12_mean_482 : decode cX12_mean 482 = .ok (.aload_n 0, 1) := by decide +kernel
theorem dX12_mean_483 : decode cX12_mean 483 = .ok (.getfield 55, 3) := by decide +kernel
theorem dX12_mean_486 : decode cX12_mean 486 = .ok (.iload_n 1, 1) := by decide +kernel
theorem dX12_mean_487 : decode cX12_mean 487 = .ok (.iaload, 1) := by decide +kernel
theorem dX12_mean_488 : decode cX12_mean 488 = .ok (.iaload, 1) := by decide +kernel
theorem dX12_mean_489 : decode cX12_mean 489 = .ok (.aload_n 0, 1) := by decide +kernel
theorem dX12_mean_490 : decode cX12_mean 490 = .ok (.getfield 52, 3) := by decide +kernel
theorem dX12_mean_493 : decode cX12_mean 493 = .ok (.aload_n 0, 1) := by decide +kernel
theorem dX12_mean_494 : decode cX12_mean 494 = .ok (.getfield 55, 3) := by decide +kernel
theorem dX12_mean_497 : decode cX12_mean 497 = .ok (.iload_n 1, 1) := by decide +kernel
theorem dX12_mean_498 : decode cX12_mean 498 = .ok (.iaload, 1) := by decide +kernel
theorem dX12_mean_499 : decode cX12_mean 499 = .ok (.iaload, 1) := by decide +kernel
theorem dX12_mean_500 : decode cX12_mean 500 = .ok (.aload_n 0, 1) := by decide +kernel
theorem dX12_mean_501 : decode cX12_mean 501 = .ok (.getfield 58, 3) := by decide +kernel
theorem dX12_mean_504 : decode cX12_mean 504 = .ok (.iload_n 1, 1) := by decide +kernel
theorem dX12_mean_505 : decode cX12_mean 505 = .ok (.iaload, 1) := by decide +kernel
theorem dX12_mean_506 : decode cX12_mean 506 = .ok (.invokevirtual 556, 3) := by decide +kernel
theorem dX12_mean_509 : decode cX12_mean 509 = .ok (.aload_n 0, 1) := by decide +kernel
theorem dX12_mean_510 : decode cX12_mean 510 = .ok (.getfield 61, 3) := by decide +kernel
theorem dX12_mean_513 : decode cX12_mean 513 = .ok (.iload_n 1, 1) := by decide +kernel
theorem dX12_mean_514 : decode cX12_mean 514 = .ok (.aload_n 0, 1) := by decide +kernel
theorem dX12_mean_515 : decode cX12_mean 515 = .ok (.getfield 73, 3) := by decide +kernel
theorem dX12_mean_518 : decode cX12_mean 518 = .ok (.aload_n 0, 1) := by decide +kernel
theorem dX12_mean_519 : decode cX12_mean 519 = .ok (.getfield 55, 3) := by decide +kernel
theorem dX12_mean_522 : decode cX12_mean 522 = .ok (.aload_n 0, 1) := by decide +kernel
theorem dX12_mean_523 : decode cX12_mean 523 = .ok (.getfield 55, 3) := by decide +kernel
theorem dX12_mean_526 : decode cX12_mean 526 = .ok (.iload_n 1, 1) := by decide +kernel
theorem dX12_mean_527 : decode cX12_mean 527 = .ok (.iaload, 1) := by decide +kernel
theorem dX12_mean_528 : decode cX12_mean 528 = .ok (.iaload, 1) := by decide +kernel
theorem dX12_mean_529 : decode cX12_mean 529 = .ok (.iaload, 1) := by decide +kernel
theorem dX12_mean_530 : decode cX12_mean 530 = .ok (.iastore, 1) := by decide +kernel
theorem dX12_mean_531 : decode cX12_mean 531 = .ok (.goto 3, 3) := by decide +kernel
theorem dX12_mean_534 : decode cX12_mean 534 = .ok (.return_, 1) := by decide +kernel
theorem dX12_meanBlock_0 : decode cX12_meanBlock 0 = .ok (.aload_n 0, 1) := by decide +kernel
theorem dX12_meanBlock_1 : decode cX12_meanBlock 1 = .ok (.getfield 506, 3) := by decide +kernel
theorem dX12_meanBlock_4 : decode cX12_meanBlock 4 = .ok (.istore_n 2, 1) := by decide +kernel
theorem dX12_meanBlock_5 : decode cX12_meanBlock 5 = .ok (.aload_n 0, 1) := by decide +kernel
theorem dX12_meanBlock_6 : decode cX12_meanBlock 6 = .ok (.getfield 55, 3) := by decide +kernel
theorem dX12_meanBlock_9 : decode cX12_meanBlock 9 = .ok (.iload_n 1, 1) := by decide +kernel
theorem dX12_meanBlock_10 : decode cX12_meanBlock 10 = .ok (.iaload, 1) := by decide +kernel
theorem dX12_meanBlock_11 : decode cX12_meanBlock 11 = .ok (.istore_n 3, 1) := by decide +kernel
theorem dX12_meanBlock_12 : decode cX12_meanBlock 12 = .ok (.iload_n 3, 1) := by decide +kernel
theorem dX12_meanBlock_13 : decode cX12_meanBlock 13 = .ok (.ifCond .lt 18, 3) := by decide +kernel
theorem dX12_meanBlock_16 : decode cX12_meanBlock 16 = .ok (.aload_n 0, 1) := by decide +kernel
theorem dX12_meanBlock_17 : decode cX12_meanBlock 17 = .ok (.iload_n 3, 1) := by decide +kernel
theorem dX12_meanBlock_18 : decode cX12_meanBlock 18 = .ok (.invokevirtual 543, 3) := by decide +kernel
theorem dX12_meanBlock_21 : decode cX12_meanBlock 21 = .ok (.aload_n 0, 1) := by decide +kernel
theorem dX12_meanBlock_22 : decode cX12_meanBlock 22 = .ok (.getfield 64, 3) := by decide +kernel
theorem dX12_meanBlock_25 : decode cX12_meanBlock 25 = .ok (.iload_n 3, 1) := by decide +kernel
theorem dX12_meanBlock_26 : decode cX12_meanBlock 26 = .ok (.iaload, 1) := by decide +kernel
theorem dX12_meanBlock_27 : decode cX12_meanBlock 27 = .ok (.istore_n 3, 1) := by decide +kernel
theorem dX12_meanBlock_28 : decode cX12_meanBlock 28 = .ok (.goto (-16), 3) := by decide +kernel
theorem dX12_meanBlock_31 : decode cX12_meanBlock 31 = .ok (.aload_n 0, 1) := by decide +kernel
theorem dX12_meanBlock_32 : decode cX12_meanBlock 32 = .ok (.iload_n 2, 1) := by decide +kernel
theorem dX12_meanBlock_33 : decode cX12_meanBlock 33 = .ok (.putfield 506, 3) := by decide +kernel
theorem dX12_meanBlock_36 : decode cX12_meanBlock 36 = .ok (.return_, 1) := by decide +kernel
def F_X12_mean (rec : GF) (p0 : Int32) (σ : MS) : MR :=
  if p0 < 0 ∨ 40000 ≤ p0.toNatClampNeg then none else
  bnd ((σ.2 17 p0.toNatClampNeg)) fun (x_3 : Int32) =>
  if x_3 = 20 then (
    if p0 < 0 ∨ 40000 ≤ p0.toNatClampNeg then none else
    bnd ((σ.2 19 p0.toNatClampNeg)) fun (x_9 : Int32) =>
    loopF (fun (again_12 : (Int32 × MS) → MR) (s_11 : Int32 × MS) => (
      if s_11.1 < 0 then (
        some (0, s_11.2)
      ) else (
        if s_11.1 < 0 ∨ 40000 ≤ s_11.1.toNatClampNeg then none else
        bnd (fun  (σ_20 : MS) => (
          if s_11.1 < 0 ∨ 40000 ≤ s_11.1.toNatClampNeg then none else
          bnd ((σ_20.2 22 s_11.1.toNatClampNeg)) fun (x_26 : Int32) =>
          again_12 (x_26, σ_20)
        ) : MS → MR) fun j_21 =>
        if (s_11.2.2 17 s_11.1.toNatClampNeg) = 35 then (
          j_21  s_11.2
        ) else (
          if s_11.1 < 0 ∨ 40000 ≤ s_11.1.toNatClampNeg then none else
          (G_X12_meanExpression (s_11.2.2 19 s_11.1.toNatClampNeg) s_11.2).bind fun u_33 =>
          j_21  u_33.2
        )
      )
    )) FU (x_9, σ)
  ) else
  if x_3 = 21 then (
    if p0 < 0 ∨ 40000 ≤ p0.toNatClampNeg then none else
    (G_X12_meanExpression (σ.2 20 p0.toNatClampNeg) σ).bind fun u_40 =>
    if p0 < 0 ∨ 40000 ≤ p0.toNatClampNeg then none else
    (F_X12_see (u_40.2.2 19 p0.toNatClampNeg) u_40.2).bind fun u_44 =>
    some (0, u_44.2)
  ) else
  if x_3 = 22 then (
    if p0 < 0 ∨ 40000 ≤ p0.toNatClampNeg then none else
    (F_X12_means (σ.2 19 p0.toNatClampNeg) 0 σ).bind fun u_51 =>
    bnd (fun  (σ_53 : MS) => (
      if p0 < 0 ∨ 40000 ≤ p0.toNatClampNeg then none else
      (G_X12_meanExpression (σ_53.2 20 p0.toNatClampNeg) σ_53).bind fun u_59 =>
      some (0, u_59.2)
    ) : MS → MR) fun j_54 =>
    if u_51.1 = 0 then (
      if p0 < 0 ∨ 40000 ≤ p0.toNatClampNeg then none else
      bnd ((u_51.2.2 19 p0.toNatClampNeg)) fun (x_65 : Int32) =>
      if x_65 < 0 ∨ 40000 ≤ x_65.toNatClampNeg then none else
      (F_X12_wrong (u_51.2.2 18 x_65.toNatClampNeg) u_51.2).bind fun u_69 =>
      j_54  u_69.2
    ) else (
      j_54  u_51.2
    )
  ) else
  if x_3 = 23 then (
    if p0 < 0 ∨ 40000 ≤ p0.toNatClampNeg then none else
    bnd ((σ.2 19 p0.toNatClampNeg)) fun (x_77 : Int32) =>
    if x_77 < 0 ∨ 40000 ≤ x_77.toNatClampNeg then none else
    (F_X12_is (σ.2 19 x_77.toNatClampNeg) 5 σ).bind fun u_81 =>
    bnd (fun  (σ_83 : MS) => (
      if p0 < 0 ∨ 40000 ≤ p0.toNatClampNeg then none else
      if p0 < 0 ∨ 40000 ≤ p0.toNatClampNeg then none else
      bnd ((σ_83.2 19 p0.toNatClampNeg)) fun (x_91 : Int32) =>
      if x_91 < 0 ∨ 40000 ≤ x_91.toNatClampNeg then none else
      bnd ((σ_83.2 19 x_91.toNatClampNeg)) fun (x_95 : Int32) =>
      if x_95 < 0 ∨ 8000 ≤ x_95.toNatClampNeg then none else
      if (σ_83.2 19 p0.toNatClampNeg) < 0 ∨ 40000 ≤ (σ_83.2 19 p0.toNatClampNeg).toNatClampNeg then none else
      bnd (mA σ_83 21 (upd (σ_83.2 21) (σ_83.2 19 p0.toNatClampNeg).toNatClampNeg (σ_83.2 29 x_95.toNatClampNeg))) fun σ_101 =>
      if p0 < 0 ∨ 40000 ≤ p0.toNatClampNeg then none else
      (G_X12_meanExpression (σ_101.2 20 p0.toNatClampNeg) σ_101).bind fun u_105 =>
      if p0 < 0 ∨ 40000 ≤ p0.toNatClampNeg then none else
      (G_X12_meanExpression (u_105.2.2 21 p0.toNatClampNeg) u_105.2).bind fun u_109 =>
      some (0, u_109.2)
    ) : MS → MR) fun j_84 =>
    bnd (fun  (σ_111 : MS) => (
      if p0 < 0 ∨ 40000 ≤ p0.toNatClampNeg then none else
      bnd ((σ_111.2 19 p0.toNatClampNeg)) fun (x_117 : Int32) =>
      if x_117 < 0 ∨ 40000 ≤ x_117.toNatClampNeg then none else
      (F_X12_wrong (σ_111.2 18 x_117.toNatClampNeg) σ_111).bind fun u_121 =>
      j_84  u_121.2
    ) : MS → MR) fun j_112 =>
    if u_81.1 = 0 then (
      j_112  u_81.2
    ) else (
      if p0 < 0 ∨ 40000 ≤ p0.toNatClampNeg then none else
      bnd ((u_81.2.2 19 p0.toNatClampNeg)) fun (x_128 : Int32) =>
      if x_128 < 0 ∨ 40000 ≤ x_128.toNatClampNeg then none else
      (F_X12_slotOf (u_81.2.2 19 x_128.toNatClampNeg) u_81.2).bind fun u_132 =>
      if u_132.1 < 0 then (
        j_84  u_132.2
      ) else (
        j_112  u_132.2
      )
    )
  ) else
  if x_3 = 24 then (
    if p0 < 0 ∨ 40000 ≤ p0.toNatClampNeg then none else
    (G_X12_meanExpression (σ.2 19 p0.toNatClampNeg) σ).bind fun u_142 =>
    if p0 < 0 ∨ 40000 ≤ p0.toNatClampNeg then none else
    (G_X12_meanExpression (u_142.2.2 20 p0.toNatClampNeg) u_142.2).bind fun u_146 =>
    some (0, u_146.2)
  ) else
  if x_3 = 25 ∨ x_3 = 26 then (
    if p0 < 0 ∨ 40000 ≤ p0.toNatClampNeg then none else
    (G_X12_meanExpression (σ.2 19 p0.toNatClampNeg) σ).bind fun u_153 =>
    some (0, u_153.2)
  ) else
  if x_3 = 27 then (
    if p0 < 0 ∨ 40000 ≤ p0.toNatClampNeg then none else
    (G_X12_meanExpression (σ.2 19 p0.toNatClampNeg) σ).bind fun u_160 =>
    if p0 < 0 ∨ 40000 ≤ p0.toNatClampNeg then none else
    (rec 1 (u_160.2.2 20 p0.toNatClampNeg) 0 0 u_160.2).bind fun u_164 =>
    if p0 < 0 ∨ 40000 ≤ p0.toNatClampNeg then none else
    bnd (fun  (σ_168 : MS) => (
      if p0 < 0 ∨ 40000 ≤ p0.toNatClampNeg then none else
      if (σ_168.2 21 p0.toNatClampNeg) < 0 then (
        some (0, σ_168)
      ) else (
        if p0 < 0 ∨ 40000 ≤ p0.toNatClampNeg then none else
        (rec 1 (σ_168.2 21 p0.toNatClampNeg) 0 0 σ_168).bind fun u_179 =>
        some (0, u_179.2)
      )
    ) : MS → MR) fun j_169 =>
    if (u_164.2.2 21 p0.toNatClampNeg) < 0 then (
      j_169  u_164.2
    ) else (
      if p0 < 0 ∨ 40000 ≤ p0.toNatClampNeg then none else
      bnd ((u_164.2.2 21 p0.toNatClampNeg)) fun (x_186 : Int32) =>
      if x_186 < 0 ∨ 40000 ≤ x_186.toNatClampNeg then none else
      if (u_164.2.2 17 x_186.toNatClampNeg) = 27 then (
        if p0 < 0 ∨ 40000 ≤ p0.toNatClampNeg then none else
        (rec 0 (u_164.2.2 21 p0.toNatClampNeg) 0 0 u_164.2).bind fun u_194 =>
        some (0, u_194.2)
      ) else (
        j_169  u_164.2
      )
    )
  ) else
  if x_3 = 28 then (
    if p0 < 0 ∨ 40000 ≤ p0.toNatClampNeg then none else
    (G_X12_meanExpression (σ.2 19 p0.toNatClampNeg) σ).bind fun u_202 =>
    if p0 < 0 ∨ 40000 ≤ p0.toNatClampNeg then none else
    (rec 1 (u_202.2.2 20 p0.toNatClampNeg) 0 0 u_202.2).bind fun u_206 =>
    some (0, u_206.2)
  ) else
  if x_3 = 29 then (
    bnd (fun  (σ_211 : MS) => (
      if p0 < 0 ∨ 40000 ≤ p0.toNatClampNeg then none else
      (G_X12_meanExpression (σ_211.2 19 p0.toNatClampNeg) σ_211).bind fun u_217 =>
      some (0, u_217.2)
    ) : MS → MR) fun j_212 =>
    if (σ.1 43) = 0 then (
      if p0 < 0 ∨ 40000 ≤ p0.toNatClampNeg then none else
      (F_X12_wrong (σ.2 18 p0.toNatClampNeg) σ).bind fun u_223 =>
      j_212  u_223.2
    ) else (
      j_212  σ
    )
  ) else
  if x_3 = 30 then (
    if (σ.1 43) = 0 then (
      some (0, σ)
    ) else (
      if p0 < 0 ∨ 40000 ≤ p0.toNatClampNeg then none else
      (F_X12_wrong (σ.2 18 p0.toNatClampNeg) σ).bind fun u_234 =>
      some (0, u_234.2)
    )
  ) else
  if x_3 = 33 then (
    if p0 < 0 ∨ 40000 ≤ p0.toNatClampNeg then none else
    bnd ((σ.2 19 p0.toNatClampNeg)) fun (x_241 : Int32) =>
    if x_241 < 0 ∨ 40000 ≤ x_241.toNatClampNeg then none else
    if p0 < 0 ∨ 40000 ≤ p0.toNatClampNeg then none else
    bnd ((σ.2 19 p0.toNatClampNeg)) fun (x_247 : Int32) =>
    if x_247 < 0 ∨ 40000 ≤ x_247.toNatClampNeg then none else
    if p0 < 0 ∨ 40000 ≤ p0.toNatClampNeg then none else
    (G_X12_meanCall (σ.2 19 x_241.toNatClampNeg) (σ.2 18 x_247.toNatClampNeg) (σ.2 20 p0.toNatClampNeg) σ).bind fun u_253 =>
    if p0 < 0 ∨ 40000 ≤ p0.toNatClampNeg then none else
    bnd ((u_253.2.2 19 p0.toNatClampNeg)) fun (x_257 : Int32) =>
    if x_257 < 0 ∨ 40000 ≤ x_257.toNatClampNeg then none else
    bnd ((u_253.2.2 19 x_257.toNatClampNeg)) fun (x_261 : Int32) =>
    if x_261 < 0 ∨ 8000 ≤ x_261.toNatClampNeg then none else
    bnd ((u_253.2.2 30 x_261.toNatClampNeg)) fun (x_265 : Int32) =>
    if p0 < 0 ∨ 40000 ≤ p0.toNatClampNeg then none else
    bnd (mA u_253.2 21 (upd (u_253.2.2 21) p0.toNatClampNeg x_265)) fun σ_269 =>
    some (0, σ_269)
  ) else
  (
    some (0, σ)
  )
set_option maxHeartbeats 4000000 in
set_option maxRecDepth 100000 in
theorem m_X12_mean_st (l : Launch) (dC : Nat → ClassId) (dI : Nat → Nat → Nat) (cB cC cI cJ cZ cP : ClassId) (h qK qS : Nat) (ad : Nat → Nat) (hDD : mDis cB cI cZ h qK qS ad) (d : Nat) (rec : GF) (hI0 : ∀ (sz : Nat) (p0 : Int32) (σ : MS) (res : Int32 × MS), rec 0 p0 0 0 σ = some res → Met l yX12_mean (g_ws yX12_mean cX12_mean 3 none) ({ frames := 1404 + d, cells := 0, slots := 0, locals := 36512 + 23 * d }) (va_Pc [.ref h, .int p0] (m_B (dC, dI) [(cB, .byte), (cC, .char), (cI, .int), (cJ, .long), (cZ, .boolean), (cP, .object "StoryHouse$Play")] sz h ad qK qS (mW cB cI cZ h qK qS ad σ) g_0)) (va_Qv (fun (_ : Unit) => True) (fun _ t => va_P (dC, dI) vwCl (mW cB cI cZ h qK qS ad res.2) t.heap) (mCells h ad sz)) 0 0 (mCells h ad sz)) (hI1 : ∀ (sz : Nat) (p0 : Int32) (σ : MS) (res : Int32 × MS), rec 1 p0 0 0 σ = some res → Met l yX12_meanBlock (g_ws yX12_meanBlock cX12_meanBlock 4 none) ({ frames := 1404 + d, cells := 0, slots := 0, locals := 36512 + 23 * d }) (va_Pc [.ref h, .int p0] (m_B (dC, dI) [(cB, .byte), (cC, .char), (cI, .int), (cJ, .long), (cZ, .boolean), (cP, .object "StoryHouse$Play")] sz h ad qK qS (mW cB cI cZ h qK qS ad σ) g_0)) (va_Qv (fun (_ : Unit) => True) (fun _ t => va_P (dC, dI) vwCl (mW cB cI cZ h qK qS ad res.2) t.heap) (mCells h ad sz)) 0 0 (mCells h ad sz)) (sz : Nat)  (p0 : Int32) (σ : MS) (res : Int32 × MS) (hF : F_X12_mean rec p0 σ = some res) : Met l yX12_mean (g_ws yX12_mean cX12_mean 3 none) ({ frames := 1404 + (d + 1), cells := 0, slots := 0, locals := 36512 + 23 * (d + 1) }) (va_Pc [.ref h, .int p0] (m_B (dC, dI) [(cB, .byte), (cC, .char), (cI, .int), (cJ, .long), (cZ, .boolean), (cP, .object "StoryHouse$Play")] sz h ad qK qS (mW cB cI cZ h qK qS ad σ) g_0)) (va_Qv (fun (_ : Unit) => True) (fun _ t => va_P (dC, dI) vwCl (mW cB cI cZ h qK qS ad res.2) t.heap) (mCells h ad sz)) 0 0 (mCells h ad sz) := by
  refine Met.ofW (cc := cX12_mean) (maxL := 3) (ret := none) (by decide) rfl ?_
  intro p e s m args below meth c s₁ B hml hv
  obtain ⟨rfl, hsz, hP, hK, hE, hKS, hX⟩ := hv
  have hx := B.exec
  have hb := B.bytes
  have hr := B.returns
  have hts0 := atoms_spec (ws := g_ws yX12_mean cX12_mean 3 none) B.pre
  have hts : ∀ w ∈ lw_good, w.before ([.ref h, .int p0] : List Value).toArray s = true := fun w z => hts0 w (List.mem_cons_of_mem _ z)
  have hown : s.vm.findClass RX12 = some m.cls := findClass_of_methodNamed B.named
  have hlocks := B.notSynchronized
  have hS : va_S (mCells h ad sz) s.heap s.heap [] := va_S.rf
  have hl := lv_entry ([.ref h, .int p0]) (n := 3) (Nat.le_of_ble_eq_true rfl)
  rw [lg_entry_eq]
  generalize (lg_sl ([.ref h, .int p0]) ++ List.replicate (3 - (lg_sl ([.ref h, .int p0])).length) Slot.unset).toArray = ls at hl ⊢
  have hl : lv_has ls 3 [(0, .ref h), (1, .int p0)] := hl
  unfold F_X12_mean at hF
  refine lv_aload_n hx hb dX12_mean_0 rfl (lv_at hl 0 rfl) ?_
  refine va_get (D := (dC, dI)) (ci := 12) (v := .ref (ad 17)) (C := RX12) (T := TX12) (N := 123) hx hb hts ii_X12 hown hK hP 0 rfl rfl 17 (by decide) (hts (.fieldLink RX12 49 "StoryHouseModel" "what" "[I") wq_1373) (fun _ h9 => h9) rfl dX12_mean_1 ?_
  refine lv_iload_n hx hb dX12_mean_4 rfl (lv_at hl 1 rfl) ?_
  obtain ⟨g_1, hF_2⟩ := nif_e hF
  clear hF
  refine va_iald (f := σ.2 17) hx hb hK hP 8 2 rfl rfl g_1 dX12_mean_5 ?_
  obtain ⟨x_3, ex_3, hF_4⟩ := bnd_e hF_2
  clear hF_2
  refine m_top ex_3 ?_
  by_cases c_5 : x_3 = 20
  · have hF_6 := ipos c_5 hF_4
    clear hF_4
    refine lv_tableIn (off := 70) (tgt := 76) hx hb dX12_mean_6 (by rw [c_5]; decide +kernel) (by rw [c_5]; decide +kernel) (by rw [c_5]; decide +kernel) (by decide) ?_
    refine lv_aload_n hx hb dX12_mean_76 rfl (lv_at hl 0 rfl) ?_
    refine va_get (D := (dC, dI)) (ci := 12) (v := .ref (ad 19)) (C := RX12) (T := TX12) (N := 123) hx hb hts ii_X12 hown hK hP 0 rfl rfl 19 (by decide) (hts (.fieldLink RX12 55 "StoryHouseModel" "a" "[I") wq_1375) (fun _ h9 => h9) rfl dX12_mean_77 ?_
    refine lv_iload_n hx hb dX12_mean_80 rfl (lv_at hl 1 rfl) ?_
    obtain ⟨g_7, hF_8⟩ := nif_e hF_6
    clear hF_6
    refine va_iald (f := σ.2 19) hx hb hK hP 10 2 rfl rfl g_7 dX12_mean_81 ?_
    obtain ⟨x_9, ex_9, hF_10⟩ := bnd_e hF_8
    clear hF_8
    refine m_top ex_9 ?_
    refine lv_istore_n (lv' := [(2, .int x_9), (0, .ref h), (1, .int p0)]) hx hb dX12_mean_82 rfl hl (by decide) rfl (fun ls hl => ?_)
    refine loopF_ind (P := fun (s_11 : Int32 × MS) => ∀ (H : Heap) (locs : List Loc), va_P (dC, dI) vwCl (mW cB cI cZ h qK qS ad s_11.2) H → va_S (mCells h ad sz) s.heap H locs → ∀ ls : Array Slot, lv_has ls 3 [(0, .ref h), (2, .int s_11.1)] → W p l e (headSpec (g_ws yX12_mean cX12_mean 3 none) { frames := 1404 + (d + 1), cells := 0, slots := 0, locals := 36512 + 23 * (d + 1) }).room s m ([.ref h, .int p0] : List Value).toArray below meth c H locs 0 0 (MQ below (va_Qv (fun (_ : Unit) => True) (fun _ t => va_P (dC, dI) vwCl (mW cB cI cZ h qK qS ad res.2) t.heap) (mCells h ad sz)) ([.ref h, .int p0] : List Value).toArray s 0 0 (mCells h ad sz)) (F0 m 83 ls [])) ?_ _ _ hF_10 _ _ hP hS ls (lv_sub hl [1, 0] rfl)
    intro again_12 s_11 ih_13 hF_14
    intro H locs hP hS ls hl
    refine lv_iload_n hx hb dX12_mean_83 rfl (lv_at hl 1 rfl) ?_
    refine lv_if_lt (tgt := 118) hx hb dX12_mean_84 (by decide) (fun c_15 => ?_) (fun c_15 => ?_)
    · have hF_16 := ipos c_15 hF_14
      clear hF_14
      refine lv_goto (tgt := 534) hx hb dX12_mean_118 (by decide) ?_
      have h9 := Option.some.inj hF_16
      subst h9
      exact W.vret hx hb hr (fun t ht hW => ⟨⟨(), rfl, trivial, m_end ht hP⟩, hS.F ht⟩) hS.2.2 dX12_mean_534
    · have hF_17 := ineg c_15 hF_14
      clear hF_14
      refine lv_aload_n hx hb dX12_mean_87 rfl (lv_at hl 0 rfl) ?_
      refine va_get (D := (dC, dI)) (ci := 12) (v := .ref (ad 17)) (C := RX12) (T := TX12) (N := 123) hx hb hts ii_X12 hown hK hP 0 rfl rfl 17 (by decide) (hts (.fieldLink RX12 49 "StoryHouseModel" "what" "[I") wq_1373) (fun _ h9 => h9) rfl dX12_mean_88 ?_
      refine lv_iload_n hx hb dX12_mean_91 rfl (lv_at hl 1 rfl) ?_
      obtain ⟨g_18, hF_19⟩ := nif_e hF_17
      clear hF_17
      refine va_iald (f := s_11.2.2 17) hx hb hK hP 8 2 rfl rfl g_18 dX12_mean_92 ?_
      refine lv_bipush (v := 35) hx hb dX12_mean_93 (by decide +kernel) ?_
      obtain ⟨j_21, ej_21, hF_22⟩ := bnd_e hF_19
      clear hF_19
      have Jj_21 : ∀  (σ_20 : MS), j_21  σ_20 = some res → ∀ (H : Heap) (locs : List Loc), va_P (dC, dI) vwCl (mW cB cI cZ h qK qS ad σ_20) H → va_S (mCells h ad sz) s.heap H locs → ∀ ls : Array Slot, lv_has ls 3 [(0, .ref h), (2, .int s_11.1)] → W p l e (headSpec (g_ws yX12_mean cX12_mean 3 none) { frames := 1404 + (d + 1), cells := 0, slots := 0, locals := 36512 + 23 * (d + 1) }).room s m ([.ref h, .int p0] : List Value).toArray below meth c H locs 0 0 (MQ below (va_Qv (fun (_ : Unit) => True) (fun _ t => va_P (dC, dI) vwCl (mW cB cI cZ h qK qS ad res.2) t.heap) (mCells h ad sz)) ([.ref h, .int p0] : List Value).toArray s 0 0 (mCells h ad sz)) (F0 m 108 ls []) := by
        intro  σ_20 hF0 H locs hP hS ls hl
        subst ej_21
        have hF_23 := hF0
        clear hF0
        refine lv_aload_n hx hb dX12_mean_108 rfl (lv_at hl 0 rfl) ?_
        refine va_get (D := (dC, dI)) (ci := 12) (v := .ref (ad 22)) (C := RX12) (T := TX12) (N := 123) hx hb hts ii_X12 hown hK hP 0 rfl rfl 22 (by decide) (hts (.fieldLink RX12 64 "StoryHouseModel" "then" "[I") wq_1378) (fun _ h9 => h9) rfl dX12_mean_109 ?_
        refine lv_iload_n hx hb dX12_mean_112 rfl (lv_at hl 1 rfl) ?_
        obtain ⟨g_24, hF_25⟩ := nif_e hF_23
        clear hF_23
        refine va_iald (f := σ_20.2 22) hx hb hK hP 13 2 rfl rfl g_24 dX12_mean_113 ?_
        obtain ⟨x_26, ex_26, hF_27⟩ := bnd_e hF_25
        clear hF_25
        refine m_top ex_26 ?_
        refine lv_istore_n (lv' := [(2, .int x_26), (0, .ref h)]) hx hb dX12_mean_114 rfl hl (by decide) rfl (fun ls hl => ?_)
        refine lv_goto (tgt := 83) hx hb dX12_mean_115 (by decide) ?_
        exact ih_13 (x_26, σ_20) hF_27 _ _ hP hS ls (lv_sub hl [1, 0] rfl)
      refine lv_icmp_eq (tgt := 108) hx hb dX12_mean_95 (by decide) (fun c_28 => ?_) (fun c_28 => ?_)
      · have hF_29 := ipos c_28 hF_22
        clear hF_22
        exact Jj_21  s_11.2 hF_29 _ _ hP hS ls (lv_sub hl [0, 1] rfl)
      · have hF_30 := ineg c_28 hF_22
        clear hF_22
        refine lv_aload_n hx hb dX12_mean_98 rfl (lv_at hl 0 rfl) ?_
        refine lv_aload_n hx hb dX12_mean_99 rfl (lv_at hl 0 rfl) ?_
        refine va_get (D := (dC, dI)) (ci := 12) (v := .ref (ad 19)) (C := RX12) (T := TX12) (N := 123) hx hb hts ii_X12 hown hK hP 0 rfl rfl 19 (by decide) (hts (.fieldLink RX12 55 "StoryHouseModel" "a" "[I") wq_1375) (fun _ h9 => h9) rfl dX12_mean_100 ?_
        refine lv_iload_n hx hb dX12_mean_103 rfl (lv_at hl 1 rfl) ?_
        obtain ⟨g_31, hF_32⟩ := nif_e hF_30
        clear hF_30
        refine va_iald (f := s_11.2.2 19) hx hb hK hP 10 2 rfl rfl g_31 dX12_mean_104 ?_
        obtain ⟨u_33, hu_33, hF_34⟩ := Option.bind_eq_some_iff.mp hF_32
        clear hF_32
        refine m_cv hsz hS (va_runV (As := [.int (s_11.2.2 19 s_11.1.toNatClampNeg)]) (rest := []) ⟨hx, hb, hml, hown, hts⟩ (m_X12_meanExpression l dC dI cB cC cI cJ cZ cP h qK qS ad hDD H.size  (s_11.2.2 19 s_11.1.toNatClampNeg) s_11.2 _ hu_33) (cwV 1 hts (g_gV wq_1702 wq_1703 wq_2179 wq_13 wq_1704) rfl rfl rfl (by decide +kernel) ⟨by show 1403 + 1 ≤ 1404 + (d + 1); omega, by show 8 + (3 + 11) + 36486 ≤ 36512 + 23 * (d + 1); omega⟩) (m_preV g_bl0 hsz hK hP hS hE hKS g_to0) rfl rfl hl.1 rfl (lv_room (Nat.le_of_ble_eq_true rfl)) dX12_mean_105 ⟨Nat.le_of_ble_eq_true rfl, Nat.le_of_ble_eq_true rfl⟩) (fun H locs hP hS => ?_)
        exact Jj_21  u_33.2 hF_34 _ _ hP hS ls (lv_sub hl [0, 1] rfl)
  have hF_35 := ineg c_5 hF_4
  clear hF_4
  by_cases c_36 : x_3 = 21
  · have hF_37 := ipos c_36 hF_35
    clear hF_35
    refine lv_tableIn (off := 115) (tgt := 121) hx hb dX12_mean_6 (by rw [c_36]; decide +kernel) (by rw [c_36]; decide +kernel) (by rw [c_36]; decide +kernel) (by decide) ?_
    refine lv_aload_n hx hb dX12_mean_121 rfl (lv_at hl 0 rfl) ?_
    refine lv_aload_n hx hb dX12_mean_122 rfl (lv_at hl 0 rfl) ?_
    refine va_get (D := (dC, dI)) (ci := 12) (v := .ref (ad 20)) (C := RX12) (T := TX12) (N := 123) hx hb hts ii_X12 hown hK hP 0 rfl rfl 20 (by decide) (hts (.fieldLink RX12 58 "StoryHouseModel" "b" "[I") wq_1376) (fun _ h9 => h9) rfl dX12_mean_123 ?_
    refine lv_iload_n hx hb dX12_mean_126 rfl (lv_at hl 1 rfl) ?_
    obtain ⟨g_38, hF_39⟩ := nif_e hF_37
    clear hF_37
    refine va_iald (f := σ.2 20) hx hb hK hP 11 2 rfl rfl g_38 dX12_mean_127 ?_
    obtain ⟨u_40, hu_40, hF_41⟩ := Option.bind_eq_some_iff.mp hF_39
    clear hF_39
    refine m_cv hsz hS (va_runV (As := [.int (σ.2 20 p0.toNatClampNeg)]) (rest := []) ⟨hx, hb, hml, hown, hts⟩ (m_X12_meanExpression l dC dI cB cC cI cJ cZ cP h qK qS ad hDD s.heap.size  (σ.2 20 p0.toNatClampNeg) σ _ hu_40) (cwV 1 hts (g_gV wq_1702 wq_1703 wq_2179 wq_13 wq_1704) rfl rfl rfl (by decide +kernel) ⟨by show 1403 + 1 ≤ 1404 + (d + 1); omega, by show 8 + (3 + 11) + 36486 ≤ 36512 + 23 * (d + 1); omega⟩) (m_preV g_bl0 hsz hK hP hS hE hKS g_to0) rfl rfl hl.1 rfl (lv_room (Nat.le_of_ble_eq_true rfl)) dX12_mean_128 ⟨Nat.le_of_ble_eq_true rfl, Nat.le_of_ble_eq_true rfl⟩) (fun H locs hP hS => ?_)
    refine lv_aload_n hx hb dX12_mean_131 rfl (lv_at hl 0 rfl) ?_
    refine lv_aload_n hx hb dX12_mean_132 rfl (lv_at hl 0 rfl) ?_
    refine va_get (D := (dC, dI)) (ci := 12) (v := .ref (ad 19)) (C := RX12) (T := TX12) (N := 123) hx hb hts ii_X12 hown hK hP 0 rfl rfl 19 (by decide) (hts (.fieldLink RX12 55 "StoryHouseModel" "a" "[I") wq_1375) (fun _ h9 => h9) rfl dX12_mean_133 ?_
    refine lv_iload_n hx hb dX12_mean_136 rfl (lv_at hl 1 rfl) ?_
    obtain ⟨g_42, hF_43⟩ := nif_e hF_41
    clear hF_41
    refine va_iald (f := u_40.2.2 19) hx hb hK hP 10 2 rfl rfl g_42 dX12_mean_137 ?_
    obtain ⟨u_44, hu_44, hF_45⟩ := Option.bind_eq_some_iff.mp hF_43
    clear hF_43
    refine m_cv hsz hS (va_runV (As := [.int (u_40.2.2 19 p0.toNatClampNeg)]) (rest := []) ⟨hx, hb, hml, hown, hts⟩ (m_X12_see l dC dI cB cC cI cJ cZ cP h qK qS ad hDD H.size  (u_40.2.2 19 p0.toNatClampNeg) u_40.2 _ hu_44) (cwV 1 hts (g_gV wq_1693 wq_1694 wq_2176 wq_13 wq_1695) rfl rfl rfl (by decide +kernel) ⟨by show 1 + 1 ≤ 1404 + (d + 1); omega, by show 8 + (2 + 11) + 40 ≤ 36512 + 23 * (d + 1); omega⟩) (m_preV g_bl0 hsz hK hP hS hE hKS g_to0) rfl rfl hl.1 rfl (lv_room (Nat.le_of_ble_eq_true rfl)) dX12_mean_138 ⟨Nat.le_of_ble_eq_true rfl, Nat.le_of_ble_eq_true rfl⟩) (fun H locs hP hS => ?_)
    refine lv_goto (tgt := 534) hx hb dX12_mean_141 (by decide) ?_
    have h9 := Option.some.inj hF_45
    subst h9
    exact W.vret hx hb hr (fun t ht hW => ⟨⟨(), rfl, trivial, m_end ht hP⟩, hS.F ht⟩) hS.2.2 dX12_mean_534
  have hF_46 := ineg c_36 hF_35
  clear hF_35
  by_cases c_47 : x_3 = 22
  · have hF_48 := ipos c_47 hF_46
    clear hF_46
    refine lv_tableIn (off := 138) (tgt := 144) hx hb dX12_mean_6 (by rw [c_47]; decide +kernel) (by rw [c_47]; decide +kernel) (by rw [c_47]; decide +kernel) (by decide) ?_
    refine lv_aload_n hx hb dX12_mean_144 rfl (lv_at hl 0 rfl) ?_
    refine lv_aload_n hx hb dX12_mean_145 rfl (lv_at hl 0 rfl) ?_
    refine va_get (D := (dC, dI)) (ci := 12) (v := .ref (ad 19)) (C := RX12) (T := TX12) (N := 123) hx hb hts ii_X12 hown hK hP 0 rfl rfl 19 (by decide) (hts (.fieldLink RX12 55 "StoryHouseModel" "a" "[I") wq_1375) (fun _ h9 => h9) rfl dX12_mean_146 ?_
    refine lv_iload_n hx hb dX12_mean_149 rfl (lv_at hl 1 rfl) ?_
    obtain ⟨g_49, hF_50⟩ := nif_e hF_48
    clear hF_48
    refine va_iald (f := σ.2 19) hx hb hK hP 10 2 rfl rfl g_49 dX12_mean_150 ?_
    refine lv_iconst (v := 0) hx hb dX12_mean_151 (by decide +kernel) ?_
    obtain ⟨u_51, hu_51, hF_52⟩ := Option.bind_eq_some_iff.mp hF_50
    clear hF_50
    refine m_ci hsz hS (va_runV (As := [.int (σ.2 19 p0.toNatClampNeg), .int 0]) (rest := []) ⟨hx, hb, hml, hown, hts⟩ (m_X12_means l dC dI cB cC cI cJ cZ cP h qK qS ad hDD s.heap.size  (σ.2 19 p0.toNatClampNeg) 0 σ _ hu_51) (cwV 2 hts (g_gV wq_1705 wq_1706 wq_2180 wq_13 wq_1707) rfl rfl rfl (by decide +kernel) ⟨by show 2 + 1 ≤ 1404 + (d + 1); omega, by show 8 + (5 + 11) + 62 ≤ 36512 + 23 * (d + 1); omega⟩) (m_preV g_bl0 hsz hK hP hS hE hKS g_to0) rfl rfl hl.1 rfl (lv_room (Nat.le_of_ble_eq_true rfl)) dX12_mean_152 ⟨Nat.le_of_ble_eq_true rfl, Nat.le_of_ble_eq_true rfl⟩) (fun H locs hP hS => ?_)
    obtain ⟨j_54, ej_54, hF_55⟩ := bnd_e hF_52
    clear hF_52
    have Jj_54 : ∀  (σ_53 : MS), j_54  σ_53 = some res → ∀ (H : Heap) (locs : List Loc), va_P (dC, dI) vwCl (mW cB cI cZ h qK qS ad σ_53) H → va_S (mCells h ad sz) s.heap H locs → ∀ ls : Array Slot, lv_has ls 3 [(0, .ref h), (1, .int p0)] → W p l e (headSpec (g_ws yX12_mean cX12_mean 3 none) { frames := 1404 + (d + 1), cells := 0, slots := 0, locals := 36512 + 23 * (d + 1) }).room s m ([.ref h, .int p0] : List Value).toArray below meth c H locs 0 0 (MQ below (va_Qv (fun (_ : Unit) => True) (fun _ t => va_P (dC, dI) vwCl (mW cB cI cZ h qK qS ad res.2) t.heap) (mCells h ad sz)) ([.ref h, .int p0] : List Value).toArray s 0 0 (mCells h ad sz)) (F0 m 173 ls []) := by
      intro  σ_53 hF0 H locs hP hS ls hl
      subst ej_54
      have hF_56 := hF0
      clear hF0
      refine lv_aload_n hx hb dX12_mean_173 rfl (lv_at hl 0 rfl) ?_
      refine lv_aload_n hx hb dX12_mean_174 rfl (lv_at hl 0 rfl) ?_
      refine va_get (D := (dC, dI)) (ci := 12) (v := .ref (ad 20)) (C := RX12) (T := TX12) (N := 123) hx hb hts ii_X12 hown hK hP 0 rfl rfl 20 (by decide) (hts (.fieldLink RX12 58 "StoryHouseModel" "b" "[I") wq_1376) (fun _ h9 => h9) rfl dX12_mean_175 ?_
      refine lv_iload_n hx hb dX12_mean_178 rfl (lv_at hl 1 rfl) ?_
      obtain ⟨g_57, hF_58⟩ := nif_e hF_56
      clear hF_56
      refine va_iald (f := σ_53.2 20) hx hb hK hP 11 2 rfl rfl g_57 dX12_mean_179 ?_
      obtain ⟨u_59, hu_59, hF_60⟩ := Option.bind_eq_some_iff.mp hF_58
      clear hF_58
      refine m_cv hsz hS (va_runV (As := [.int (σ_53.2 20 p0.toNatClampNeg)]) (rest := []) ⟨hx, hb, hml, hown, hts⟩ (m_X12_meanExpression l dC dI cB cC cI cJ cZ cP h qK qS ad hDD H.size  (σ_53.2 20 p0.toNatClampNeg) σ_53 _ hu_59) (cwV 1 hts (g_gV wq_1702 wq_1703 wq_2179 wq_13 wq_1704) rfl rfl rfl (by decide +kernel) ⟨by show 1403 + 1 ≤ 1404 + (d + 1); omega, by show 8 + (3 + 11) + 36486 ≤ 36512 + 23 * (d + 1); omega⟩) (m_preV g_bl0 hsz hK hP hS hE hKS g_to0) rfl rfl hl.1 rfl (lv_room (Nat.le_of_ble_eq_true rfl)) dX12_mean_180 ⟨Nat.le_of_ble_eq_true rfl, Nat.le_of_ble_eq_true rfl⟩) (fun H locs hP hS => ?_)
      refine lv_goto (tgt := 534) hx hb dX12_mean_183 (by decide) ?_
      have h9 := Option.some.inj hF_60
      subst h9
      exact W.vret hx hb hr (fun t ht hW => ⟨⟨(), rfl, trivial, m_end ht hP⟩, hS.F ht⟩) hS.2.2 dX12_mean_534
    refine lv_if_ne (tgt := 173) hx hb dX12_mean_155 (by decide) (fun c_61 => ?_) (fun c_61 => ?_)
    · have hF_71 := ineg c_61 hF_55
      clear hF_55
      exact Jj_54  u_51.2 hF_71 _ _ hP hS ls (lv_sub hl [0, 1] rfl)
    · have hF_62 := ipos c_61 hF_55
      clear hF_55
      refine lv_aload_n hx hb dX12_mean_158 rfl (lv_at hl 0 rfl) ?_
      refine lv_aload_n hx hb dX12_mean_159 rfl (lv_at hl 0 rfl) ?_
      refine va_get (D := (dC, dI)) (ci := 12) (v := .ref (ad 18)) (C := RX12) (T := TX12) (N := 123) hx hb hts ii_X12 hown hK hP 0 rfl rfl 18 (by decide) (hts (.fieldLink RX12 52 "StoryHouseModel" "where" "[I") wq_1374) (fun _ h9 => h9) rfl dX12_mean_160 ?_
      refine lv_aload_n hx hb dX12_mean_163 rfl (lv_at hl 0 rfl) ?_
      refine va_get (D := (dC, dI)) (ci := 12) (v := .ref (ad 19)) (C := RX12) (T := TX12) (N := 123) hx hb hts ii_X12 hown hK hP 0 rfl rfl 19 (by decide) (hts (.fieldLink RX12 55 "StoryHouseModel" "a" "[I") wq_1375) (fun _ h9 => h9) rfl dX12_mean_164 ?_
      refine lv_iload_n hx hb dX12_mean_167 rfl (lv_at hl 1 rfl) ?_
      obtain ⟨g_63, hF_64⟩ := nif_e hF_62
      clear hF_62
      refine va_iald (f := u_51.2.2 19) hx hb hK hP 10 2 rfl rfl g_63 dX12_mean_168 ?_
      obtain ⟨x_65, ex_65, hF_66⟩ := bnd_e hF_64
      clear hF_64
      refine m_top ex_65 ?_
      obtain ⟨g_67, hF_68⟩ := nif_e hF_66
      clear hF_66
      refine va_iald (f := u_51.2.2 18) hx hb hK hP 9 2 rfl rfl g_67 dX12_mean_169 ?_
      obtain ⟨u_69, hu_69, hF_70⟩ := Option.bind_eq_some_iff.mp hF_68
      clear hF_68
      refine m_cv hsz hS (va_runV (As := [.int (u_51.2.2 18 x_65.toNatClampNeg)]) (rest := []) ⟨hx, hb, hml, hown, hts⟩ (m_X12_wrong l dC dI cB cC cI cJ cZ cP h qK qS ad hDD H.size  (u_51.2.2 18 x_65.toNatClampNeg) u_51.2 _ hu_69) (cwV 1 hts (g_gV wq_1684 wq_1685 wq_2173 wq_13 wq_1686) rfl rfl rfl (by decide +kernel) ⟨by show 2 + 1 ≤ 1404 + (d + 1); omega, by show 8 + (2 + 11) + 62 ≤ 36512 + 23 * (d + 1); omega⟩) (m_preV g_bl0 hsz hK hP hS hE hKS g_to0) rfl rfl hl.1 rfl (lv_room (Nat.le_of_ble_eq_true rfl)) dX12_mean_170 ⟨Nat.le_of_ble_eq_true rfl, Nat.le_of_ble_eq_true rfl⟩) (fun H locs hP hS => ?_)
      exact Jj_54  u_69.2 hF_70 _ _ hP hS ls (lv_sub hl [0, 1] rfl)
  have hF_72 := ineg c_47 hF_46
  clear hF_46
  by_cases c_73 : x_3 = 23
  · have hF_74 := ipos c_73 hF_72
    clear hF_72
    refine lv_tableIn (off := 180) (tgt := 186) hx hb dX12_mean_6 (by rw [c_73]; decide +kernel) (by rw [c_73]; decide +kernel) (by rw [c_73]; decide +kernel) (by decide) ?_
    refine lv_aload_n hx hb dX12_mean_186 rfl (lv_at hl 0 rfl) ?_
    refine lv_aload_n hx hb dX12_mean_187 rfl (lv_at hl 0 rfl) ?_
    refine va_get (D := (dC, dI)) (ci := 12) (v := .ref (ad 19)) (C := RX12) (T := TX12) (N := 123) hx hb hts ii_X12 hown hK hP 0 rfl rfl 19 (by decide) (hts (.fieldLink RX12 55 "StoryHouseModel" "a" "[I") wq_1375) (fun _ h9 => h9) rfl dX12_mean_188 ?_
    refine lv_aload_n hx hb dX12_mean_191 rfl (lv_at hl 0 rfl) ?_
    refine va_get (D := (dC, dI)) (ci := 12) (v := .ref (ad 19)) (C := RX12) (T := TX12) (N := 123) hx hb hts ii_X12 hown hK hP 0 rfl rfl 19 (by decide) (hts (.fieldLink RX12 55 "StoryHouseModel" "a" "[I") wq_1375) (fun _ h9 => h9) rfl dX12_mean_192 ?_
    refine lv_iload_n hx hb dX12_mean_195 rfl (lv_at hl 1 rfl) ?_
    obtain ⟨g_75, hF_76⟩ := nif_e hF_74
    clear hF_74
    refine va_iald (f := σ.2 19) hx hb hK hP 10 2 rfl rfl g_75 dX12_mean_196 ?_
    obtain ⟨x_77, ex_77, hF_78⟩ := bnd_e hF_76
    clear hF_76
    refine m_top ex_77 ?_
    obtain ⟨g_79, hF_80⟩ := nif_e hF_78
    clear hF_78
    refine va_iald (f := σ.2 19) hx hb hK hP 10 2 rfl rfl g_79 dX12_mean_197 ?_
    refine lv_iconst (v := 5) hx hb dX12_mean_198 (by decide +kernel) ?_
    obtain ⟨u_81, hu_81, hF_82⟩ := Option.bind_eq_some_iff.mp hF_80
    clear hF_80
    refine m_ci hsz hS (va_runV (As := [.int (σ.2 19 x_77.toNatClampNeg), .int 5]) (rest := []) ⟨hx, hb, hml, hown, hts⟩ (m_X12_is l dC dI cB cC cI cJ cZ cP h qK qS ad hDD s.heap.size  (σ.2 19 x_77.toNatClampNeg) 5 σ _ hu_81) (cwV 2 hts (g_gV wq_1681 wq_1682 wq_2172 wq_13 wq_1683) rfl rfl rfl (by decide +kernel) ⟨by show 1 + 1 ≤ 1404 + (d + 1); omega, by show 8 + (3 + 11) + 40 ≤ 36512 + 23 * (d + 1); omega⟩) (m_preV g_bl0 hsz hK hP hS hE hKS g_to0) rfl rfl hl.1 rfl (lv_room (Nat.le_of_ble_eq_true rfl)) dX12_mean_199 ⟨Nat.le_of_ble_eq_true rfl, Nat.le_of_ble_eq_true rfl⟩) (fun H locs hP hS => ?_)
    obtain ⟨j_84, ej_84, hF_85⟩ := bnd_e hF_82
    clear hF_82
    have Jj_84 : ∀  (σ_83 : MS), j_84  σ_83 = some res → ∀ (H : Heap) (locs : List Loc), va_P (dC, dI) vwCl (mW cB cI cZ h qK qS ad σ_83) H → va_S (mCells h ad sz) s.heap H locs → ∀ ls : Array Slot, lv_has ls 3 [(0, .ref h), (1, .int p0)] → W p l e (headSpec (g_ws yX12_mean cX12_mean 3 none) { frames := 1404 + (d + 1), cells := 0, slots := 0, locals := 36512 + 23 * (d + 1) }).room s m ([.ref h, .int p0] : List Value).toArray below meth c H locs 0 0 (MQ below (va_Qv (fun (_ : Unit) => True) (fun _ t => va_P (dC, dI) vwCl (mW cB cI cZ h qK qS ad res.2) t.heap) (mCells h ad sz)) ([.ref h, .int p0] : List Value).toArray s 0 0 (mCells h ad sz)) (F0 m 238 ls []) := by
      intro  σ_83 hF0 H locs hP hS ls hl
      subst ej_84
      have hF_86 := hF0
      clear hF0
      refine lv_aload_n hx hb dX12_mean_238 rfl (lv_at hl 0 rfl) ?_
      refine va_get (D := (dC, dI)) (ci := 12) (v := .ref (ad 21)) (C := RX12) (T := TX12) (N := 123) hx hb hts ii_X12 hown hK hP 0 rfl rfl 21 (by decide) (hts (.fieldLink RX12 61 "StoryHouseModel" "d" "[I") wq_1377) (fun _ h9 => h9) rfl dX12_mean_239 ?_
      refine lv_aload_n hx hb dX12_mean_242 rfl (lv_at hl 0 rfl) ?_
      refine va_get (D := (dC, dI)) (ci := 12) (v := .ref (ad 19)) (C := RX12) (T := TX12) (N := 123) hx hb hts ii_X12 hown hK hP 0 rfl rfl 19 (by decide) (hts (.fieldLink RX12 55 "StoryHouseModel" "a" "[I") wq_1375) (fun _ h9 => h9) rfl dX12_mean_243 ?_
      refine lv_iload_n hx hb dX12_mean_246 rfl (lv_at hl 1 rfl) ?_
      obtain ⟨g_87, hF_88⟩ := nif_e hF_86
      clear hF_86
      refine va_iald (f := σ_83.2 19) hx hb hK hP 10 2 rfl rfl g_87 dX12_mean_247 ?_
      refine lv_aload_n hx hb dX12_mean_248 rfl (lv_at hl 0 rfl) ?_
      refine va_get (D := (dC, dI)) (ci := 12) (v := .ref (ad 29)) (C := RX12) (T := TX12) (N := 123) hx hb hts ii_X12 hown hK hP 0 rfl rfl 29 (by decide) (hts (.fieldLink RX12 70 "StoryHouseModel" "nameNumber" "[I") wq_1385) (fun _ h9 => h9) rfl dX12_mean_249 ?_
      refine lv_aload_n hx hb dX12_mean_252 rfl (lv_at hl 0 rfl) ?_
      refine va_get (D := (dC, dI)) (ci := 12) (v := .ref (ad 19)) (C := RX12) (T := TX12) (N := 123) hx hb hts ii_X12 hown hK hP 0 rfl rfl 19 (by decide) (hts (.fieldLink RX12 55 "StoryHouseModel" "a" "[I") wq_1375) (fun _ h9 => h9) rfl dX12_mean_253 ?_
      refine lv_aload_n hx hb dX12_mean_256 rfl (lv_at hl 0 rfl) ?_
      refine va_get (D := (dC, dI)) (ci := 12) (v := .ref (ad 19)) (C := RX12) (T := TX12) (N := 123) hx hb hts ii_X12 hown hK hP 0 rfl rfl 19 (by decide) (hts (.fieldLink RX12 55 "StoryHouseModel" "a" "[I") wq_1375) (fun _ h9 => h9) rfl dX12_mean_257 ?_
      refine lv_iload_n hx hb dX12_mean_260 rfl (lv_at hl 1 rfl) ?_
      obtain ⟨g_89, hF_90⟩ := nif_e hF_88
      clear hF_88
      refine va_iald (f := σ_83.2 19) hx hb hK hP 10 2 rfl rfl g_89 dX12_mean_261 ?_
      obtain ⟨x_91, ex_91, hF_92⟩ := bnd_e hF_90
      clear hF_90
      refine m_top ex_91 ?_
      obtain ⟨g_93, hF_94⟩ := nif_e hF_92
      clear hF_92
      refine va_iald (f := σ_83.2 19) hx hb hK hP 10 2 rfl rfl g_93 dX12_mean_262 ?_
      obtain ⟨x_95, ex_95, hF_96⟩ := bnd_e hF_94
      clear hF_94
      refine m_top ex_95 ?_
      obtain ⟨g_97, hF_98⟩ := nif_e hF_96
      clear hF_96
      refine va_iald (f := σ_83.2 29) hx hb hK hP 15 2 rfl rfl g_97 dX12_mean_263 ?_
      obtain ⟨g_99, hF_100⟩ := nif_e hF_98
      clear hF_98
      obtain ⟨σ_101, eσ_101, hF_102⟩ := bnd_e hF_100
      clear hF_100
      refine m_iast (σ' := σ_101) hx hb hK hP (hDD _ _) hS (q0 := 12) (t0 := 2) (f := σ_83.2 21) rfl rfl (by rw [eσ_101]; exact mwA_21) g_99 dX12_mean_264 (fun H locs hP hS => ?_)
      refine lv_aload_n hx hb dX12_mean_265 rfl (lv_at hl 0 rfl) ?_
      refine lv_aload_n hx hb dX12_mean_266 rfl (lv_at hl 0 rfl) ?_
      refine va_get (D := (dC, dI)) (ci := 12) (v := .ref (ad 20)) (C := RX12) (T := TX12) (N := 123) hx hb hts ii_X12 hown hK hP 0 rfl rfl 20 (by decide) (hts (.fieldLink RX12 58 "StoryHouseModel" "b" "[I") wq_1376) (fun _ h9 => h9) rfl dX12_mean_267 ?_
      refine lv_iload_n hx hb dX12_mean_270 rfl (lv_at hl 1 rfl) ?_
      obtain ⟨g_103, hF_104⟩ := nif_e hF_102
      clear hF_102
      refine va_iald (f := σ_101.2 20) hx hb hK hP 11 2 rfl rfl g_103 dX12_mean_271 ?_
      obtain ⟨u_105, hu_105, hF_106⟩ := Option.bind_eq_some_iff.mp hF_104
      clear hF_104
      refine m_cv hsz hS (va_runV (As := [.int (σ_101.2 20 p0.toNatClampNeg)]) (rest := []) ⟨hx, hb, hml, hown, hts⟩ (m_X12_meanExpression l dC dI cB cC cI cJ cZ cP h qK qS ad hDD H.size  (σ_101.2 20 p0.toNatClampNeg) σ_101 _ hu_105) (cwV 1 hts (g_gV wq_1702 wq_1703 wq_2179 wq_13 wq_1704) rfl rfl rfl (by decide +kernel) ⟨by show 1403 + 1 ≤ 1404 + (d + 1); omega, by show 8 + (3 + 11) + 36486 ≤ 36512 + 23 * (d + 1); omega⟩) (m_preV g_bl0 hsz hK hP hS hE hKS g_to0) rfl rfl hl.1 rfl (lv_room (Nat.le_of_ble_eq_true rfl)) dX12_mean_272 ⟨Nat.le_of_ble_eq_true rfl, Nat.le_of_ble_eq_true rfl⟩) (fun H locs hP hS => ?_)
      refine lv_aload_n hx hb dX12_mean_275 rfl (lv_at hl 0 rfl) ?_
      refine lv_aload_n hx hb dX12_mean_276 rfl (lv_at hl 0 rfl) ?_
      refine va_get (D := (dC, dI)) (ci := 12) (v := .ref (ad 21)) (C := RX12) (T := TX12) (N := 123) hx hb hts ii_X12 hown hK hP 0 rfl rfl 21 (by decide) (hts (.fieldLink RX12 61 "StoryHouseModel" "d" "[I") wq_1377) (fun _ h9 => h9) rfl dX12_mean_277 ?_
      refine lv_iload_n hx hb dX12_mean_280 rfl (lv_at hl 1 rfl) ?_
      obtain ⟨g_107, hF_108⟩ := nif_e hF_106
      clear hF_106
      refine va_iald (f := u_105.2.2 21) hx hb hK hP 12 2 rfl rfl g_107 dX12_mean_281 ?_
      obtain ⟨u_109, hu_109, hF_110⟩ := Option.bind_eq_some_iff.mp hF_108
      clear hF_108
      refine m_cv hsz hS (va_runV (As := [.int (u_105.2.2 21 p0.toNatClampNeg)]) (rest := []) ⟨hx, hb, hml, hown, hts⟩ (m_X12_meanExpression l dC dI cB cC cI cJ cZ cP h qK qS ad hDD H.size  (u_105.2.2 21 p0.toNatClampNeg) u_105.2 _ hu_109) (cwV 1 hts (g_gV wq_1702 wq_1703 wq_2179 wq_13 wq_1704) rfl rfl rfl (by decide +kernel) ⟨by show 1403 + 1 ≤ 1404 + (d + 1); omega, by show 8 + (3 + 11) + 36486 ≤ 36512 + 23 * (d + 1); omega⟩) (m_preV g_bl0 hsz hK hP hS hE hKS g_to0) rfl rfl hl.1 rfl (lv_room (Nat.le_of_ble_eq_true rfl)) dX12_mean_282 ⟨Nat.le_of_ble_eq_true rfl, Nat.le_of_ble_eq_true rfl⟩) (fun H locs hP hS => ?_)
      refine lv_goto (tgt := 534) hx hb dX12_mean_285 (by decide) ?_
      have h9 := Option.some.inj hF_110
      subst h9
      exact W.vret hx hb hr (fun t ht hW => ⟨⟨(), rfl, trivial, m_end ht hP⟩, hS.F ht⟩) hS.2.2 dX12_mean_534
    obtain ⟨j_112, ej_112, hF_113⟩ := bnd_e hF_85
    clear hF_85
    have Jj_112 : ∀  (σ_111 : MS), j_112  σ_111 = some res → ∀ (H : Heap) (locs : List Loc), va_P (dC, dI) vwCl (mW cB cI cZ h qK qS ad σ_111) H → va_S (mCells h ad sz) s.heap H locs → ∀ ls : Array Slot, lv_has ls 3 [(0, .ref h), (1, .int p0)] → W p l e (headSpec (g_ws yX12_mean cX12_mean 3 none) { frames := 1404 + (d + 1), cells := 0, slots := 0, locals := 36512 + 23 * (d + 1) }).room s m ([.ref h, .int p0] : List Value).toArray below meth c H locs 0 0 (MQ below (va_Qv (fun (_ : Unit) => True) (fun _ t => va_P (dC, dI) vwCl (mW cB cI cZ h qK qS ad res.2) t.heap) (mCells h ad sz)) ([.ref h, .int p0] : List Value).toArray s 0 0 (mCells h ad sz)) (F0 m 223 ls []) := by
      intro  σ_111 hF0 H locs hP hS ls hl
      subst ej_112
      have hF_114 := hF0
      clear hF0
      refine lv_aload_n hx hb dX12_mean_223 rfl (lv_at hl 0 rfl) ?_
      refine lv_aload_n hx hb dX12_mean_224 rfl (lv_at hl 0 rfl) ?_
      refine va_get (D := (dC, dI)) (ci := 12) (v := .ref (ad 18)) (C := RX12) (T := TX12) (N := 123) hx hb hts ii_X12 hown hK hP 0 rfl rfl 18 (by decide) (hts (.fieldLink RX12 52 "StoryHouseModel" "where" "[I") wq_1374) (fun _ h9 => h9) rfl dX12_mean_225 ?_
      refine lv_aload_n hx hb dX12_mean_228 rfl (lv_at hl 0 rfl) ?_
      refine va_get (D := (dC, dI)) (ci := 12) (v := .ref (ad 19)) (C := RX12) (T := TX12) (N := 123) hx hb hts ii_X12 hown hK hP 0 rfl rfl 19 (by decide) (hts (.fieldLink RX12 55 "StoryHouseModel" "a" "[I") wq_1375) (fun _ h9 => h9) rfl dX12_mean_229 ?_
      refine lv_iload_n hx hb dX12_mean_232 rfl (lv_at hl 1 rfl) ?_
      obtain ⟨g_115, hF_116⟩ := nif_e hF_114
      clear hF_114
      refine va_iald (f := σ_111.2 19) hx hb hK hP 10 2 rfl rfl g_115 dX12_mean_233 ?_
      obtain ⟨x_117, ex_117, hF_118⟩ := bnd_e hF_116
      clear hF_116
      refine m_top ex_117 ?_
      obtain ⟨g_119, hF_120⟩ := nif_e hF_118
      clear hF_118
      refine va_iald (f := σ_111.2 18) hx hb hK hP 9 2 rfl rfl g_119 dX12_mean_234 ?_
      obtain ⟨u_121, hu_121, hF_122⟩ := Option.bind_eq_some_iff.mp hF_120
      clear hF_120
      refine m_cv hsz hS (va_runV (As := [.int (σ_111.2 18 x_117.toNatClampNeg)]) (rest := []) ⟨hx, hb, hml, hown, hts⟩ (m_X12_wrong l dC dI cB cC cI cJ cZ cP h qK qS ad hDD H.size  (σ_111.2 18 x_117.toNatClampNeg) σ_111 _ hu_121) (cwV 1 hts (g_gV wq_1684 wq_1685 wq_2173 wq_13 wq_1686) rfl rfl rfl (by decide +kernel) ⟨by show 2 + 1 ≤ 1404 + (d + 1); omega, by show 8 + (2 + 11) + 62 ≤ 36512 + 23 * (d + 1); omega⟩) (m_preV g_bl0 hsz hK hP hS hE hKS g_to0) rfl rfl hl.1 rfl (lv_room (Nat.le_of_ble_eq_true rfl)) dX12_mean_235 ⟨Nat.le_of_ble_eq_true rfl, Nat.le_of_ble_eq_true rfl⟩) (fun H locs hP hS => ?_)
      exact Jj_84  u_121.2 hF_122 _ _ hP hS ls (lv_sub hl [0, 1] rfl)
    refine lv_if_eq (tgt := 223) hx hb dX12_mean_202 (by decide) (fun c_123 => ?_) (fun c_123 => ?_)
    · have hF_124 := ipos c_123 hF_113
      clear hF_113
      exact Jj_112  u_81.2 hF_124 _ _ hP hS ls (lv_sub hl [0, 1] rfl)
    · have hF_125 := ineg c_123 hF_113
      clear hF_113
      refine lv_aload_n hx hb dX12_mean_205 rfl (lv_at hl 0 rfl) ?_
      refine lv_aload_n hx hb dX12_mean_206 rfl (lv_at hl 0 rfl) ?_
      refine va_get (D := (dC, dI)) (ci := 12) (v := .ref (ad 19)) (C := RX12) (T := TX12) (N := 123) hx hb hts ii_X12 hown hK hP 0 rfl rfl 19 (by decide) (hts (.fieldLink RX12 55 "StoryHouseModel" "a" "[I") wq_1375) (fun _ h9 => h9) rfl dX12_mean_207 ?_
      refine lv_aload_n hx hb dX12_mean_210 rfl (lv_at hl 0 rfl) ?_
      refine va_get (D := (dC, dI)) (ci := 12) (v := .ref (ad 19)) (C := RX12) (T := TX12) (N := 123) hx hb hts ii_X12 hown hK hP 0 rfl rfl 19 (by decide) (hts (.fieldLink RX12 55 "StoryHouseModel" "a" "[I") wq_1375) (fun _ h9 => h9) rfl dX12_mean_211 ?_
      refine lv_iload_n hx hb dX12_mean_214 rfl (lv_at hl 1 rfl) ?_
      obtain ⟨g_126, hF_127⟩ := nif_e hF_125
      clear hF_125
      refine va_iald (f := u_81.2.2 19) hx hb hK hP 10 2 rfl rfl g_126 dX12_mean_215 ?_
      obtain ⟨x_128, ex_128, hF_129⟩ := bnd_e hF_127
      clear hF_127
      refine m_top ex_128 ?_
      obtain ⟨g_130, hF_131⟩ := nif_e hF_129
      clear hF_129
      refine va_iald (f := u_81.2.2 19) hx hb hK hP 10 2 rfl rfl g_130 dX12_mean_216 ?_
      obtain ⟨u_132, hu_132, hF_133⟩ := Option.bind_eq_some_iff.mp hF_131
      clear hF_131
      refine m_ci hsz hS (va_runV (As := [.int (u_81.2.2 19 x_128.toNatClampNeg)]) (rest := []) ⟨hx, hb, hml, hown, hts⟩ (m_X12_slotOf l dC dI cB cC cI cJ cZ cP h qK qS ad hDD H.size  (u_81.2.2 19 x_128.toNatClampNeg) u_81.2 _ hu_132) (cwV 1 hts (g_gV wq_1708 wq_1709 wq_2181 wq_13 wq_1710) rfl rfl rfl (by decide +kernel) ⟨by show 1 + 1 ≤ 1404 + (d + 1); omega, by show 8 + (3 + 11) + 40 ≤ 36512 + 23 * (d + 1); omega⟩) (m_preV g_bl0 hsz hK hP hS hE hKS g_to0) rfl rfl hl.1 rfl (lv_room (Nat.le_of_ble_eq_true rfl)) dX12_mean_217 ⟨Nat.le_of_ble_eq_true rfl, Nat.le_of_ble_eq_true rfl⟩) (fun H locs hP hS => ?_)
      refine lv_if_lt (tgt := 238) hx hb dX12_mean_220 (by decide) (fun c_134 => ?_) (fun c_134 => ?_)
      · have hF_135 := ipos c_134 hF_133
        clear hF_133
        exact Jj_84  u_132.2 hF_135 _ _ hP hS ls (lv_sub hl [0, 1] rfl)
      · have hF_136 := ineg c_134 hF_133
        clear hF_133
        exact Jj_112  u_132.2 hF_136 _ _ hP hS ls (lv_sub hl [0, 1] rfl)
  have hF_137 := ineg c_73 hF_72
  clear hF_72
  by_cases c_138 : x_3 = 24
  · have hF_139 := ipos c_138 hF_137
    clear hF_137
    refine lv_tableIn (off := 282) (tgt := 288) hx hb dX12_mean_6 (by rw [c_138]; decide +kernel) (by rw [c_138]; decide +kernel) (by rw [c_138]; decide +kernel) (by decide) ?_
    refine lv_aload_n hx hb dX12_mean_288 rfl (lv_at hl 0 rfl) ?_
    refine lv_aload_n hx hb dX12_mean_289 rfl (lv_at hl 0 rfl) ?_
    refine va_get (D := (dC, dI)) (ci := 12) (v := .ref (ad 19)) (C := RX12) (T := TX12) (N := 123) hx hb hts ii_X12 hown hK hP 0 rfl rfl 19 (by decide) (hts (.fieldLink RX12 55 "StoryHouseModel" "a" "[I") wq_1375) (fun _ h9 => h9) rfl dX12_mean_290 ?_
    refine lv_iload_n hx hb dX12_mean_293 rfl (lv_at hl 1 rfl) ?_
    obtain ⟨g_140, hF_141⟩ := nif_e hF_139
    clear hF_139
    refine va_iald (f := σ.2 19) hx hb hK hP 10 2 rfl rfl g_140 dX12_mean_294 ?_
    obtain ⟨u_142, hu_142, hF_143⟩ := Option.bind_eq_some_iff.mp hF_141
    clear hF_141
    refine m_cv hsz hS (va_runV (As := [.int (σ.2 19 p0.toNatClampNeg)]) (rest := []) ⟨hx, hb, hml, hown, hts⟩ (m_X12_meanExpression l dC dI cB cC cI cJ cZ cP h qK qS ad hDD s.heap.size  (σ.2 19 p0.toNatClampNeg) σ _ hu_142) (cwV 1 hts (g_gV wq_1702 wq_1703 wq_2179 wq_13 wq_1704) rfl rfl rfl (by decide +kernel) ⟨by show 1403 + 1 ≤ 1404 + (d + 1); omega, by show 8 + (3 + 11) + 36486 ≤ 36512 + 23 * (d + 1); omega⟩) (m_preV g_bl0 hsz hK hP hS hE hKS g_to0) rfl rfl hl.1 rfl (lv_room (Nat.le_of_ble_eq_true rfl)) dX12_mean_295 ⟨Nat.le_of_ble_eq_true rfl, Nat.le_of_ble_eq_true rfl⟩) (fun H locs hP hS => ?_)
    refine lv_aload_n hx hb dX12_mean_298 rfl (lv_at hl 0 rfl) ?_
    refine lv_aload_n hx hb dX12_mean_299 rfl (lv_at hl 0 rfl) ?_
    refine va_get (D := (dC, dI)) (ci := 12) (v := .ref (ad 20)) (C := RX12) (T := TX12) (N := 123) hx hb hts ii_X12 hown hK hP 0 rfl rfl 20 (by decide) (hts (.fieldLink RX12 58 "StoryHouseModel" "b" "[I") wq_1376) (fun _ h9 => h9) rfl dX12_mean_300 ?_
    refine lv_iload_n hx hb dX12_mean_303 rfl (lv_at hl 1 rfl) ?_
    obtain ⟨g_144, hF_145⟩ := nif_e hF_143
    clear hF_143
    refine va_iald (f := u_142.2.2 20) hx hb hK hP 11 2 rfl rfl g_144 dX12_mean_304 ?_
    obtain ⟨u_146, hu_146, hF_147⟩ := Option.bind_eq_some_iff.mp hF_145
    clear hF_145
    refine m_cv hsz hS (va_runV (As := [.int (u_142.2.2 20 p0.toNatClampNeg)]) (rest := []) ⟨hx, hb, hml, hown, hts⟩ (m_X12_meanExpression l dC dI cB cC cI cJ cZ cP h qK qS ad hDD H.size  (u_142.2.2 20 p0.toNatClampNeg) u_142.2 _ hu_146) (cwV 1 hts (g_gV wq_1702 wq_1703 wq_2179 wq_13 wq_1704) rfl rfl rfl (by decide +kernel) ⟨by show 1403 + 1 ≤ 1404 + (d + 1); omega, by show 8 + (3 + 11) + 36486 ≤ 36512 + 23 * (d + 1); omega⟩) (m_preV g_bl0 hsz hK hP hS hE hKS g_to0) rfl rfl hl.1 rfl (lv_room (Nat.le_of_ble_eq_true rfl)) dX12_mean_305 ⟨Nat.le_of_ble_eq_true rfl, Nat.le_of_ble_eq_true rfl⟩) (fun H locs hP hS => ?_)
    refine lv_goto (tgt := 534) hx hb dX12_mean_308 (by decide) ?_
    have h9 := Option.some.inj hF_147
    subst h9
    exact W.vret hx hb hr (fun t ht hW => ⟨⟨(), rfl, trivial, m_end ht hP⟩, hS.F ht⟩) hS.2.2 dX12_mean_534
  have hF_148 := ineg c_138 hF_137
  clear hF_137
  by_cases c_149 : x_3 = 25 ∨ x_3 = 26
  · have hF_150 := ipos c_149 hF_148
    clear hF_148
    refine lv_tableIn (off := 305) (tgt := 311) hx hb dX12_mean_6 (by rcases c_149 with q9 | q9 <;> (rw [q9]; decide +kernel)) (by rcases c_149 with q9 | q9 <;> (rw [q9]; decide +kernel)) (by rcases c_149 with q9 | q9 <;> (rw [q9]; decide +kernel)) (by decide) ?_
    refine lv_aload_n hx hb dX12_mean_311 rfl (lv_at hl 0 rfl) ?_
    refine lv_aload_n hx hb dX12_mean_312 rfl (lv_at hl 0 rfl) ?_
    refine va_get (D := (dC, dI)) (ci := 12) (v := .ref (ad 19)) (C := RX12) (T := TX12) (N := 123) hx hb hts ii_X12 hown hK hP 0 rfl rfl 19 (by decide) (hts (.fieldLink RX12 55 "StoryHouseModel" "a" "[I") wq_1375) (fun _ h9 => h9) rfl dX12_mean_313 ?_
    refine lv_iload_n hx hb dX12_mean_316 rfl (lv_at hl 1 rfl) ?_
    obtain ⟨g_151, hF_152⟩ := nif_e hF_150
    clear hF_150
    refine va_iald (f := σ.2 19) hx hb hK hP 10 2 rfl rfl g_151 dX12_mean_317 ?_
    obtain ⟨u_153, hu_153, hF_154⟩ := Option.bind_eq_some_iff.mp hF_152
    clear hF_152
    refine m_cv hsz hS (va_runV (As := [.int (σ.2 19 p0.toNatClampNeg)]) (rest := []) ⟨hx, hb, hml, hown, hts⟩ (m_X12_meanExpression l dC dI cB cC cI cJ cZ cP h qK qS ad hDD s.heap.size  (σ.2 19 p0.toNatClampNeg) σ _ hu_153) (cwV 1 hts (g_gV wq_1702 wq_1703 wq_2179 wq_13 wq_1704) rfl rfl rfl (by decide +kernel) ⟨by show 1403 + 1 ≤ 1404 + (d + 1); omega, by show 8 + (3 + 11) + 36486 ≤ 36512 + 23 * (d + 1); omega⟩) (m_preV g_bl0 hsz hK hP hS hE hKS g_to0) rfl rfl hl.1 rfl (lv_room (Nat.le_of_ble_eq_true rfl)) dX12_mean_318 ⟨Nat.le_of_ble_eq_true rfl, Nat.le_of_ble_eq_true rfl⟩) (fun H locs hP hS => ?_)
    refine lv_goto (tgt := 534) hx hb dX12_mean_321 (by decide) ?_
    have h9 := Option.some.inj hF_154
    subst h9
    exact W.vret hx hb hr (fun t ht hW => ⟨⟨(), rfl, trivial, m_end ht hP⟩, hS.F ht⟩) hS.2.2 dX12_mean_534
  have hF_155 := ineg c_149 hF_148
  clear hF_148
  by_cases c_156 : x_3 = 27
  · have hF_157 := ipos c_156 hF_155
    clear hF_155
    refine lv_tableIn (off := 318) (tgt := 324) hx hb dX12_mean_6 (by rw [c_156]; decide +kernel) (by rw [c_156]; decide +kernel) (by rw [c_156]; decide +kernel) (by decide) ?_
    refine lv_aload_n hx hb dX12_mean_324 rfl (lv_at hl 0 rfl) ?_
    refine lv_aload_n hx hb dX12_mean_325 rfl (lv_at hl 0 rfl) ?_
    refine va_get (D := (dC, dI)) (ci := 12) (v := .ref (ad 19)) (C := RX12) (T := TX12) (N := 123) hx hb hts ii_X12 hown hK hP 0 rfl rfl 19 (by decide) (hts (.fieldLink RX12 55 "StoryHouseModel" "a" "[I") wq_1375) (fun _ h9 => h9) rfl dX12_mean_326 ?_
    refine lv_iload_n hx hb dX12_mean_329 rfl (lv_at hl 1 rfl) ?_
    obtain ⟨g_158, hF_159⟩ := nif_e hF_157
    clear hF_157
    refine va_iald (f := σ.2 19) hx hb hK hP 10 2 rfl rfl g_158 dX12_mean_330 ?_
    obtain ⟨u_160, hu_160, hF_161⟩ := Option.bind_eq_some_iff.mp hF_159
    clear hF_159
    refine m_cv hsz hS (va_runV (As := [.int (σ.2 19 p0.toNatClampNeg)]) (rest := []) ⟨hx, hb, hml, hown, hts⟩ (m_X12_meanExpression l dC dI cB cC cI cJ cZ cP h qK qS ad hDD s.heap.size  (σ.2 19 p0.toNatClampNeg) σ _ hu_160) (cwV 1 hts (g_gV wq_1702 wq_1703 wq_2179 wq_13 wq_1704) rfl rfl rfl (by decide +kernel) ⟨by show 1403 + 1 ≤ 1404 + (d + 1); omega, by show 8 + (3 + 11) + 36486 ≤ 36512 + 23 * (d + 1); omega⟩) (m_preV g_bl0 hsz hK hP hS hE hKS g_to0) rfl rfl hl.1 rfl (lv_room (Nat.le_of_ble_eq_true rfl)) dX12_mean_331 ⟨Nat.le_of_ble_eq_true rfl, Nat.le_of_ble_eq_true rfl⟩) (fun H locs hP hS => ?_)
    refine lv_aload_n hx hb dX12_mean_334 rfl (lv_at hl 0 rfl) ?_
    refine lv_aload_n hx hb dX12_mean_335 rfl (lv_at hl 0 rfl) ?_
    refine va_get (D := (dC, dI)) (ci := 12) (v := .ref (ad 20)) (C := RX12) (T := TX12) (N := 123) hx hb hts ii_X12 hown hK hP 0 rfl rfl 20 (by decide) (hts (.fieldLink RX12 58 "StoryHouseModel" "b" "[I") wq_1376) (fun _ h9 => h9) rfl dX12_mean_336 ?_
    refine lv_iload_n hx hb dX12_mean_339 rfl (lv_at hl 1 rfl) ?_
    obtain ⟨g_162, hF_163⟩ := nif_e hF_161
    clear hF_161
    refine va_iald (f := u_160.2.2 20) hx hb hK hP 11 2 rfl rfl g_162 dX12_mean_340 ?_
    obtain ⟨u_164, hu_164, hF_165⟩ := Option.bind_eq_some_iff.mp hF_163
    clear hF_163
    refine m_cv hsz hS (va_runV (As := [.int (u_160.2.2 20 p0.toNatClampNeg)]) (rest := []) ⟨hx, hb, hml, hown, hts⟩ (hI1 H.size (u_160.2.2 20 p0.toNatClampNeg) u_160.2 _ hu_164) (cwV 1 hts (g_gV wq_1696 wq_1697 wq_2177 wq_13 wq_1698) rfl rfl rfl (by decide +kernel) ⟨by show 1404 + d + 1 ≤ 1404 + (d + 1); omega, by show 8 + (4 + 11) + (36512 + 23 * d) ≤ 36512 + 23 * (d + 1); omega⟩) (m_preV g_bl0 hsz hK hP hS hE hKS g_to0) rfl rfl hl.1 rfl (lv_room (Nat.le_of_ble_eq_true rfl)) dX12_mean_341 ⟨Nat.le_of_ble_eq_true rfl, Nat.le_of_ble_eq_true rfl⟩) (fun H locs hP hS => ?_)
    refine lv_aload_n hx hb dX12_mean_344 rfl (lv_at hl 0 rfl) ?_
    refine va_get (D := (dC, dI)) (ci := 12) (v := .ref (ad 21)) (C := RX12) (T := TX12) (N := 123) hx hb hts ii_X12 hown hK hP 0 rfl rfl 21 (by decide) (hts (.fieldLink RX12 61 "StoryHouseModel" "d" "[I") wq_1377) (fun _ h9 => h9) rfl dX12_mean_345 ?_
    refine lv_iload_n hx hb dX12_mean_348 rfl (lv_at hl 1 rfl) ?_
    obtain ⟨g_166, hF_167⟩ := nif_e hF_165
    clear hF_165
    refine va_iald (f := u_164.2.2 21) hx hb hK hP 12 2 rfl rfl g_166 dX12_mean_349 ?_
    obtain ⟨j_169, ej_169, hF_170⟩ := bnd_e hF_167
    clear hF_167
    have Jj_169 : ∀  (σ_168 : MS), j_169  σ_168 = some res → ∀ (H : Heap) (locs : List Loc), va_P (dC, dI) vwCl (mW cB cI cZ h qK qS ad σ_168) H → va_S (mCells h ad sz) s.heap H locs → ∀ ls : Array Slot, lv_has ls 3 [(0, .ref h), (1, .int p0)] → W p l e (headSpec (g_ws yX12_mean cX12_mean 3 none) { frames := 1404 + (d + 1), cells := 0, slots := 0, locals := 36512 + 23 * (d + 1) }).room s m ([.ref h, .int p0] : List Value).toArray below meth c H locs 0 0 (MQ below (va_Qv (fun (_ : Unit) => True) (fun _ t => va_P (dC, dI) vwCl (mW cB cI cZ h qK qS ad res.2) t.heap) (mCells h ad sz)) ([.ref h, .int p0] : List Value).toArray s 0 0 (mCells h ad sz)) (F0 m 382 ls []) := by
      intro  σ_168 hF0 H locs hP hS ls hl
      subst ej_169
      have hF_171 := hF0
      clear hF0
      refine lv_aload_n hx hb dX12_mean_382 rfl (lv_at hl 0 rfl) ?_
      refine va_get (D := (dC, dI)) (ci := 12) (v := .ref (ad 21)) (C := RX12) (T := TX12) (N := 123) hx hb hts ii_X12 hown hK hP 0 rfl rfl 21 (by decide) (hts (.fieldLink RX12 61 "StoryHouseModel" "d" "[I") wq_1377) (fun _ h9 => h9) rfl dX12_mean_383 ?_
      refine lv_iload_n hx hb dX12_mean_386 rfl (lv_at hl 1 rfl) ?_
      obtain ⟨g_172, hF_173⟩ := nif_e hF_171
      clear hF_171
      refine va_iald (f := σ_168.2 21) hx hb hK hP 12 2 rfl rfl g_172 dX12_mean_387 ?_
      refine lv_if_lt (tgt := 534) hx hb dX12_mean_388 (by decide) (fun c_174 => ?_) (fun c_174 => ?_)
      · have hF_175 := ipos c_174 hF_173
        clear hF_173
        have h9 := Option.some.inj hF_175
        subst h9
        exact W.vret hx hb hr (fun t ht hW => ⟨⟨(), rfl, trivial, m_end ht hP⟩, hS.F ht⟩) hS.2.2 dX12_mean_534
      · have hF_176 := ineg c_174 hF_173
        clear hF_173
        refine lv_aload_n hx hb dX12_mean_391 rfl (lv_at hl 0 rfl) ?_
        refine lv_aload_n hx hb dX12_mean_392 rfl (lv_at hl 0 rfl) ?_
        refine va_get (D := (dC, dI)) (ci := 12) (v := .ref (ad 21)) (C := RX12) (T := TX12) (N := 123) hx hb hts ii_X12 hown hK hP 0 rfl rfl 21 (by decide) (hts (.fieldLink RX12 61 "StoryHouseModel" "d" "[I") wq_1377) (fun _ h9 => h9) rfl dX12_mean_393 ?_
        refine lv_iload_n hx hb dX12_mean_396 rfl (lv_at hl 1 rfl) ?_
        obtain ⟨g_177, hF_178⟩ := nif_e hF_176
        clear hF_176
        refine va_iald (f := σ_168.2 21) hx hb hK hP 12 2 rfl rfl g_177 dX12_mean_397 ?_
        obtain ⟨u_179, hu_179, hF_180⟩ := Option.bind_eq_some_iff.mp hF_178
        clear hF_178
        refine m_cv hsz hS (va_runV (As := [.int (σ_168.2 21 p0.toNatClampNeg)]) (rest := []) ⟨hx, hb, hml, hown, hts⟩ (hI1 H.size (σ_168.2 21 p0.toNatClampNeg) σ_168 _ hu_179) (cwV 1 hts (g_gV wq_1696 wq_1697 wq_2177 wq_13 wq_1698) rfl rfl rfl (by decide +kernel) ⟨by show 1404 + d + 1 ≤ 1404 + (d + 1); omega, by show 8 + (4 + 11) + (36512 + 23 * d) ≤ 36512 + 23 * (d + 1); omega⟩) (m_preV g_bl0 hsz hK hP hS hE hKS g_to0) rfl rfl hl.1 rfl (lv_room (Nat.le_of_ble_eq_true rfl)) dX12_mean_398 ⟨Nat.le_of_ble_eq_true rfl, Nat.le_of_ble_eq_true rfl⟩) (fun H locs hP hS => ?_)
        refine lv_goto (tgt := 534) hx hb dX12_mean_401 (by decide) ?_
        have h9 := Option.some.inj hF_180
        subst h9
        exact W.vret hx hb hr (fun t ht hW => ⟨⟨(), rfl, trivial, m_end ht hP⟩, hS.F ht⟩) hS.2.2 dX12_mean_534
    refine lv_if_lt (tgt := 382) hx hb dX12_mean_350 (by decide) (fun c_181 => ?_) (fun c_181 => ?_)
    · have hF_182 := ipos c_181 hF_170
      clear hF_170
      exact Jj_169  u_164.2 hF_182 _ _ hP hS ls (lv_sub hl [0, 1] rfl)
    · have hF_183 := ineg c_181 hF_170
      clear hF_170
      refine lv_aload_n hx hb dX12_mean_353 rfl (lv_at hl 0 rfl) ?_
      refine va_get (D := (dC, dI)) (ci := 12) (v := .ref (ad 17)) (C := RX12) (T := TX12) (N := 123) hx hb hts ii_X12 hown hK hP 0 rfl rfl 17 (by decide) (hts (.fieldLink RX12 49 "StoryHouseModel" "what" "[I") wq_1373) (fun _ h9 => h9) rfl dX12_mean_354 ?_
      refine lv_aload_n hx hb dX12_mean_357 rfl (lv_at hl 0 rfl) ?_
      refine va_get (D := (dC, dI)) (ci := 12) (v := .ref (ad 21)) (C := RX12) (T := TX12) (N := 123) hx hb hts ii_X12 hown hK hP 0 rfl rfl 21 (by decide) (hts (.fieldLink RX12 61 "StoryHouseModel" "d" "[I") wq_1377) (fun _ h9 => h9) rfl dX12_mean_358 ?_
      refine lv_iload_n hx hb dX12_mean_361 rfl (lv_at hl 1 rfl) ?_
      obtain ⟨g_184, hF_185⟩ := nif_e hF_183
      clear hF_183
      refine va_iald (f := u_164.2.2 21) hx hb hK hP 12 2 rfl rfl g_184 dX12_mean_362 ?_
      obtain ⟨x_186, ex_186, hF_187⟩ := bnd_e hF_185
      clear hF_185
      refine m_top ex_186 ?_
      obtain ⟨g_188, hF_189⟩ := nif_e hF_187
      clear hF_187
      refine va_iald (f := u_164.2.2 17) hx hb hK hP 8 2 rfl rfl g_188 dX12_mean_363 ?_
      refine lv_bipush (v := 27) hx hb dX12_mean_364 (by decide +kernel) ?_
      refine lv_icmp_ne (tgt := 382) hx hb dX12_mean_366 (by decide) (fun c_190 => ?_) (fun c_190 => ?_)
      · have hF_196 := ineg c_190 hF_189
        clear hF_189
        exact Jj_169  u_164.2 hF_196 _ _ hP hS ls (lv_sub hl [0, 1] rfl)
      · have hF_191 := ipos c_190 hF_189
        clear hF_189
        refine lv_aload_n hx hb dX12_mean_369 rfl (lv_at hl 0 rfl) ?_
        refine lv_aload_n hx hb dX12_mean_370 rfl (lv_at hl 0 rfl) ?_
        refine va_get (D := (dC, dI)) (ci := 12) (v := .ref (ad 21)) (C := RX12) (T := TX12) (N := 123) hx hb hts ii_X12 hown hK hP 0 rfl rfl 21 (by decide) (hts (.fieldLink RX12 61 "StoryHouseModel" "d" "[I") wq_1377) (fun _ h9 => h9) rfl dX12_mean_371 ?_
        refine lv_iload_n hx hb dX12_mean_374 rfl (lv_at hl 1 rfl) ?_
        obtain ⟨g_192, hF_193⟩ := nif_e hF_191
        clear hF_191
        refine va_iald (f := u_164.2.2 21) hx hb hK hP 12 2 rfl rfl g_192 dX12_mean_375 ?_
        obtain ⟨u_194, hu_194, hF_195⟩ := Option.bind_eq_some_iff.mp hF_193
        clear hF_193
        refine m_cv hsz hS (va_runV (As := [.int (u_164.2.2 21 p0.toNatClampNeg)]) (rest := []) ⟨hx, hb, hml, hown, hts⟩ (hI0 H.size (u_164.2.2 21 p0.toNatClampNeg) u_164.2 _ hu_194) (cwV 1 hts (g_gV wq_1699 wq_1700 wq_2178 wq_13 wq_1701) rfl rfl rfl (by decide +kernel) ⟨by show 1404 + d + 1 ≤ 1404 + (d + 1); omega, by show 8 + (3 + 11) + (36512 + 23 * d) ≤ 36512 + 23 * (d + 1); omega⟩) (m_preV g_bl0 hsz hK hP hS hE hKS g_to0) rfl rfl hl.1 rfl (lv_room (Nat.le_of_ble_eq_true rfl)) dX12_mean_376 ⟨Nat.le_of_ble_eq_true rfl, Nat.le_of_ble_eq_true rfl⟩) (fun H locs hP hS => ?_)
        refine lv_goto (tgt := 534) hx hb dX12_mean_379 (by decide) ?_
        have h9 := Option.some.inj hF_195
        subst h9
        exact W.vret hx hb hr (fun t ht hW => ⟨⟨(), rfl, trivial, m_end ht hP⟩, hS.F ht⟩) hS.2.2 dX12_mean_534
  have hF_197 := ineg c_156 hF_155
  clear hF_155
  by_cases c_198 : x_3 = 28
  · have hF_199 := ipos c_198 hF_197
    clear hF_197
    refine lv_tableIn (off := 398) (tgt := 404) hx hb dX12_mean_6 (by rw [c_198]; decide +kernel) (by rw [c_198]; decide +kernel) (by rw [c_198]; decide +kernel) (by decide) ?_
    refine lv_aload_n hx hb dX12_mean_404 rfl (lv_at hl 0 rfl) ?_
    refine lv_aload_n hx hb dX12_mean_405 rfl (lv_at hl 0 rfl) ?_
    refine va_get (D := (dC, dI)) (ci := 12) (v := .ref (ad 19)) (C := RX12) (T := TX12) (N := 123) hx hb hts ii_X12 hown hK hP 0 rfl rfl 19 (by decide) (hts (.fieldLink RX12 55 "StoryHouseModel" "a" "[I") wq_1375) (fun _ h9 => h9) rfl dX12_mean_406 ?_
    refine lv_iload_n hx hb dX12_mean_409 rfl (lv_at hl 1 rfl) ?_
    obtain ⟨g_200, hF_201⟩ := nif_e hF_199
    clear hF_199
    refine va_iald (f := σ.2 19) hx hb hK hP 10 2 rfl rfl g_200 dX12_mean_410 ?_
    obtain ⟨u_202, hu_202, hF_203⟩ := Option.bind_eq_some_iff.mp hF_201
    clear hF_201
    refine m_cv hsz hS (va_runV (As := [.int (σ.2 19 p0.toNatClampNeg)]) (rest := []) ⟨hx, hb, hml, hown, hts⟩ (m_X12_meanExpression l dC dI cB cC cI cJ cZ cP h qK qS ad hDD s.heap.size  (σ.2 19 p0.toNatClampNeg) σ _ hu_202) (cwV 1 hts (g_gV wq_1702 wq_1703 wq_2179 wq_13 wq_1704) rfl rfl rfl (by decide +kernel) ⟨by show 1403 + 1 ≤ 1404 + (d + 1); omega, by show 8 + (3 + 11) + 36486 ≤ 36512 + 23 * (d + 1); omega⟩) (m_preV g_bl0 hsz hK hP hS hE hKS g_to0) rfl rfl hl.1 rfl (lv_room (Nat.le_of_ble_eq_true rfl)) dX12_mean_411 ⟨Nat.le_of_ble_eq_true rfl, Nat.le_of_ble_eq_true rfl⟩) (fun H locs hP hS => ?_)
    refine lv_aload_n hx hb dX12_mean_414 rfl (lv_at hl 0 rfl) ?_
    refine lv_aload_n hx hb dX12_mean_415 rfl (lv_at hl 0 rfl) ?_
    refine va_get (D := (dC, dI)) (ci := 12) (v := .ref (ad 20)) (C := RX12) (T := TX12) (N := 123) hx hb hts ii_X12 hown hK hP 0 rfl rfl 20 (by decide) (hts (.fieldLink RX12 58 "StoryHouseModel" "b" "[I") wq_1376) (fun _ h9 => h9) rfl dX12_mean_416 ?_
    refine lv_iload_n hx hb dX12_mean_419 rfl (lv_at hl 1 rfl) ?_
    obtain ⟨g_204, hF_205⟩ := nif_e hF_203
    clear hF_203
    refine va_iald (f := u_202.2.2 20) hx hb hK hP 11 2 rfl rfl g_204 dX12_mean_420 ?_
    obtain ⟨u_206, hu_206, hF_207⟩ := Option.bind_eq_some_iff.mp hF_205
    clear hF_205
    refine m_cv hsz hS (va_runV (As := [.int (u_202.2.2 20 p0.toNatClampNeg)]) (rest := []) ⟨hx, hb, hml, hown, hts⟩ (hI1 H.size (u_202.2.2 20 p0.toNatClampNeg) u_202.2 _ hu_206) (cwV 1 hts (g_gV wq_1696 wq_1697 wq_2177 wq_13 wq_1698) rfl rfl rfl (by decide +kernel) ⟨by show 1404 + d + 1 ≤ 1404 + (d + 1); omega, by show 8 + (4 + 11) + (36512 + 23 * d) ≤ 36512 + 23 * (d + 1); omega⟩) (m_preV g_bl0 hsz hK hP hS hE hKS g_to0) rfl rfl hl.1 rfl (lv_room (Nat.le_of_ble_eq_true rfl)) dX12_mean_421 ⟨Nat.le_of_ble_eq_true rfl, Nat.le_of_ble_eq_true rfl⟩) (fun H locs hP hS => ?_)
    refine lv_goto (tgt := 534) hx hb dX12_mean_424 (by decide) ?_
    have h9 := Option.some.inj hF_207
    subst h9
    exact W.vret hx hb hr (fun t ht hW => ⟨⟨(), rfl, trivial, m_end ht hP⟩, hS.F ht⟩) hS.2.2 dX12_mean_534
  have hF_208 := ineg c_198 hF_197
  clear hF_197
  by_cases c_209 : x_3 = 29
  · have hF_210 := ipos c_209 hF_208
    clear hF_208
    refine lv_tableIn (off := 421) (tgt := 427) hx hb dX12_mean_6 (by rw [c_209]; decide +kernel) (by rw [c_209]; decide +kernel) (by rw [c_209]; decide +kernel) (by decide) ?_
    refine lv_aload_n hx hb dX12_mean_427 rfl (lv_at hl 0 rfl) ?_
    refine va_get (D := (dC, dI)) (ci := 12) (v := .int (σ.1 43)) (C := RX12) (T := TX12) (N := 123) hx hb hts ii_X12 hown hK hP 0 rfl rfl 43 (by decide) (hts (.fieldLink RX12 531 "StoryHouseModel" "inDef" "Z") wq_1399) (fun _ h9 => h9) rfl dX12_mean_428 ?_
    obtain ⟨j_212, ej_212, hF_213⟩ := bnd_e hF_210
    clear hF_210
    have Jj_212 : ∀  (σ_211 : MS), j_212  σ_211 = some res → ∀ (H : Heap) (locs : List Loc), va_P (dC, dI) vwCl (mW cB cI cZ h qK qS ad σ_211) H → va_S (mCells h ad sz) s.heap H locs → ∀ ls : Array Slot, lv_has ls 3 [(0, .ref h), (1, .int p0)] → W p l e (headSpec (g_ws yX12_mean cX12_mean 3 none) { frames := 1404 + (d + 1), cells := 0, slots := 0, locals := 36512 + 23 * (d + 1) }).room s m ([.ref h, .int p0] : List Value).toArray below meth c H locs 0 0 (MQ below (va_Qv (fun (_ : Unit) => True) (fun _ t => va_P (dC, dI) vwCl (mW cB cI cZ h qK qS ad res.2) t.heap) (mCells h ad sz)) ([.ref h, .int p0] : List Value).toArray s 0 0 (mCells h ad sz)) (F0 m 444 ls []) := by
      intro  σ_211 hF0 H locs hP hS ls hl
      subst ej_212
      have hF_214 := hF0
      clear hF0
      refine lv_aload_n hx hb dX12_mean_444 rfl (lv_at hl 0 rfl) ?_
      refine lv_aload_n hx hb dX12_mean_445 rfl (lv_at hl 0 rfl) ?_
      refine va_get (D := (dC, dI)) (ci := 12) (v := .ref (ad 19)) (C := RX12) (T := TX12) (N := 123) hx hb hts ii_X12 hown hK hP 0 rfl rfl 19 (by decide) (hts (.fieldLink RX12 55 "StoryHouseModel" "a" "[I") wq_1375) (fun _ h9 => h9) rfl dX12_mean_446 ?_
      refine lv_iload_n hx hb dX12_mean_449 rfl (lv_at hl 1 rfl) ?_
      obtain ⟨g_215, hF_216⟩ := nif_e hF_214
      clear hF_214
      refine va_iald (f := σ_211.2 19) hx hb hK hP 10 2 rfl rfl g_215 dX12_mean_450 ?_
      obtain ⟨u_217, hu_217, hF_218⟩ := Option.bind_eq_some_iff.mp hF_216
      clear hF_216
      refine m_cv hsz hS (va_runV (As := [.int (σ_211.2 19 p0.toNatClampNeg)]) (rest := []) ⟨hx, hb, hml, hown, hts⟩ (m_X12_meanExpression l dC dI cB cC cI cJ cZ cP h qK qS ad hDD H.size  (σ_211.2 19 p0.toNatClampNeg) σ_211 _ hu_217) (cwV 1 hts (g_gV wq_1702 wq_1703 wq_2179 wq_13 wq_1704) rfl rfl rfl (by decide +kernel) ⟨by show 1403 + 1 ≤ 1404 + (d + 1); omega, by show 8 + (3 + 11) + 36486 ≤ 36512 + 23 * (d + 1); omega⟩) (m_preV g_bl0 hsz hK hP hS hE hKS g_to0) rfl rfl hl.1 rfl (lv_room (Nat.le_of_ble_eq_true rfl)) dX12_mean_451 ⟨Nat.le_of_ble_eq_true rfl, Nat.le_of_ble_eq_true rfl⟩) (fun H locs hP hS => ?_)
      refine lv_goto (tgt := 534) hx hb dX12_mean_454 (by decide) ?_
      have h9 := Option.some.inj hF_218
      subst h9
      exact W.vret hx hb hr (fun t ht hW => ⟨⟨(), rfl, trivial, m_end ht hP⟩, hS.F ht⟩) hS.2.2 dX12_mean_534
    refine lv_if_ne (tgt := 444) hx hb dX12_mean_431 (by decide) (fun c_219 => ?_) (fun c_219 => ?_)
    · have hF_225 := ineg c_219 hF_213
      clear hF_213
      exact Jj_212  σ hF_225 _ _ hP hS ls (lv_sub hl [0, 1] rfl)
    · have hF_220 := ipos c_219 hF_213
      clear hF_213
      refine lv_aload_n hx hb dX12_mean_434 rfl (lv_at hl 0 rfl) ?_
      refine lv_aload_n hx hb dX12_mean_435 rfl (lv_at hl 0 rfl) ?_
      refine va_get (D := (dC, dI)) (ci := 12) (v := .ref (ad 18)) (C := RX12) (T := TX12) (N := 123) hx hb hts ii_X12 hown hK hP 0 rfl rfl 18 (by decide) (hts (.fieldLink RX12 52 "StoryHouseModel" "where" "[I") wq_1374) (fun _ h9 => h9) rfl dX12_mean_436 ?_
      refine lv_iload_n hx hb dX12_mean_439 rfl (lv_at hl 1 rfl) ?_
      obtain ⟨g_221, hF_222⟩ := nif_e hF_220
      clear hF_220
      refine va_iald (f := σ.2 18) hx hb hK hP 9 2 rfl rfl g_221 dX12_mean_440 ?_
      obtain ⟨u_223, hu_223, hF_224⟩ := Option.bind_eq_some_iff.mp hF_222
      clear hF_222
      refine m_cv hsz hS (va_runV (As := [.int (σ.2 18 p0.toNatClampNeg)]) (rest := []) ⟨hx, hb, hml, hown, hts⟩ (m_X12_wrong l dC dI cB cC cI cJ cZ cP h qK qS ad hDD s.heap.size  (σ.2 18 p0.toNatClampNeg) σ _ hu_223) (cwV 1 hts (g_gV wq_1684 wq_1685 wq_2173 wq_13 wq_1686) rfl rfl rfl (by decide +kernel) ⟨by show 2 + 1 ≤ 1404 + (d + 1); omega, by show 8 + (2 + 11) + 62 ≤ 36512 + 23 * (d + 1); omega⟩) (m_preV g_bl0 hsz hK hP hS hE hKS g_to0) rfl rfl hl.1 rfl (lv_room (Nat.le_of_ble_eq_true rfl)) dX12_mean_441 ⟨Nat.le_of_ble_eq_true rfl, Nat.le_of_ble_eq_true rfl⟩) (fun H locs hP hS => ?_)
      exact Jj_212  u_223.2 hF_224 _ _ hP hS ls (lv_sub hl [0, 1] rfl)
  have hF_226 := ineg c_209 hF_208
  clear hF_208
  by_cases c_227 : x_3 = 30
  · have hF_228 := ipos c_227 hF_226
    clear hF_226
    refine lv_tableIn (off := 451) (tgt := 457) hx hb dX12_mean_6 (by rw [c_227]; decide +kernel) (by rw [c_227]; decide +kernel) (by rw [c_227]; decide +kernel) (by decide) ?_
    refine lv_aload_n hx hb dX12_mean_457 rfl (lv_at hl 0 rfl) ?_
    refine va_get (D := (dC, dI)) (ci := 12) (v := .int (σ.1 43)) (C := RX12) (T := TX12) (N := 123) hx hb hts ii_X12 hown hK hP 0 rfl rfl 43 (by decide) (hts (.fieldLink RX12 531 "StoryHouseModel" "inDef" "Z") wq_1399) (fun _ h9 => h9) rfl dX12_mean_458 ?_
    refine lv_if_eq (tgt := 534) hx hb dX12_mean_461 (by decide) (fun c_229 => ?_) (fun c_229 => ?_)
    · have hF_230 := ipos c_229 hF_228
      clear hF_228
      have h9 := Option.some.inj hF_230
      subst h9
      exact W.vret hx hb hr (fun t ht hW => ⟨⟨(), rfl, trivial, m_end ht hP⟩, hS.F ht⟩) hS.2.2 dX12_mean_534
    · have hF_231 := ineg c_229 hF_228
      clear hF_228
      refine lv_aload_n hx hb dX12_mean_464 rfl (lv_at hl 0 rfl) ?_
      refine lv_aload_n hx hb dX12_mean_465 rfl (lv_at hl 0 rfl) ?_
      refine va_get (D := (dC, dI)) (ci := 12) (v := .ref (ad 18)) (C := RX12) (T := TX12) (N := 123) hx hb hts ii_X12 hown hK hP 0 rfl rfl 18 (by decide) (hts (.fieldLink RX12 52 "StoryHouseModel" "where" "[I") wq_1374) (fun _ h9 => h9) rfl dX12_mean_466 ?_
      refine lv_iload_n hx hb dX12_mean_469 rfl (lv_at hl 1 rfl) ?_
      obtain ⟨g_232, hF_233⟩ := nif_e hF_231
      clear hF_231
      refine va_iald (f := σ.2 18) hx hb hK hP 9 2 rfl rfl g_232 dX12_mean_470 ?_
      obtain ⟨u_234, hu_234, hF_235⟩ := Option.bind_eq_some_iff.mp hF_233
      clear hF_233
      refine m_cv hsz hS (va_runV (As := [.int (σ.2 18 p0.toNatClampNeg)]) (rest := []) ⟨hx, hb, hml, hown, hts⟩ (m_X12_wrong l dC dI cB cC cI cJ cZ cP h qK qS ad hDD s.heap.size  (σ.2 18 p0.toNatClampNeg) σ _ hu_234) (cwV 1 hts (g_gV wq_1684 wq_1685 wq_2173 wq_13 wq_1686) rfl rfl rfl (by decide +kernel) ⟨by show 2 + 1 ≤ 1404 + (d + 1); omega, by show 8 + (2 + 11) + 62 ≤ 36512 + 23 * (d + 1); omega⟩) (m_preV g_bl0 hsz hK hP hS hE hKS g_to0) rfl rfl hl.1 rfl (lv_room (Nat.le_of_ble_eq_true rfl)) dX12_mean_471 ⟨Nat.le_of_ble_eq_true rfl, Nat.le_of_ble_eq_true rfl⟩) (fun H locs hP hS => ?_)
      refine lv_goto (tgt := 534) hx hb dX12_mean_474 (by decide) ?_
      have h9 := Option.some.inj hF_235
      subst h9
      exact W.vret hx hb hr (fun t ht hW => ⟨⟨(), rfl, trivial, m_end ht hP⟩, hS.F ht⟩) hS.2.2 dX12_mean_534
  have hF_236 := ineg c_227 hF_226
  clear hF_226
  by_cases c_237 : x_3 = 33
  · have hF_238 := ipos c_237 hF_236
    clear hF_236
    refine lv_tableIn (off := 471) (tgt := 477) hx hb dX12_mean_6 (by rw [c_237]; decide +kernel) (by rw [c_237]; decide +kernel) (by rw [c_237]; decide +kernel) (by decide) ?_
    refine lv_aload_n hx hb dX12_mean_477 rfl (lv_at hl 0 rfl) ?_
    refine lv_aload_n hx hb dX12_mean_478 rfl (lv_at hl 0 rfl) ?_
    refine va_get (D := (dC, dI)) (ci := 12) (v := .ref (ad 19)) (C := RX12) (T := TX12) (N := 123) hx hb hts ii_X12 hown hK hP 0 rfl rfl 19 (by decide) (hts (.fieldLink RX12 55 "StoryHouseModel" "a" "[I") wq_1375) (fun _ h9 => h9) rfl dX12_mean_479 ?_
    refine lv_aload_n hx hb dX12_mean_482 rfl (lv_at hl 0 rfl) ?_
    refine va_get (D := (dC, dI)) (ci := 12) (v := .ref (ad 19)) (C := RX12) (T := TX12) (N := 123) hx hb hts ii_X12 hown hK hP 0 rfl rfl 19 (by decide) (hts (.fieldLink RX12 55 "StoryHouseModel" "a" "[I") wq_1375) (fun _ h9 => h9) rfl dX12_mean_483 ?_
    refine lv_iload_n hx hb dX12_mean_486 rfl (lv_at hl 1 rfl) ?_
    obtain ⟨g_239, hF_240⟩ := nif_e hF_238
    clear hF_238
    refine va_iald (f := σ.2 19) hx hb hK hP 10 2 rfl rfl g_239 dX12_mean_487 ?_
    obtain ⟨x_241, ex_241, hF_242⟩ := bnd_e hF_240
    clear hF_240
    refine m_top ex_241 ?_
    obtain ⟨g_243, hF_244⟩ := nif_e hF_242
    clear hF_242
    refine va_iald (f := σ.2 19) hx hb hK hP 10 2 rfl rfl g_243 dX12_mean_488 ?_
    refine lv_aload_n hx hb dX12_mean_489 rfl (lv_at hl 0 rfl) ?_
    refine va_get (D := (dC, dI)) (ci := 12) (v := .ref (ad 18)) (C := RX12) (T := TX12) (N := 123) hx hb hts ii_X12 hown hK hP 0 rfl rfl 18 (by decide) (hts (.fieldLink RX12 52 "StoryHouseModel" "where" "[I") wq_1374) (fun _ h9 => h9) rfl dX12_mean_490 ?_
    refine lv_aload_n hx hb dX12_mean_493 rfl (lv_at hl 0 rfl) ?_
    refine va_get (D := (dC, dI)) (ci := 12) (v := .ref (ad 19)) (C := RX12) (T := TX12) (N := 123) hx hb hts ii_X12 hown hK hP 0 rfl rfl 19 (by decide) (hts (.fieldLink RX12 55 "StoryHouseModel" "a" "[I") wq_1375) (fun _ h9 => h9) rfl dX12_mean_494 ?_
    refine lv_iload_n hx hb dX12_mean_497 rfl (lv_at hl 1 rfl) ?_
    obtain ⟨g_245, hF_246⟩ := nif_e hF_244
    clear hF_244
    refine va_iald (f := σ.2 19) hx hb hK hP 10 2 rfl rfl g_245 dX12_mean_498 ?_
    obtain ⟨x_247, ex_247, hF_248⟩ := bnd_e hF_246
    clear hF_246
    refine m_top ex_247 ?_
    obtain ⟨g_249, hF_250⟩ := nif_e hF_248
    clear hF_248
    refine va_iald (f := σ.2 18) hx hb hK hP 9 2 rfl rfl g_249 dX12_mean_499 ?_
    refine lv_aload_n hx hb dX12_mean_500 rfl (lv_at hl 0 rfl) ?_
    refine va_get (D := (dC, dI)) (ci := 12) (v := .ref (ad 20)) (C := RX12) (T := TX12) (N := 123) hx hb hts ii_X12 hown hK hP 0 rfl rfl 20 (by decide) (hts (.fieldLink RX12 58 "StoryHouseModel" "b" "[I") wq_1376) (fun _ h9 => h9) rfl dX12_mean_501 ?_
    refine lv_iload_n hx hb dX12_mean_504 rfl (lv_at hl 1 rfl) ?_
    obtain ⟨g_251, hF_252⟩ := nif_e hF_250
    clear hF_250
    refine va_iald (f := σ.2 20) hx hb hK hP 11 2 rfl rfl g_251 dX12_mean_505 ?_
    obtain ⟨u_253, hu_253, hF_254⟩ := Option.bind_eq_some_iff.mp hF_252
    clear hF_252
    refine m_cv hsz hS (va_runV (As := [.int (σ.2 19 x_241.toNatClampNeg), .int (σ.2 18 x_247.toNatClampNeg), .int (σ.2 20 p0.toNatClampNeg)]) (rest := []) ⟨hx, hb, hml, hown, hts⟩ (m_X12_meanCall l dC dI cB cC cI cJ cZ cP h qK qS ad hDD s.heap.size  (σ.2 19 x_241.toNatClampNeg) (σ.2 18 x_247.toNatClampNeg) (σ.2 20 p0.toNatClampNeg) σ _ hu_253) (cwV 3 hts (g_gV wq_1711 wq_1712 wq_2182 wq_13 wq_1713) rfl rfl rfl (by decide +kernel) ⟨by show 1403 + 1 ≤ 1404 + (d + 1); omega, by show 8 + (7 + 11) + 36486 ≤ 36512 + 23 * (d + 1); omega⟩) (m_preV g_bl0 hsz hK hP hS hE hKS g_to0) rfl rfl hl.1 rfl (lv_room (Nat.le_of_ble_eq_true rfl)) dX12_mean_506 ⟨Nat.le_of_ble_eq_true rfl, Nat.le_of_ble_eq_true rfl⟩) (fun H locs hP hS => ?_)
    refine lv_aload_n hx hb dX12_mean_509 rfl (lv_at hl 0 rfl) ?_
    refine va_get (D := (dC, dI)) (ci := 12) (v := .ref (ad 21)) (C := RX12) (T := TX12) (N := 123) hx hb hts ii_X12 hown hK hP 0 rfl rfl 21 (by decide) (hts (.fieldLink RX12 61 "StoryHouseModel" "d" "[I") wq_1377) (fun _ h9 => h9) rfl dX12_mean_510 ?_
    refine lv_iload_n hx hb dX12_mean_513 rfl (lv_at hl 1 rfl) ?_
    refine lv_aload_n hx hb dX12_mean_514 rfl (lv_at hl 0 rfl) ?_
    refine va_get (D := (dC, dI)) (ci := 12) (v := .ref (ad 30)) (C := RX12) (T := TX12) (N := 123) hx hb hts ii_X12 hown hK hP 0 rfl rfl 30 (by decide) (hts (.fieldLink RX12 73 "StoryHouseModel" "itemOf" "[I") wq_1386) (fun _ h9 => h9) rfl dX12_mean_515 ?_
    refine lv_aload_n hx hb dX12_mean_518 rfl (lv_at hl 0 rfl) ?_
    refine va_get (D := (dC, dI)) (ci := 12) (v := .ref (ad 19)) (C := RX12) (T := TX12) (N := 123) hx hb hts ii_X12 hown hK hP 0 rfl rfl 19 (by decide) (hts (.fieldLink RX12 55 "StoryHouseModel" "a" "[I") wq_1375) (fun _ h9 => h9) rfl dX12_mean_519 ?_
    refine lv_aload_n hx hb dX12_mean_522 rfl (lv_at hl 0 rfl) ?_
    refine va_get (D := (dC, dI)) (ci := 12) (v := .ref (ad 19)) (C := RX12) (T := TX12) (N := 123) hx hb hts ii_X12 hown hK hP 0 rfl rfl 19 (by decide) (hts (.fieldLink RX12 55 "StoryHouseModel" "a" "[I") wq_1375) (fun _ h9 => h9) rfl dX12_mean_523 ?_
    refine lv_iload_n hx hb dX12_mean_526 rfl (lv_at hl 1 rfl) ?_
    obtain ⟨g_255, hF_256⟩ := nif_e hF_254
    clear hF_254
    refine va_iald (f := u_253.2.2 19) hx hb hK hP 10 2 rfl rfl g_255 dX12_mean_527 ?_
    obtain ⟨x_257, ex_257, hF_258⟩ := bnd_e hF_256
    clear hF_256
    refine m_top ex_257 ?_
    obtain ⟨g_259, hF_260⟩ := nif_e hF_258
    clear hF_258
    refine va_iald (f := u_253.2.2 19) hx hb hK hP 10 2 rfl rfl g_259 dX12_mean_528 ?_
    obtain ⟨x_261, ex_261, hF_262⟩ := bnd_e hF_260
    clear hF_260
    refine m_top ex_261 ?_
    obtain ⟨g_263, hF_264⟩ := nif_e hF_262
    clear hF_262
    refine va_iald (f := u_253.2.2 30) hx hb hK hP 16 2 rfl rfl g_263 dX12_mean_529 ?_
    obtain ⟨x_265, ex_265, hF_266⟩ := bnd_e hF_264
    clear hF_264
    refine m_top ex_265 ?_
    obtain ⟨g_267, hF_268⟩ := nif_e hF_266
    clear hF_266
    obtain ⟨σ_269, eσ_269, hF_270⟩ := bnd_e hF_268
    clear hF_268
    refine m_iast (σ' := σ_269) hx hb hK hP (hDD _ _) hS (q0 := 12) (t0 := 2) (f := u_253.2.2 21) rfl rfl (by rw [eσ_269]; exact mwA_21) g_267 dX12_mean_530 (fun H locs hP hS => ?_)
    refine lv_goto (tgt := 534) hx hb dX12_mean_531 (by decide) ?_
    have h9 := Option.some.inj hF_270
    subst h9
    exact W.vret hx hb hr (fun t ht hW => ⟨⟨(), rfl, trivial, m_end ht hP⟩, hS.F ht⟩) hS.2.2 dX12_mean_534
  have hF_271 := ineg c_237 hF_236
  clear hF_236
  refine m_tabD (lo := 20) (n := 14) (tgt := 534) hx hb dX12_mean_6 (by decide +kernel) (by decide) (fun j9 h9 e9 => by
      match j9, h9 with
      | 0, _ => exact absurd ((by rw [e9]; decide +kernel)) c_5
      | 1, _ => exact absurd ((by rw [e9]; decide +kernel)) c_36
      | 2, _ => exact absurd ((by rw [e9]; decide +kernel)) c_47
      | 3, _ => exact absurd ((by rw [e9]; decide +kernel)) c_73
      | 4, _ => exact absurd ((by rw [e9]; decide +kernel)) c_138
      | 5, _ => exact absurd (Or.inl (by rw [e9]; decide +kernel)) c_149
      | 6, _ => exact absurd (Or.inr ((by rw [e9]; decide +kernel))) c_149
      | 7, _ => exact absurd ((by rw [e9]; decide +kernel)) c_156
      | 8, _ => exact absurd ((by rw [e9]; decide +kernel)) c_198
      | 9, _ => exact absurd ((by rw [e9]; decide +kernel)) c_209
      | 10, _ => exact absurd ((by rw [e9]; decide +kernel)) c_227
      | 11, _ => rfl
      | 12, _ => rfl
      | 13, _ => exact absurd ((by rw [e9]; decide +kernel)) c_237
      | n9 + 14, h9 => exact absurd h9 (by omega)) ?_
  have h9 := Option.some.inj hF_271
  subst h9
  exact W.vret hx hb hr (fun t ht hW => ⟨⟨(), rfl, trivial, m_end ht hP⟩, hS.F ht⟩) hS.2.2 dX12_mean_534

def F_X12_meanBlock (rec : GF) (p0 : Int32) (σ : MS) : MR :=
  if p0 < 0 ∨ 40000 ≤ p0.toNatClampNeg then none else
  bnd ((σ.2 19 p0.toNatClampNeg)) fun (x_3 : Int32) =>
  loopF (fun (again_6 : (Int32 × MS) → MR) (s_5 : Int32 × MS) => (
    if s_5.1 < 0 then (
      bnd (mI s_5.2 33 (σ.1 33)) fun σ_11 =>
      some (0, σ_11)
    ) else (
      (rec 0 s_5.1 0 0 s_5.2).bind fun u_14 =>
      if s_5.1 < 0 ∨ 40000 ≤ s_5.1.toNatClampNeg then none else
      bnd ((u_14.2.2 22 s_5.1.toNatClampNeg)) fun (x_18 : Int32) =>
      again_6 (x_18, u_14.2)
    )
  )) FU (x_3, σ)
set_option maxHeartbeats 4000000 in
set_option maxRecDepth 100000 in
theorem m_X12_meanBlock_st (l : Launch) (dC : Nat → ClassId) (dI : Nat → Nat → Nat) (cB cC cI cJ cZ cP : ClassId) (h qK qS : Nat) (ad : Nat → Nat) (hDD : mDis cB cI cZ h qK qS ad) (d : Nat) (rec : GF) (hI0 : ∀ (sz : Nat) (p0 : Int32) (σ : MS) (res : Int32 × MS), rec 0 p0 0 0 σ = some res → Met l yX12_mean (g_ws yX12_mean cX12_mean 3 none) ({ frames := 1404 + d, cells := 0, slots := 0, locals := 36512 + 23 * d }) (va_Pc [.ref h, .int p0] (m_B (dC, dI) [(cB, .byte), (cC, .char), (cI, .int), (cJ, .long), (cZ, .boolean), (cP, .object "StoryHouse$Play")] sz h ad qK qS (mW cB cI cZ h qK qS ad σ) g_0)) (va_Qv (fun (_ : Unit) => True) (fun _ t => va_P (dC, dI) vwCl (mW cB cI cZ h qK qS ad res.2) t.heap) (mCells h ad sz)) 0 0 (mCells h ad sz)) (hI1 : ∀ (sz : Nat) (p0 : Int32) (σ : MS) (res : Int32 × MS), rec 1 p0 0 0 σ = some res → Met l yX12_meanBlock (g_ws yX12_meanBlock cX12_meanBlock 4 none) ({ frames := 1404 + d, cells := 0, slots := 0, locals := 36512 + 23 * d }) (va_Pc [.ref h, .int p0] (m_B (dC, dI) [(cB, .byte), (cC, .char), (cI, .int), (cJ, .long), (cZ, .boolean), (cP, .object "StoryHouse$Play")] sz h ad qK qS (mW cB cI cZ h qK qS ad σ) g_0)) (va_Qv (fun (_ : Unit) => True) (fun _ t => va_P (dC, dI) vwCl (mW cB cI cZ h qK qS ad res.2) t.heap) (mCells h ad sz)) 0 0 (mCells h ad sz)) (sz : Nat)  (p0 : Int32) (σ : MS) (res : Int32 × MS) (hF : F_X12_meanBlock rec p0 σ = some res) : Met l yX12_meanBlock (g_ws yX12_meanBlock cX12_meanBlock 4 none) ({ frames := 1404 + (d + 1), cells := 0, slots := 0, locals := 36512 + 23 * (d + 1) }) (va_Pc [.ref h, .int p0] (m_B (dC, dI) [(cB, .byte), (cC, .char), (cI, .int), (cJ, .long), (cZ, .boolean), (cP, .object "StoryHouse$Play")] sz h ad qK qS (mW cB cI cZ h qK qS ad σ) g_0)) (va_Qv (fun (_ : Unit) => True) (fun _ t => va_P (dC, dI) vwCl (mW cB cI cZ h qK qS ad res.2) t.heap) (mCells h ad sz)) 0 0 (mCells h ad sz) := by
  refine Met.ofW (cc := cX12_meanBlock) (maxL := 4) (ret := none) (by decide) rfl ?_
  intro p e s m args below meth c s₁ B hml hv
  obtain ⟨rfl, hsz, hP, hK, hE, hKS, hX⟩ := hv
  have hx := B.exec
  have hb := B.bytes
  have hr := B.returns
  have hts0 := atoms_spec (ws := g_ws yX12_meanBlock cX12_meanBlock 4 none) B.pre
  have hts : ∀ w ∈ lw_good, w.before ([.ref h, .int p0] : List Value).toArray s = true := fun w z => hts0 w (List.mem_cons_of_mem _ z)
  have hown : s.vm.findClass RX12 = some m.cls := findClass_of_methodNamed B.named
  have hlocks := B.notSynchronized
  have hS : va_S (mCells h ad sz) s.heap s.heap [] := va_S.rf
  have hl := lv_entry ([.ref h, .int p0]) (n := 4) (Nat.le_of_ble_eq_true rfl)
  rw [lg_entry_eq]
  generalize (lg_sl ([.ref h, .int p0]) ++ List.replicate (4 - (lg_sl ([.ref h, .int p0])).length) Slot.unset).toArray = ls at hl ⊢
  have hl : lv_has ls 4 [(0, .ref h), (1, .int p0)] := hl
  unfold F_X12_meanBlock at hF
  refine lv_aload_n hx hb dX12_meanBlock_0 rfl (lv_at hl 0 rfl) ?_
  refine va_get (D := (dC, dI)) (ci := 12) (v := .int (σ.1 33)) (C := RX12) (T := TX12) (N := 123) hx hb hts ii_X12 hown hK hP 0 rfl rfl 33 (by decide) (hts (.fieldLink RX12 506 "StoryHouseModel" "seenCount" "I") wq_1389) (fun _ h9 => h9) rfl dX12_meanBlock_1 ?_
  refine lv_istore_n (lv' := [(2, .int (σ.1 33)), (0, .ref h), (1, .int p0)]) hx hb dX12_meanBlock_4 rfl hl (by decide) rfl (fun ls hl => ?_)
  refine lv_aload_n hx hb dX12_meanBlock_5 rfl (lv_at hl 1 rfl) ?_
  refine va_get (D := (dC, dI)) (ci := 12) (v := .ref (ad 19)) (C := RX12) (T := TX12) (N := 123) hx hb hts ii_X12 hown hK hP 0 rfl rfl 19 (by decide) (hts (.fieldLink RX12 55 "StoryHouseModel" "a" "[I") wq_1375) (fun _ h9 => h9) rfl dX12_meanBlock_6 ?_
  refine lv_iload_n hx hb dX12_meanBlock_9 rfl (lv_at hl 2 rfl) ?_
  obtain ⟨g_1, hF_2⟩ := nif_e hF
  clear hF
  refine va_iald (f := σ.2 19) hx hb hK hP 10 2 rfl rfl g_1 dX12_meanBlock_10 ?_
  obtain ⟨x_3, ex_3, hF_4⟩ := bnd_e hF_2
  clear hF_2
  refine m_top ex_3 ?_
  refine lv_istore_n (lv' := [(3, .int x_3), (2, .int (σ.1 33)), (0, .ref h), (1, .int p0)]) hx hb dX12_meanBlock_11 rfl hl (by decide) rfl (fun ls hl => ?_)
  refine loopF_ind (P := fun (s_5 : Int32 × MS) => ∀ (H : Heap) (locs : List Loc), va_P (dC, dI) vwCl (mW cB cI cZ h qK qS ad s_5.2) H → va_S (mCells h ad sz) s.heap H locs → ∀ ls : Array Slot, lv_has ls 4 [(0, .ref h), (2, .int (σ.1 33)), (3, .int s_5.1)] → W p l e (headSpec (g_ws yX12_meanBlock cX12_meanBlock 4 none) { frames := 1404 + (d + 1), cells := 0, slots := 0, locals := 36512 + 23 * (d + 1) }).room s m ([.ref h, .int p0] : List Value).toArray below meth c H locs 0 0 (MQ below (va_Qv (fun (_ : Unit) => True) (fun _ t => va_P (dC, dI) vwCl (mW cB cI cZ h qK qS ad res.2) t.heap) (mCells h ad sz)) ([.ref h, .int p0] : List Value).toArray s 0 0 (mCells h ad sz)) (F0 m 12 ls [])) ?_ _ _ hF_4 _ _ hP hS ls (lv_sub hl [2, 1, 0] rfl)
  intro again_6 s_5 ih_7 hF_8
  intro H locs hP hS ls hl
  refine lv_iload_n hx hb dX12_meanBlock_12 rfl (lv_at hl 2 rfl) ?_
  refine lv_if_lt (tgt := 31) hx hb dX12_meanBlock_13 (by decide) (fun c_9 => ?_) (fun c_9 => ?_)
  · have hF_10 := ipos c_9 hF_8
    clear hF_8
    refine lv_aload_n hx hb dX12_meanBlock_31 rfl (lv_at hl 0 rfl) ?_
    refine lv_iload_n hx hb dX12_meanBlock_32 rfl (lv_at hl 1 rfl) ?_
    obtain ⟨σ_11, eσ_11, hF_12⟩ := bnd_e hF_10
    clear hF_10
    refine m_put (σ' := σ_11) (v := .int (σ.1 33)) (ty := .int) hx hb hts hown hK hP (hDD _ _) hS (by rw [eσ_11]; exact mwI_33) (k := 33) (by decide) (hts (.fieldLink RX12 506 "StoryHouseModel" "seenCount" "I") wq_1389) (fun _ h9 => h9) rfl (by decide +kernel) rfl rfl dX12_meanBlock_33 (fun H locs hP hS => ?_)
    have h9 := Option.some.inj hF_12
    subst h9
    exact W.vret hx hb hr (fun t ht hW => ⟨⟨(), rfl, trivial, m_end ht hP⟩, hS.F ht⟩) hS.2.2 dX12_meanBlock_36
  · have hF_13 := ineg c_9 hF_8
    clear hF_8
    refine lv_aload_n hx hb dX12_meanBlock_16 rfl (lv_at hl 0 rfl) ?_
    refine lv_iload_n hx hb dX12_meanBlock_17 rfl (lv_at hl 2 rfl) ?_
    obtain ⟨u_14, hu_14, hF_15⟩ := Option.bind_eq_some_iff.mp hF_13
    clear hF_13
    refine m_cv hsz hS (va_runV (As := [.int s_5.1]) (rest := []) ⟨hx, hb, hml, hown, hts⟩ (hI0 H.size s_5.1 s_5.2 _ hu_14) (cwV 1 hts (g_gV wq_1699 wq_1700 wq_2178 wq_13 wq_1701) rfl rfl rfl (by decide +kernel) ⟨by show 1404 + d + 1 ≤ 1404 + (d + 1); omega, by show 8 + (3 + 11) + (36512 + 23 * d) ≤ 36512 + 23 * (d + 1); omega⟩) (m_preV g_bl0 hsz hK hP hS hE hKS g_to0) rfl rfl hl.1 rfl (lv_room (Nat.le_of_ble_eq_true rfl)) dX12_meanBlock_18 ⟨Nat.le_of_ble_eq_true rfl, Nat.le_of_ble_eq_true rfl⟩) (fun H locs hP hS => ?_)
    refine lv_aload_n hx hb dX12_meanBlock_21 rfl (lv_at hl 0 rfl) ?_
    refine va_get (D := (dC, dI)) (ci := 12) (v := .ref (ad 22)) (C := RX12) (T := TX12) (N := 123) hx hb hts ii_X12 hown hK hP 0 rfl rfl 22 (by decide) (hts (.fieldLink RX12 64 "StoryHouseModel" "then" "[I") wq_1378) (fun _ h9 => h9) rfl dX12_meanBlock_22 ?_
    refine lv_iload_n hx hb dX12_meanBlock_25 rfl (lv_at hl 2 rfl) ?_
    obtain ⟨g_16, hF_17⟩ := nif_e hF_15
    clear hF_15
    refine va_iald (f := u_14.2.2 22) hx hb hK hP 13 2 rfl rfl g_16 dX12_meanBlock_26 ?_
    obtain ⟨x_18, ex_18, hF_19⟩ := bnd_e hF_17
    clear hF_17
    refine m_top ex_18 ?_
    refine lv_istore_n (lv' := [(3, .int x_18), (0, .ref h), (2, .int (σ.1 33))]) hx hb dX12_meanBlock_27 rfl hl (by decide) rfl (fun ls hl => ?_)
    refine lv_goto (tgt := 12) hx hb dX12_meanBlock_28 (by decide) ?_
    exact ih_7 (x_18, u_14.2) hF_19 _ _ hP hS ls (lv_sub hl [1, 2, 0] rfl)

/-- the group, by its depth -/
def gM : Nat → GF
  | 0, _, _, _, _, _ => none
  | d + 1, t, a, b, c, σ => if t = 0 then F_X12_mean (gM d) a σ else if t = 1 then F_X12_meanBlock (gM d) a σ else none
theorem gM_0 (d : Nat) (a b c : Int32) (σ : MS) : gM (d + 1) 0 a b c σ = F_X12_mean (gM d) a σ := by
  rw [gM]
  exact if_pos rfl
theorem gM_1 (d : Nat) (a b c : Int32) (σ : MS) : gM (d + 1) 1 a b c σ = F_X12_meanBlock (gM d) a σ := by
  rw [gM]
  exact (if_neg (by decide)).trans (if_pos rfl)
set_option maxHeartbeats 4000000 in
theorem gM_all (l : Launch) (dC : Nat → ClassId) (dI : Nat → Nat → Nat) (cB cC cI cJ cZ cP : ClassId) (h qK qS : Nat) (ad : Nat → Nat) (hDD : mDis cB cI cZ h qK qS ad) : ∀ d : Nat, (∀ (sz : Nat) (p0 : Int32) (σ : MS) (res : Int32 × MS), gM d 0 p0 0 0 σ = some res → Met l yX12_mean (g_ws yX12_mean cX12_mean 3 none) ({ frames := 1404 + d, cells := 0, slots := 0, locals := 36512 + 23 * d }) (va_Pc [.ref h, .int p0] (m_B (dC, dI) [(cB, .byte), (cC, .char), (cI, .int), (cJ, .long), (cZ, .boolean), (cP, .object "StoryHouse$Play")] sz h ad qK qS (mW cB cI cZ h qK qS ad σ) g_0)) (va_Qv (fun (_ : Unit) => True) (fun _ t => va_P (dC, dI) vwCl (mW cB cI cZ h qK qS ad res.2) t.heap) (mCells h ad sz)) 0 0 (mCells h ad sz)) ∧ (∀ (sz : Nat) (p0 : Int32) (σ : MS) (res : Int32 × MS), gM d 1 p0 0 0 σ = some res → Met l yX12_meanBlock (g_ws yX12_meanBlock cX12_meanBlock 4 none) ({ frames := 1404 + d, cells := 0, slots := 0, locals := 36512 + 23 * d }) (va_Pc [.ref h, .int p0] (m_B (dC, dI) [(cB, .byte), (cC, .char), (cI, .int), (cJ, .long), (cZ, .boolean), (cP, .object "StoryHouse$Play")] sz h ad qK qS (mW cB cI cZ h qK qS ad σ) g_0)) (va_Qv (fun (_ : Unit) => True) (fun _ t => va_P (dC, dI) vwCl (mW cB cI cZ h qK qS ad res.2) t.heap) (mCells h ad sz)) 0 0 (mCells h ad sz)) := by
  intro d
  induction d with
  | zero => exact ⟨(fun sz p0 σ res hz => by cases hz), (fun sz p0 σ res hz => by cases hz)⟩
  | succ d ih =>
    obtain ⟨hI0, hI1⟩ := ih
    exact ⟨(fun sz p0 σ res hF => m_X12_mean_st l dC dI cB cC cI cJ cZ cP h qK qS ad hDD d (gM d) hI0 hI1 sz p0 σ res ((gM_0 d p0 0 0 σ).symm.trans hF)), (fun sz p0 σ res hF => m_X12_meanBlock_st l dC dI cB cC cI cJ cZ cP h qK qS ad hDD d (gM d) hI0 hI1 sz p0 σ res ((gM_1 d p0 0 0 σ).symm.trans hF))⟩

def G_X12_mean (p0 : Int32) (σ : MS) : MR := gM 70 0 p0 0 0 σ
theorem m_X12_mean (l : Launch) (dC : Nat → ClassId) (dI : Nat → Nat → Nat) (cB cC cI cJ cZ cP : ClassId) (h qK qS : Nat) (ad : Nat → Nat) (hDD : mDis cB cI cZ h qK qS ad) : ∀ (sz : Nat) (p0 : Int32) (σ : MS) (res : Int32 × MS), G_X12_mean p0 σ = some res → Met l yX12_mean (g_ws yX12_mean cX12_mean 3 none) ({ frames := 1474, cells := 0, slots := 0, locals := 38122 }) (va_Pc [.ref h, .int p0] (m_B (dC, dI) [(cB, .byte), (cC, .char), (cI, .int), (cJ, .long), (cZ, .boolean), (cP, .object "StoryHouse$Play")] sz h ad qK qS (mW cB cI cZ h qK qS ad σ) g_0)) (va_Qv (fun (_ : Unit) => True) (fun _ t => va_P (dC, dI) vwCl (mW cB cI cZ h qK qS ad res.2) t.heap) (mCells h ad sz)) 0 0 (mCells h ad sz) := (gM_all l dC dI cB cC cI cJ cZ cP h qK qS ad hDD 70).1

def G_X12_meanBlock (p0 : Int32) (σ : MS) : MR := gM 70 1 p0 0 0 σ
theorem m_X12_meanBlock (l : Launch) (dC : Nat → ClassId) (dI : Nat → Nat → Nat) (cB cC cI cJ cZ cP : ClassId) (h qK qS : Nat) (ad : Nat → Nat) (hDD : mDis cB cI cZ h qK qS ad) : ∀ (sz : Nat) (p0 : Int32) (σ : MS) (res : Int32 × MS), G_X12_meanBlock p0 σ = some res → Met l yX12_meanBlock (g_ws yX12_meanBlock cX12_meanBlock 4 none) ({ frames := 1474, cells := 0, slots := 0, locals := 38122 }) (va_Pc [.ref h, .int p0] (m_B (dC, dI) [(cB, .byte), (cC, .char), (cI, .int), (cJ, .long), (cZ, .boolean), (cP, .object "StoryHouse$Play")] sz h ad qK qS (mW cB cI cZ h qK qS ad σ) g_0)) (va_Qv (fun (_ : Unit) => True) (fun _ t => va_P (dC, dI) vwCl (mW cB cI cZ h qK qS ad res.2) t.heap) (mCells h ad sz)) 0 0 (mCells h ad sz) := (gM_all l dC dI cB cC cI cJ cZ cP h qK qS ad hDD 70).2
theorem dX12_nounsOf_0 : decode cX12_nounsOf 0 = .ok (.iload_n 1, 1) := by decide +kernel
theorem dX12_nounsOf_1 : decode cX12_nounsOf 1 = .ok (.bipush 11, 2) := by decide +kernel
theorem dX12_nounsOf_3 : decode cX12_nounsOf 3 = .ok (.if_icmp .gt 30, 3) := by decide +kernel
theorem dX12_nounsOf_6 : decode cX12_nounsOf 6 = .ok (.iload_n 1, 1) := by decide +kernel
theorem dX12_nounsOf_7 : decode cX12_nounsOf 7 = .ok (.iconst 3, 1) := by decide +kernel
theorem dX12_nounsOf_8 : decode cX12_nounsOf 8 = .ok (.if_icmp .gt 7, 3) := by decide +kernel
theorem dX12_nounsOf_11 : decode cX12_nounsOf 11 = .ok (.iconst 0, 1) := by decide +kernel
theorem dX12_nounsOf_12 : decode cX12_nounsOf 12 = .ok (.goto 20, 3) := by decide +kernel
theorem dX12_nounsOf_15 : decode cX12_nounsOf 15 = .ok (.iload_n 1, 1) := by decide +kernel
theorem dX12_nounsOf_16 : decode cX12_nounsOf 16 = .ok (.bipush 9, 2) := by decide +kernel
theorem dX12_nounsOf_18 : decode cX12_nounsOf 18 = .ok (.if_icmp .eq 9, 3) := by decide +kernel
theorem dX12_nounsOf_21 : decode cX12_nounsOf 21 = .ok (.iload_n 1, 1) := by decide +kernel
theorem dX12_nounsOf_22 : decode cX12_nounsOf 22 = .ok (.bipush 10, 2) := by decide +kernel
theorem dX12_nounsOf_24 : decode cX12_nounsOf 24 = .ok (.if_icmp .ne 7, 3) := by decide +kernel
theorem dX12_nounsOf_27 : decode cX12_nounsOf 27 = .ok (.iconst 2, 1) := by decide +kernel
theorem dX12_nounsOf_28 : decode cX12_nounsOf 28 = .ok (.goto 4, 3) := by decide +kernel
theorem dX12_nounsOf_31 : decode cX12_nounsOf 31 = .ok (.iconst 1, 1) := by decide +kernel
theorem dX12_nounsOf_32 : decode cX12_nounsOf 32 = .ok (.ireturn, 1) := by decide +kernel
theorem dX12_nounsOf_33 : decode cX12_nounsOf 33 = .ok (.aload_n 0, 1) := by decide +kernel
theorem dX12_nounsOf_34 : decode cX12_nounsOf 34 = .ok (.getfield 55, 3) := by decide +kernel
theorem dX12_nounsOf_37 : decode cX12_nounsOf 37 = .ok (.aload_n 0, 1) := by decide +kernel
theorem dX12_nounsOf_38 : decode cX12_nounsOf 38 = .ok (.getfield 61, 3) := by decide +kernel
theorem dX12_nounsOf_41 : decode cX12_nounsOf 41 = .ok (.iload_n 2, 1) := by decide +kernel
theorem dX12_nounsOf_42 : decode cX12_nounsOf 42 = .ok (.iaload, 1) := by decide +kernel
theorem dX12_nounsOf_43 : decode cX12_nounsOf 43 = .ok (.iaload, 1) := by decide +kernel
theorem dX12_nounsOf_44 : decode cX12_nounsOf 44 = .ok (.ireturn, 1) := by decide +kernel
def F_X12_nounsOf (p0 : Int32) (p1 : Int32) (σ : MS) : MR :=
  if 11 < p0 then (
    if p1 < 0 ∨ 40000 ≤ p1.toNatClampNeg then none else
    bnd ((σ.2 21 p1.toNatClampNeg)) fun (x_5 : Int32) =>
    if x_5 < 0 ∨ 40000 ≤ x_5.toNatClampNeg then none else
    some ((σ.2 19 x_5.toNatClampNeg), σ)
  ) else (
    if 3 < p0 then (
      if p0 = 9 then (
        some (2, σ)
      ) else (
        if p0 = 10 then (
          some (2, σ)
        ) else (
          some (1, σ)
        )
      )
    ) else (
      some (0, σ)
    )
  )
set_option maxHeartbeats 4000000 in
set_option maxRecDepth 100000 in
theorem m_X12_nounsOf (l : Launch) (dC : Nat → ClassId) (dI : Nat → Nat → Nat) (cB cC cI cJ cZ cP : ClassId) (h qK qS : Nat) (ad : Nat → Nat) (hDD : mDis cB cI cZ h qK qS ad) (sz : Nat)  (p0 : Int32) (p1 : Int32) (σ : MS) (res : Int32 × MS) (hF : F_X12_nounsOf p0 p1 σ = some res) : Met l yX12_nounsOf (g_ws yX12_nounsOf cX12_nounsOf 3 (some .int)) ({ frames := 1, cells := 0, slots := 0, locals := 40 }) (va_Pc [.ref h, .int p0, .int p1] (m_B (dC, dI) [(cB, .byte), (cC, .char), (cI, .int), (cJ, .long), (cZ, .boolean), (cP, .object "StoryHouse$Play")] sz h ad qK qS (mW cB cI cZ h qK qS ad σ) g_0)) (va_Qi (fun r (_ : Unit) => r = res.1) (fun _ t => va_P (dC, dI) vwCl (mW cB cI cZ h qK qS ad res.2) t.heap) (mCells h ad sz)) 0 0 (mCells h ad sz) := by
  refine Met.ofW (cc := cX12_nounsOf) (maxL := 3) (ret := (some .int)) (by decide) rfl ?_
  intro p e s m args below meth c s₁ B hml hv
  obtain ⟨rfl, hsz, hP, hK, hE, hKS, hX⟩ := hv
  have hx := B.exec
  have hb := B.bytes
  have hr := B.returns
  have hts0 := atoms_spec (ws := g_ws yX12_nounsOf cX12_nounsOf 3 (some .int)) B.pre
  have hts : ∀ w ∈ lw_good, w.before ([.ref h, .int p0, .int p1] : List Value).toArray s = true := fun w z => hts0 w (List.mem_cons_of_mem _ z)
  have hown : s.vm.findClass RX12 = some m.cls := findClass_of_methodNamed B.named
  have hlocks := B.notSynchronized
  have hS : va_S (mCells h ad sz) s.heap s.heap [] := va_S.rf
  have hl := lv_entry ([.ref h, .int p0, .int p1]) (n := 3) (Nat.le_of_ble_eq_true rfl)
  rw [lg_entry_eq]
  generalize (lg_sl ([.ref h, .int p0, .int p1]) ++ List.replicate (3 - (lg_sl ([.ref h, .int p0, .int p1])).length) Slot.unset).toArray = ls at hl ⊢
  have hl : lv_has ls 3 [(0, .ref h), (1, .int p0), (2, .int p1)] := hl
  unfold F_X12_nounsOf at hF
  refine lv_iload_n hx hb dX12_nounsOf_0 rfl (lv_at hl 1 rfl) ?_
  refine lv_bipush (v := 11) hx hb dX12_nounsOf_1 (by decide +kernel) ?_
  refine lv_icmp_gt (tgt := 33) hx hb dX12_nounsOf_3 (by decide) (fun c_1 => ?_) (fun c_1 => ?_)
  · have hF_2 := ipos c_1 hF
    clear hF
    refine lv_aload_n hx hb dX12_nounsOf_33 rfl (lv_at hl 0 rfl) ?_
    refine va_get (D := (dC, dI)) (ci := 12) (v := .ref (ad 19)) (C := RX12) (T := TX12) (N := 123) hx hb hts ii_X12 hown hK hP 0 rfl rfl 19 (by decide) (hts (.fieldLink RX12 55 "StoryHouseModel" "a" "[I") wq_1375) (fun _ h9 => h9) rfl dX12_nounsOf_34 ?_
    refine lv_aload_n hx hb dX12_nounsOf_37 rfl (lv_at hl 0 rfl) ?_
    refine va_get (D := (dC, dI)) (ci := 12) (v := .ref (ad 21)) (C := RX12) (T := TX12) (N := 123) hx hb hts ii_X12 hown hK hP 0 rfl rfl 21 (by decide) (hts (.fieldLink RX12 61 "StoryHouseModel" "d" "[I") wq_1377) (fun _ h9 => h9) rfl dX12_nounsOf_38 ?_
    refine lv_iload_n hx hb dX12_nounsOf_41 rfl (lv_at hl 2 rfl) ?_
    obtain ⟨g_3, hF_4⟩ := nif_e hF_2
    clear hF_2
    refine va_iald (f := σ.2 21) hx hb hK hP 12 2 rfl rfl g_3 dX12_nounsOf_42 ?_
    obtain ⟨x_5, ex_5, hF_6⟩ := bnd_e hF_4
    clear hF_4
    refine m_top ex_5 ?_
    obtain ⟨g_7, hF_8⟩ := nif_e hF_6
    clear hF_6
    refine va_iald (f := σ.2 19) hx hb hK hP 10 2 rfl rfl g_7 dX12_nounsOf_43 ?_
    have h9 := Option.some.inj hF_8
    subst h9
    exact W.iret (v := (σ.2 19 x_5.toNatClampNeg)) hx hb hr (fun t ht hW => ⟨⟨(σ.2 19 x_5.toNatClampNeg), (), rfl, rfl, m_end ht hP⟩, hS.F ht⟩) hS.2.2 dX12_nounsOf_44
  · have hF_9 := ineg c_1 hF
    clear hF
    refine lv_iload_n hx hb dX12_nounsOf_6 rfl (lv_at hl 1 rfl) ?_
    refine lv_iconst (v := 3) hx hb dX12_nounsOf_7 (by decide +kernel) ?_
    refine lv_icmp_gt (tgt := 15) hx hb dX12_nounsOf_8 (by decide) (fun c_10 => ?_) (fun c_10 => ?_)
    · have hF_11 := ipos c_10 hF_9
      clear hF_9
      refine lv_iload_n hx hb dX12_nounsOf_15 rfl (lv_at hl 1 rfl) ?_
      refine lv_bipush (v := 9) hx hb dX12_nounsOf_16 (by decide +kernel) ?_
      refine lv_icmp_eq (tgt := 27) hx hb dX12_nounsOf_18 (by decide) (fun c_12 => ?_) (fun c_12 => ?_)
      · have hF_13 := ipos c_12 hF_11
        clear hF_11
        refine lv_iconst (v := 2) hx hb dX12_nounsOf_27 (by decide +kernel) ?_
        refine lv_goto (tgt := 32) hx hb dX12_nounsOf_28 (by decide) ?_
        have h9 := Option.some.inj hF_13
        subst h9
        exact W.iret (v := 2) hx hb hr (fun t ht hW => ⟨⟨2, (), rfl, rfl, m_end ht hP⟩, hS.F ht⟩) hS.2.2 dX12_nounsOf_32
      · have hF_14 := ineg c_12 hF_11
        clear hF_11
        refine lv_iload_n hx hb dX12_nounsOf_21 rfl (lv_at hl 1 rfl) ?_
        refine lv_bipush (v := 10) hx hb dX12_nounsOf_22 (by decide +kernel) ?_
        refine lv_icmp_ne (tgt := 31) hx hb dX12_nounsOf_24 (by decide) (fun c_15 => ?_) (fun c_15 => ?_)
        · have hF_17 := ineg c_15 hF_14
          clear hF_14
          refine lv_iconst (v := 1) hx hb dX12_nounsOf_31 (by decide +kernel) ?_
          have h9 := Option.some.inj hF_17
          subst h9
          exact W.iret (v := 1) hx hb hr (fun t ht hW => ⟨⟨1, (), rfl, rfl, m_end ht hP⟩, hS.F ht⟩) hS.2.2 dX12_nounsOf_32
        · have hF_16 := ipos c_15 hF_14
          clear hF_14
          refine lv_iconst (v := 2) hx hb dX12_nounsOf_27 (by decide +kernel) ?_
          refine lv_goto (tgt := 32) hx hb dX12_nounsOf_28 (by decide) ?_
          have h9 := Option.some.inj hF_16
          subst h9
          exact W.iret (v := 2) hx hb hr (fun t ht hW => ⟨⟨2, (), rfl, rfl, m_end ht hP⟩, hS.F ht⟩) hS.2.2 dX12_nounsOf_32
    · have hF_18 := ineg c_10 hF_9
      clear hF_9
      refine lv_iconst (v := 0) hx hb dX12_nounsOf_11 (by decide +kernel) ?_
      refine lv_goto (tgt := 32) hx hb dX12_nounsOf_12 (by decide) ?_
      have h9 := Option.some.inj hF_18
      subst h9
      exact W.iret (v := 0) hx hb hr (fun t ht hW => ⟨⟨0, (), rfl, rfl, m_end ht hP⟩, hS.F ht⟩) hS.2.2 dX12_nounsOf_32
theorem dX12_resolveOn_0 : decode cX12_resolveOn 0 = .ok (.aload_n 0, 1) := by decide +kernel
theorem dX12_resolveOn_1 : decode cX12_resolveOn 1 = .ok (.getfield 55, 3) := by decide +kernel
theorem dX12_resolveOn_4 : decode cX12_resolveOn 4 = .ok (.aload_n 0, 1) := by decide +kernel
theorem dX12_resolveOn_5 : decode cX12_resolveOn 5 = .ok (.getfield 55, 3) := by decide +kernel
theorem dX12_resolveOn_8 : decode cX12_resolveOn 8 = .ok (.iload_n 1, 1) := by decide +kernel
theorem dX12_resolveOn_9 : decode cX12_resolveOn 9 = .ok (.iaload, 1) := by decide +kernel
theorem dX12_resolveOn_10 : decode cX12_resolveOn 10 = .ok (.iaload, 1) := by decide +kernel
theorem dX12_resolveOn_11 : decode cX12_resolveOn 11 = .ok (.istore_n 2, 1) := by decide +kernel
theorem dX12_resolveOn_12 : decode cX12_resolveOn 12 = .ok (.aload_n 0, 1) := by decide +kernel
theorem dX12_resolveOn_13 : decode cX12_resolveOn 13 = .ok (.iload_n 2, 1) := by decide +kernel
theorem dX12_resolveOn_14 : decode cX12_resolveOn 14 = .ok (.iconst 3, 1) := by decide +kernel
theorem dX12_resolveOn_15 : decode cX12_resolveOn 15 = .ok (.invokevirtual 521, 3) := by decide +kernel
theorem dX12_resolveOn_18 : decode cX12_resolveOn 18 = .ok (.ifCond .ne 19, 3) := by decide +kernel
theorem dX12_resolveOn_21 : decode cX12_resolveOn 21 = .ok (.aload_n 0, 1) := by decide +kernel
theorem dX12_resolveOn_22 : decode cX12_resolveOn 22 = .ok (.aload_n 0, 1) := by decide +kernel
theorem dX12_resolveOn_23 : decode cX12_resolveOn 23 = .ok (.getfield 52, 3) := by decide +kernel
theorem dX12_resolveOn_26 : decode cX12_resolveOn 26 = .ok (.aload_n 0, 1) := by decide +kernel
theorem dX12_resolveOn_27 : decode cX12_resolveOn 27 = .ok (.getfield 55, 3) := by decide +kernel
theorem dX12_resolveOn_30 : decode cX12_resolveOn 30 = .ok (.iload_n 1, 1) := by decide +kernel
theorem dX12_resolveOn_31 : decode cX12_resolveOn 31 = .ok (.iaload, 1) := by decide +kernel
theorem dX12_resolveOn_32 : decode cX12_resolveOn 32 = .ok (.iaload, 1) := by decide +kernel
theorem dX12_resolveOn_33 : decode cX12_resolveOn 33 = .ok (.invokevirtual 525, 3) := by decide +kernel
theorem dX12_resolveOn_36 : decode cX12_resolveOn 36 = .ok (.return_, 1) := by decide +kernel
theorem dX12_resolveOn_37 : decode cX12_resolveOn 37 = .ok (.aload_n 0, 1) := by decide +kernel
theorem dX12_resolveOn_38 : decode cX12_resolveOn 38 = .ok (.getfield 70, 3) := by decide +kernel
theorem dX12_resolveOn_41 : decode cX12_resolveOn 41 = .ok (.iload_n 2, 1) := by decide +kernel
theorem dX12_resolveOn_42 : decode cX12_resolveOn 42 = .ok (.iaload, 1) := by decide +kernel
theorem dX12_resolveOn_43 : decode cX12_resolveOn 43 = .ok (.istore_n 3, 1) := by decide +kernel
theorem dX12_resolveOn_44 : decode cX12_resolveOn 44 = .ok (.aload_n 0, 1) := by decide +kernel
theorem dX12_resolveOn_45 : decode cX12_resolveOn 45 = .ok (.iload_n 3, 1) := by decide +kernel
theorem dX12_resolveOn_46 : decode cX12_resolveOn 46 = .ok (.aload_n 0, 1) := by decide +kernel
theorem dX12_resolveOn_47 : decode cX12_resolveOn 47 = .ok (.getfield 73, 3) := by decide +kernel
theorem dX12_resolveOn_50 : decode cX12_resolveOn 50 = .ok (.iload_n 2, 1) := by decide +kernel
theorem dX12_resolveOn_51 : decode cX12_resolveOn 51 = .ok (.iaload, 1) := by decide +kernel
theorem dX12_resolveOn_52 : decode cX12_resolveOn 52 = .ok (.invokevirtual 540, 3) := by decide +kernel
theorem dX12_resolveOn_55 : decode cX12_resolveOn 55 = .ok (.istore 4, 2) := by decide +kernel
theorem dX12_resolveOn_57 : decode cX12_resolveOn 57 = .ok (.iconst 0, 1) := by decide +kernel
theorem dX12_resolveOn_58 : decode cX12_resolveOn 58 = .ok (.istore 5, 2) := by decide +kernel
theorem dX12_resolveOn_60 : decode cX12_resolveOn 60 = .ok (.aload_n 0, 1) := by decide +kernel
theorem dX12_resolveOn_61 : decode cX12_resolveOn 61 = .ok (.getfield 58, 3) := by decide +kernel
theorem dX12_resolveOn_64 : decode cX12_resolveOn 64 = .ok (.iload_n 1, 1) := by decide +kernel
theorem dX12_resolveOn_65 : decode cX12_resolveOn 65 = .ok (.iaload, 1) := by decide +kernel
theorem dX12_resolveOn_66 : decode cX12_resolveOn 66 = .ok (.istore 6, 2) := by decide +kernel
theorem dX12_resolveOn_68 : decode cX12_resolveOn 68 = .ok (.iload 6, 2) := by decide +kernel
theorem dX12_resolveOn_70 : decode cX12_resolveOn 70 = .ok (.ifCond .lt 115, 3) := by decide +kernel
theorem dX12_resolveOn_73 : decode cX12_resolveOn 73 = .ok (.aload_n 0, 1) := by decide +kernel
theorem dX12_resolveOn_74 : decode cX12_resolveOn 74 = .ok (.getfield 55, 3) := by decide +kernel
theorem dX12_resolveOn_77 : decode cX12_resolveOn 77 = .ok (.iload 6, 2) := by decide +kernel
theorem dX12_resolveOn_79 : decode cX12_resolveOn 79 = .ok (.iaload, 1) := by decide +kernel
theorem dX12_resolveOn_80 : decode cX12_resolveOn 80 = .ok (.ifCond .eq 60, 3) := by decide +kernel
theorem dX12_resolveOn_83 : decode cX12_resolveOn 83 = .ok (.iload_n 3, 1) := by decide +kernel
theorem dX12_resolveOn_84 : decode cX12_resolveOn 84 = .ok (.bipush 11, 2) := by decide +kernel
theorem dX12_resolveOn_86 : decode cX12_resolveOn 86 = .ok (.if_icmp .ne 17, 3) := by decide +kernel
theorem dX12_resolveOn_89 : decode cX12_resolveOn 89 = .ok (.aload_n 0, 1) := by decide +kernel
theorem dX12_resolveOn_90 : decode cX12_resolveOn 90 = .ok (.getfield 55, 3) := by decide +kernel
theorem dX12_resolveOn_93 : decode cX12_resolveOn 93 = .ok (.iload 6, 2) := by decide +kernel
theorem dX12_resolveOn_95 : decode cX12_resolveOn 95 = .ok (.iaload, 1) := by decide +kernel
theorem dX12_resolveOn_96 : decode cX12_resolveOn 96 = .ok (.iconst 3, 1) := by decide +kernel
theorem dX12_resolveOn_97 : decode cX12_resolveOn 97 = .ok (.if_icmp .ne 47, 3) := by decide +kernel
theorem dX12_resolveOn_100 : decode cX12_resolveOn 100 = .ok (.goto 40, 3) := by decide +kernel
theorem dX12_resolveOn_103 : decode cX12_resolveOn 103 = .ok (.aload_n 0, 1) := by decide +kernel
theorem dX12_resolveOn_104 : decode cX12_resolveOn 104 = .ok (.getfield 55, 3) := by decide +kernel
theorem dX12_resolveOn_107 : decode cX12_resolveOn 107 = .ok (.iload 6, 2) := by decide +kernel
theorem dX12_resolveOn_109 : decode cX12_resolveOn 109 = .ok (.iaload, 1) := by decide +kernel
theorem dX12_resolveOn_110 : decode cX12_resolveOn 110 = .ok (.iconst 2, 1) := by decide +kernel
theorem dX12_resolveOn_111 : decode cX12_resolveOn 111 = .ok (.if_icmp .eq 29, 3) := by decide +kernel
theorem dX12_resolveOn_114 : decode cX12_resolveOn 114 = .ok (.aload_n 0, 1) := by decide +kernel
theorem dX12_resolveOn_115 : decode cX12_resolveOn 115 = .ok (.getfield 55, 3) := by decide +kernel
theorem dX12_resolveOn_118 : decode cX12_resolveOn 118 = .ok (.iload 6, 2) := by decide +kernel
theorem dX12_resolveOn_120 : decode cX12_resolveOn 120 = .ok (.iaload, 1) := by decide +kernel
theorem dX12_resolveOn_121 : decode cX12_resolveOn 121 = .ok (.iconst 1, 1) := by decide +kernel
theorem dX12_resolveOn_122 : decode cX12_resolveOn 122 = .ok (.if_icmp .ne 22, 3) := by decide +kernel
theorem dX12_resolveOn_125 : decode cX12_resolveOn 125 = .ok (.aload_n 0, 1) := by decide +kernel
theorem dX12_resolveOn_126 : decode cX12_resolveOn 126 = .ok (.aload_n 0, 1) := by decide +kernel
theorem dX12_resolveOn_127 : decode cX12_resolveOn 127 = .ok (.getfield 58, 3) := by decide +kernel
theorem dX12_resolveOn_130 : decode cX12_resolveOn 130 = .ok (.iload 6, 2) := by decide +kernel
theorem dX12_resolveOn_132 : decode cX12_resolveOn 132 = .ok (.iaload, 1) := by decide +kernel
theorem dX12_resolveOn_133 : decode cX12_resolveOn 133 = .ok (.iconst 2, 1) := by decide +kernel
theorem dX12_resolveOn_134 : decode cX12_resolveOn 134 = .ok (.invokevirtual 521, 3) := by decide +kernel
theorem dX12_resolveOn_137 : decode cX12_resolveOn 137 = .ok (.ifCond .eq 7, 3) := by decide +kernel
theorem dX12_resolveOn_140 : decode cX12_resolveOn 140 = .ok (.iconst 1, 1) := by decide +kernel
theorem dX12_resolveOn_141 : decode cX12_resolveOn 141 = .ok (.goto 4, 3) := by decide +kernel
theorem dX12_resolveOn_144 : decode cX12_resolveOn 144 = .ok (.iconst 0, 1) := by decide +kernel
theorem dX12_resolveOn_145 : decode cX12_resolveOn 145 = .ok (.istore 7, 2) := by decide +kernel
theorem dX12_resolveOn_147 : decode cX12_resolveOn 147 = .ok (.iload 7, 2) := by decide +kernel
theorem dX12_resolveOn_149 : decode cX12_resolveOn 149 = .ok (.ifCond .eq 13, 3) := by decide +kernel
theorem dX12_resolveOn_152 : decode cX12_resolveOn 152 = .ok (.iinc 5 1, 3) := by decide +kernel
theorem dX12_resolveOn_155 : decode cX12_resolveOn 155 = .ok (.iload 5, 2) := by decide +kernel
theorem dX12_resolveOn_157 : decode cX12_resolveOn 157 = .ok (.iload 4, 2) := by decide +kernel
theorem dX12_resolveOn_159 : decode cX12_resolveOn 159 = .ok (.if_icmp .le 14, 3) := by decide +kernel
theorem dX12_resolveOn_162 : decode cX12_resolveOn 162 = .ok (.aload_n 0, 1) := by decide +kernel
theorem dX12_resolveOn_163 : decode cX12_resolveOn 163 = .ok (.aload_n 0, 1) := by decide +kernel
theorem dX12_resolveOn_164 : decode cX12_resolveOn 164 = .ok (.getfield 52, 3) := by decide +kernel
theorem dX12_resolveOn_167 : decode cX12_resolveOn 167 = .ok (.iload 6, 2) := by decide +kernel
theorem dX12_resolveOn_169 : decode cX12_resolveOn 169 = .ok (.iaload, 1) := by decide +kernel
theorem dX12_resolveOn_170 : decode cX12_resolveOn 170 = .ok (.invokevirtual 525, 3) := by decide +kernel
theorem dX12_resolveOn_173 : decode cX12_resolveOn 173 = .ok (.aload_n 0, 1) := by decide +kernel
theorem dX12_resolveOn_174 : decode cX12_resolveOn 174 = .ok (.getfield 64, 3) := by decide +kernel
theorem dX12_resolveOn_177 : decode cX12_resolveOn 177 = .ok (.iload 6, 2) := by decide +kernel
theorem dX12_resolveOn_179 : decode cX12_resolveOn 179 = .ok (.iaload, 1) := by decide +kernel
theorem dX12_resolveOn_180 : decode cX12_resolveOn 180 = .ok (.istore 6, 2) := by decide +kernel
theorem dX12_resolveOn_182 : decode cX12_resolveOn 182 = .ok (.goto (-114), 3) := by decide +kernel
theorem dX12_resolveOn_185 : decode cX12_resolveOn 185 = .ok (.return_, 1) := by decide +kernel
def F_X12_resolveOn (p0 : Int32) (σ : MS) : MR :=
  if p0 < 0 ∨ 40000 ≤ p0.toNatClampNeg then none else
  bnd ((σ.2 19 p0.toNatClampNeg)) fun (x_3 : Int32) =>
  if x_3 < 0 ∨ 40000 ≤ x_3.toNatClampNeg then none else
  bnd ((σ.2 19 x_3.toNatClampNeg)) fun (x_7 : Int32) =>
  (F_X12_is x_7 3 σ).bind fun u_9 =>
  if u_9.1 = 0 then (
    if p0 < 0 ∨ 40000 ≤ p0.toNatClampNeg then none else
    bnd ((u_9.2.2 19 p0.toNatClampNeg)) fun (x_15 : Int32) =>
    if x_15 < 0 ∨ 40000 ≤ x_15.toNatClampNeg then none else
    (F_X12_wrong (u_9.2.2 18 x_15.toNatClampNeg) u_9.2).bind fun u_19 =>
    some (0, u_19.2)
  ) else (
    if x_7 < 0 ∨ 8000 ≤ x_7.toNatClampNeg then none else
    bnd ((u_9.2.2 29 x_7.toNatClampNeg)) fun (x_24 : Int32) =>
    if x_7 < 0 ∨ 8000 ≤ x_7.toNatClampNeg then none else
    (F_X12_nounsOf x_24 (u_9.2.2 30 x_7.toNatClampNeg) u_9.2).bind fun u_28 =>
    if p0 < 0 ∨ 40000 ≤ p0.toNatClampNeg then none else
    bnd ((u_28.2.2 20 p0.toNatClampNeg)) fun (x_32 : Int32) =>
    loopF (fun (again_35 : (Int32 × Int32 × MS) → MR) (s_34 : Int32 × Int32 × MS) => (
      if s_34.2.1 < 0 then (
        some (0, s_34.2.2)
      ) else (
        if s_34.2.1 < 0 ∨ 40000 ≤ s_34.2.1.toNatClampNeg then none else
        bnd (fun (t_43 : Int32) (σ_44 : MS) => (
          bnd (fun (v5_48 : Int32) (σ_49 : MS) => (
            if s_34.2.1 < 0 ∨ 40000 ≤ s_34.2.1.toNatClampNeg then none else
            bnd ((σ_49.2 22 s_34.2.1.toNatClampNeg)) fun (x_55 : Int32) =>
            again_35 (v5_48, x_55, σ_49)
          ) : Int32 → MS → MR) fun j_50 =>
          bnd (fun (v5_57 : Int32) (σ_58 : MS) => (
            if s_34.2.1 < 0 ∨ 40000 ≤ s_34.2.1.toNatClampNeg then none else
            (F_X12_wrong (σ_58.2 18 s_34.2.1.toNatClampNeg) σ_58).bind fun u_64 =>
            j_50 v5_57 u_64.2
          ) : Int32 → MS → MR) fun j_59 =>
          if t_43 = 0 then (
            j_59 s_34.1 σ_44
          ) else (
            bnd (s_34.1 + 1) fun (x_69 : Int32) =>
            if x_69 ≤ u_28.1 then (
              j_50 x_69 σ_44
            ) else (
              j_59 x_69 σ_44
            )
          )
        ) : Int32 → MS → MR) fun j_45 =>
        bnd (fun  (σ_74 : MS) => (
          j_45 1 σ_74
        ) : MS → MR) fun j_75 =>
        if (s_34.2.2.2 19 s_34.2.1.toNatClampNeg) = 0 then (
          j_75  s_34.2.2
        ) else (
          bnd (fun  (σ_81 : MS) => (
            j_45 0 σ_81
          ) : MS → MR) fun j_82 =>
          if x_24 = 11 then (
            if s_34.2.1 < 0 ∨ 40000 ≤ s_34.2.1.toNatClampNeg then none else
            if (s_34.2.2.2 19 s_34.2.1.toNatClampNeg) = 3 then (
              j_75  s_34.2.2
            ) else (
              j_82  s_34.2.2
            )
          ) else (
            if s_34.2.1 < 0 ∨ 40000 ≤ s_34.2.1.toNatClampNeg then none else
            if (s_34.2.2.2 19 s_34.2.1.toNatClampNeg) = 2 then (
              j_75  s_34.2.2
            ) else (
              if s_34.2.1 < 0 ∨ 40000 ≤ s_34.2.1.toNatClampNeg then none else
              if (s_34.2.2.2 19 s_34.2.1.toNatClampNeg) = 1 then (
                if s_34.2.1 < 0 ∨ 40000 ≤ s_34.2.1.toNatClampNeg then none else
                (F_X12_is (s_34.2.2.2 20 s_34.2.1.toNatClampNeg) 2 s_34.2.2).bind fun u_104 =>
                if u_104.1 = 0 then (
                  j_82  u_104.2
                ) else (
                  j_75  u_104.2
                )
              ) else (
                j_82  s_34.2.2
              )
            )
          )
        )
      )
    )) FU (0, x_32, u_28.2)
  )
set_option maxHeartbeats 4000000 in
set_option maxRecDepth 100000 in
theorem m_X12_resolveOn (l : Launch) (dC : Nat → ClassId) (dI : Nat → Nat → Nat) (cB cC cI cJ cZ cP : ClassId) (h qK qS : Nat) (ad : Nat → Nat) (hDD : mDis cB cI cZ h qK qS ad) (sz : Nat)  (p0 : Int32) (σ : MS) (res : Int32 × MS) (hF : F_X12_resolveOn p0 σ = some res) : Met l yX12_resolveOn (g_ws yX12_resolveOn cX12_resolveOn 8 none) ({ frames := 3, cells := 0, slots := 0, locals := 83 }) (va_Pc [.ref h, .int p0] (m_B (dC, dI) [(cB, .byte), (cC, .char), (cI, .int), (cJ, .long), (cZ, .boolean), (cP, .object "StoryHouse$Play")] sz h ad qK qS (mW cB cI cZ h qK qS ad σ) g_0)) (va_Qv (fun (_ : Unit) => True) (fun _ t => va_P (dC, dI) vwCl (mW cB cI cZ h qK qS ad res.2) t.heap) (mCells h ad sz)) 0 0 (mCells h ad sz) := by
  refine Met.ofW (cc := cX12_resolveOn) (maxL := 8) (ret := none) (by decide) rfl ?_
  intro p e s m args below meth c s₁ B hml hv
  obtain ⟨rfl, hsz, hP, hK, hE, hKS, hX⟩ := hv
  have hx := B.exec
  have hb := B.bytes
  have hr := B.returns
  have hts0 := atoms_spec (ws := g_ws yX12_resolveOn cX12_resolveOn 8 none) B.pre
  have hts : ∀ w ∈ lw_good, w.before ([.ref h, .int p0] : List Value).toArray s = true := fun w z => hts0 w (List.mem_cons_of_mem _ z)
  have hown : s.vm.findClass RX12 = some m.cls := findClass_of_methodNamed B.named
  have hlocks := B.notSynchronized
  have hS : va_S (mCells h ad sz) s.heap s.heap [] := va_S.rf
  have hl := lv_entry ([.ref h, .int p0]) (n := 8) (Nat.le_of_ble_eq_true rfl)
  rw [lg_entry_eq]
  generalize (lg_sl ([.ref h, .int p0]) ++ List.replicate (8 - (lg_sl ([.ref h, .int p0])).length) Slot.unset).toArray = ls at hl ⊢
  have hl : lv_has ls 8 [(0, .ref h), (1, .int p0)] := hl
  unfold F_X12_resolveOn at hF
  refine lv_aload_n hx hb dX12_resolveOn_0 rfl (lv_at hl 0 rfl) ?_
  refine va_get (D := (dC, dI)) (ci := 12) (v := .ref (ad 19)) (C := RX12) (T := TX12) (N := 123) hx hb hts ii_X12 hown hK hP 0 rfl rfl 19 (by decide) (hts (.fieldLink RX12 55 "StoryHouseModel" "a" "[I") wq_1375) (fun _ h9 => h9) rfl dX12_resolveOn_1 ?_
  refine lv_aload_n hx hb dX12_resolveOn_4 rfl (lv_at hl 0 rfl) ?_
  refine va_get (D := (dC, dI)) (ci := 12) (v := .ref (ad 19)) (C := RX12) (T := TX12) (N := 123) hx hb hts ii_X12 hown hK hP 0 rfl rfl 19 (by decide) (hts (.fieldLink RX12 55 "StoryHouseModel" "a" "[I") wq_1375) (fun _ h9 => h9) rfl dX12_resolveOn_5 ?_
  refine lv_iload_n hx hb dX12_resolveOn_8 rfl (lv_at hl 1 rfl) ?_
  obtain ⟨g_1, hF_2⟩ := nif_e hF
  clear hF
  refine va_iald (f := σ.2 19) hx hb hK hP 10 2 rfl rfl g_1 dX12_resolveOn_9 ?_
  obtain ⟨x_3, ex_3, hF_4⟩ := bnd_e hF_2
  clear hF_2
  refine m_top ex_3 ?_
  obtain ⟨g_5, hF_6⟩ := nif_e hF_4
  clear hF_4
  refine va_iald (f := σ.2 19) hx hb hK hP 10 2 rfl rfl g_5 dX12_resolveOn_10 ?_
  obtain ⟨x_7, ex_7, hF_8⟩ := bnd_e hF_6
  clear hF_6
  refine m_top ex_7 ?_
  refine lv_istore_n (lv' := [(2, .int x_7), (0, .ref h), (1, .int p0)]) hx hb dX12_resolveOn_11 rfl hl (by decide) rfl (fun ls hl => ?_)
  refine lv_aload_n hx hb dX12_resolveOn_12 rfl (lv_at hl 1 rfl) ?_
  refine lv_iload_n hx hb dX12_resolveOn_13 rfl (lv_at hl 0 rfl) ?_
  refine lv_iconst (v := 3) hx hb dX12_resolveOn_14 (by decide +kernel) ?_
  obtain ⟨u_9, hu_9, hF_10⟩ := Option.bind_eq_some_iff.mp hF_8
  clear hF_8
  refine m_ci hsz hS (va_runV (As := [.int x_7, .int 3]) (rest := []) ⟨hx, hb, hml, hown, hts⟩ (m_X12_is l dC dI cB cC cI cJ cZ cP h qK qS ad hDD s.heap.size  x_7 3 σ _ hu_9) (cwV 2 hts (g_gV wq_1681 wq_1682 wq_2172 wq_13 wq_1683) rfl rfl rfl (by decide +kernel) ⟨Nat.le_of_ble_eq_true rfl, Nat.le_of_ble_eq_true rfl⟩) (m_preV g_bl0 hsz hK hP hS hE hKS g_to0) rfl rfl hl.1 rfl (lv_room (Nat.le_of_ble_eq_true rfl)) dX12_resolveOn_15 ⟨Nat.le_of_ble_eq_true rfl, Nat.le_of_ble_eq_true rfl⟩) (fun H locs hP hS => ?_)
  refine lv_if_ne (tgt := 37) hx hb dX12_resolveOn_18 (by decide) (fun c_11 => ?_) (fun c_11 => ?_)
  · have hF_21 := ineg c_11 hF_10
    clear hF_10
    refine lv_aload_n hx hb dX12_resolveOn_37 rfl (lv_at hl 1 rfl) ?_
    refine va_get (D := (dC, dI)) (ci := 12) (v := .ref (ad 29)) (C := RX12) (T := TX12) (N := 123) hx hb hts ii_X12 hown hK hP 0 rfl rfl 29 (by decide) (hts (.fieldLink RX12 70 "StoryHouseModel" "nameNumber" "[I") wq_1385) (fun _ h9 => h9) rfl dX12_resolveOn_38 ?_
    refine lv_iload_n hx hb dX12_resolveOn_41 rfl (lv_at hl 0 rfl) ?_
    obtain ⟨g_22, hF_23⟩ := nif_e hF_21
    clear hF_21
    refine va_iald (f := u_9.2.2 29) hx hb hK hP 15 2 rfl rfl g_22 dX12_resolveOn_42 ?_
    obtain ⟨x_24, ex_24, hF_25⟩ := bnd_e hF_23
    clear hF_23
    refine m_top ex_24 ?_
    refine lv_istore_n (lv' := [(3, .int x_24), (2, .int x_7), (0, .ref h), (1, .int p0)]) hx hb dX12_resolveOn_43 rfl hl (by decide) rfl (fun ls hl => ?_)
    refine lv_aload_n hx hb dX12_resolveOn_44 rfl (lv_at hl 2 rfl) ?_
    refine lv_iload_n hx hb dX12_resolveOn_45 rfl (lv_at hl 0 rfl) ?_
    refine lv_aload_n hx hb dX12_resolveOn_46 rfl (lv_at hl 2 rfl) ?_
    refine va_get (D := (dC, dI)) (ci := 12) (v := .ref (ad 30)) (C := RX12) (T := TX12) (N := 123) hx hb hts ii_X12 hown hK hP 0 rfl rfl 30 (by decide) (hts (.fieldLink RX12 73 "StoryHouseModel" "itemOf" "[I") wq_1386) (fun _ h9 => h9) rfl dX12_resolveOn_47 ?_
    refine lv_iload_n hx hb dX12_resolveOn_50 rfl (lv_at hl 1 rfl) ?_
    obtain ⟨g_26, hF_27⟩ := nif_e hF_25
    clear hF_25
    refine va_iald (f := u_9.2.2 30) hx hb hK hP 16 2 rfl rfl g_26 dX12_resolveOn_51 ?_
    obtain ⟨u_28, hu_28, hF_29⟩ := Option.bind_eq_some_iff.mp hF_27
    clear hF_27
    refine m_ci hsz hS (va_runV (As := [.int x_24, .int (u_9.2.2 30 x_7.toNatClampNeg)]) (rest := []) ⟨hx, hb, hml, hown, hts⟩ (m_X12_nounsOf l dC dI cB cC cI cJ cZ cP h qK qS ad hDD H.size  x_24 (u_9.2.2 30 x_7.toNatClampNeg) u_9.2 _ hu_28) (cwV 2 hts (g_gV wq_1690 wq_1691 wq_2175 wq_13 wq_1692) rfl rfl rfl (by decide +kernel) ⟨Nat.le_of_ble_eq_true rfl, Nat.le_of_ble_eq_true rfl⟩) (m_preV g_bl0 hsz hK hP hS hE hKS g_to0) rfl rfl hl.1 rfl (lv_room (Nat.le_of_ble_eq_true rfl)) dX12_resolveOn_52 ⟨Nat.le_of_ble_eq_true rfl, Nat.le_of_ble_eq_true rfl⟩) (fun H locs hP hS => ?_)
    refine lv_istore (lv' := [(4, .int u_28.1), (3, .int x_24), (2, .int x_7), (0, .ref h), (1, .int p0)]) hx hb dX12_resolveOn_55 hl (by decide) rfl (fun ls hl => ?_)
    refine lv_iconst (v := 0) hx hb dX12_resolveOn_57 (by decide +kernel) ?_
    refine lv_istore (lv' := [(5, .int 0), (4, .int u_28.1), (3, .int x_24), (2, .int x_7), (0, .ref h), (1, .int p0)]) hx hb dX12_resolveOn_58 hl (by decide) rfl (fun ls hl => ?_)
    refine lv_aload_n hx hb dX12_resolveOn_60 rfl (lv_at hl 4 rfl) ?_
    refine va_get (D := (dC, dI)) (ci := 12) (v := .ref (ad 20)) (C := RX12) (T := TX12) (N := 123) hx hb hts ii_X12 hown hK hP 0 rfl rfl 20 (by decide) (hts (.fieldLink RX12 58 "StoryHouseModel" "b" "[I") wq_1376) (fun _ h9 => h9) rfl dX12_resolveOn_61 ?_
    refine lv_iload_n hx hb dX12_resolveOn_64 rfl (lv_at hl 5 rfl) ?_
    obtain ⟨g_30, hF_31⟩ := nif_e hF_29
    clear hF_29
    refine va_iald (f := u_28.2.2 20) hx hb hK hP 11 2 rfl rfl g_30 dX12_resolveOn_65 ?_
    obtain ⟨x_32, ex_32, hF_33⟩ := bnd_e hF_31
    clear hF_31
    refine m_top ex_32 ?_
    refine lv_istore (lv' := [(6, .int x_32), (5, .int 0), (4, .int u_28.1), (3, .int x_24), (2, .int x_7), (0, .ref h), (1, .int p0)]) hx hb dX12_resolveOn_66 hl (by decide) rfl (fun ls hl => ?_)
    refine loopF_ind (P := fun (s_34 : Int32 × Int32 × MS) => ∀ (H : Heap) (locs : List Loc), va_P (dC, dI) vwCl (mW cB cI cZ h qK qS ad s_34.2.2) H → va_S (mCells h ad sz) s.heap H locs → ∀ ls : Array Slot, lv_has ls 8 [(0, .ref h), (3, .int x_24), (4, .int u_28.1), (5, .int s_34.1), (6, .int s_34.2.1)] → W p l e (headSpec (g_ws yX12_resolveOn cX12_resolveOn 8 none) { frames := 3, cells := 0, slots := 0, locals := 83 }).room s m ([.ref h, .int p0] : List Value).toArray below meth c H locs 0 0 (MQ below (va_Qv (fun (_ : Unit) => True) (fun _ t => va_P (dC, dI) vwCl (mW cB cI cZ h qK qS ad res.2) t.heap) (mCells h ad sz)) ([.ref h, .int p0] : List Value).toArray s 0 0 (mCells h ad sz)) (F0 m 68 ls [])) ?_ _ _ hF_33 _ _ hP hS ls (lv_sub hl [5, 3, 2, 1, 0] rfl)
    intro again_35 s_34 ih_36 hF_37
    intro H locs hP hS ls hl
    refine lv_iload hx hb dX12_resolveOn_68 (lv_at hl 4 rfl) ?_
    refine lv_if_lt (tgt := 185) hx hb dX12_resolveOn_70 (by decide) (fun c_38 => ?_) (fun c_38 => ?_)
    · have hF_39 := ipos c_38 hF_37
      clear hF_37
      have h9 := Option.some.inj hF_39
      subst h9
      exact W.vret hx hb hr (fun t ht hW => ⟨⟨(), rfl, trivial, m_end ht hP⟩, hS.F ht⟩) hS.2.2 dX12_resolveOn_185
    · have hF_40 := ineg c_38 hF_37
      clear hF_37
      refine lv_aload_n hx hb dX12_resolveOn_73 rfl (lv_at hl 0 rfl) ?_
      refine va_get (D := (dC, dI)) (ci := 12) (v := .ref (ad 19)) (C := RX12) (T := TX12) (N := 123) hx hb hts ii_X12 hown hK hP 0 rfl rfl 19 (by decide) (hts (.fieldLink RX12 55 "StoryHouseModel" "a" "[I") wq_1375) (fun _ h9 => h9) rfl dX12_resolveOn_74 ?_
      refine lv_iload hx hb dX12_resolveOn_77 (lv_at hl 4 rfl) ?_
      obtain ⟨g_41, hF_42⟩ := nif_e hF_40
      clear hF_40
      refine va_iald (f := s_34.2.2.2 19) hx hb hK hP 10 2 rfl rfl g_41 dX12_resolveOn_79 ?_
      obtain ⟨j_45, ej_45, hF_46⟩ := bnd_e hF_42
      clear hF_42
      have Jj_45 : ∀ (t_43 : Int32) (σ_44 : MS), j_45 t_43 σ_44 = some res → ∀ (H : Heap) (locs : List Loc), va_P (dC, dI) vwCl (mW cB cI cZ h qK qS ad σ_44) H → va_S (mCells h ad sz) s.heap H locs → ∀ ls : Array Slot, lv_has ls 8 [(0, .ref h), (3, .int x_24), (4, .int u_28.1), (5, .int s_34.1), (6, .int s_34.2.1)] → W p l e (headSpec (g_ws yX12_resolveOn cX12_resolveOn 8 none) { frames := 3, cells := 0, slots := 0, locals := 83 }).room s m ([.ref h, .int p0] : List Value).toArray below meth c H locs 0 0 (MQ below (va_Qv (fun (_ : Unit) => True) (fun _ t => va_P (dC, dI) vwCl (mW cB cI cZ h qK qS ad res.2) t.heap) (mCells h ad sz)) ([.ref h, .int p0] : List Value).toArray s 0 0 (mCells h ad sz)) (F0 m 145 ls [.int t_43]) := by
        intro t_43 σ_44 hF0 H locs hP hS ls hl
        subst ej_45
        have hF_47 := hF0
        clear hF0
        refine lv_istore (lv' := [(7, .int t_43), (0, .ref h), (3, .int x_24), (4, .int u_28.1), (5, .int s_34.1), (6, .int s_34.2.1)]) hx hb dX12_resolveOn_145 hl (by decide) rfl (fun ls hl => ?_)
        refine lv_iload hx hb dX12_resolveOn_147 (lv_at hl 0 rfl) ?_
        obtain ⟨j_50, ej_50, hF_51⟩ := bnd_e hF_47
        clear hF_47
        have Jj_50 : ∀ (v5_48 : Int32) (σ_49 : MS), j_50 v5_48 σ_49 = some res → ∀ (H : Heap) (locs : List Loc), va_P (dC, dI) vwCl (mW cB cI cZ h qK qS ad σ_49) H → va_S (mCells h ad sz) s.heap H locs → ∀ ls : Array Slot, lv_has ls 8 [(0, .ref h), (3, .int x_24), (4, .int u_28.1), (5, .int v5_48), (6, .int s_34.2.1)] → W p l e (headSpec (g_ws yX12_resolveOn cX12_resolveOn 8 none) { frames := 3, cells := 0, slots := 0, locals := 83 }).room s m ([.ref h, .int p0] : List Value).toArray below meth c H locs 0 0 (MQ below (va_Qv (fun (_ : Unit) => True) (fun _ t => va_P (dC, dI) vwCl (mW cB cI cZ h qK qS ad res.2) t.heap) (mCells h ad sz)) ([.ref h, .int p0] : List Value).toArray s 0 0 (mCells h ad sz)) (F0 m 173 ls []) := by
          intro v5_48 σ_49 hF0 H locs hP hS ls hl
          subst ej_50
          have hF_52 := hF0
          clear hF0
          refine lv_aload_n hx hb dX12_resolveOn_173 rfl (lv_at hl 0 rfl) ?_
          refine va_get (D := (dC, dI)) (ci := 12) (v := .ref (ad 22)) (C := RX12) (T := TX12) (N := 123) hx hb hts ii_X12 hown hK hP 0 rfl rfl 22 (by decide) (hts (.fieldLink RX12 64 "StoryHouseModel" "then" "[I") wq_1378) (fun _ h9 => h9) rfl dX12_resolveOn_174 ?_
          refine lv_iload hx hb dX12_resolveOn_177 (lv_at hl 4 rfl) ?_
          obtain ⟨g_53, hF_54⟩ := nif_e hF_52
          clear hF_52
          refine va_iald (f := σ_49.2 22) hx hb hK hP 13 2 rfl rfl g_53 dX12_resolveOn_179 ?_
          obtain ⟨x_55, ex_55, hF_56⟩ := bnd_e hF_54
          clear hF_54
          refine m_top ex_55 ?_
          refine lv_istore (lv' := [(6, .int x_55), (0, .ref h), (3, .int x_24), (4, .int u_28.1), (5, .int v5_48)]) hx hb dX12_resolveOn_180 hl (by decide) rfl (fun ls hl => ?_)
          refine lv_goto (tgt := 68) hx hb dX12_resolveOn_182 (by decide) ?_
          exact ih_36 (v5_48, x_55, σ_49) hF_56 _ _ hP hS ls (lv_sub hl [1, 2, 3, 4, 0] rfl)
        obtain ⟨j_59, ej_59, hF_60⟩ := bnd_e hF_51
        clear hF_51
        have Jj_59 : ∀ (v5_57 : Int32) (σ_58 : MS), j_59 v5_57 σ_58 = some res → ∀ (H : Heap) (locs : List Loc), va_P (dC, dI) vwCl (mW cB cI cZ h qK qS ad σ_58) H → va_S (mCells h ad sz) s.heap H locs → ∀ ls : Array Slot, lv_has ls 8 [(0, .ref h), (3, .int x_24), (4, .int u_28.1), (5, .int v5_57), (6, .int s_34.2.1)] → W p l e (headSpec (g_ws yX12_resolveOn cX12_resolveOn 8 none) { frames := 3, cells := 0, slots := 0, locals := 83 }).room s m ([.ref h, .int p0] : List Value).toArray below meth c H locs 0 0 (MQ below (va_Qv (fun (_ : Unit) => True) (fun _ t => va_P (dC, dI) vwCl (mW cB cI cZ h qK qS ad res.2) t.heap) (mCells h ad sz)) ([.ref h, .int p0] : List Value).toArray s 0 0 (mCells h ad sz)) (F0 m 162 ls []) := by
          intro v5_57 σ_58 hF0 H locs hP hS ls hl
          subst ej_59
          have hF_61 := hF0
          clear hF0
          refine lv_aload_n hx hb dX12_resolveOn_162 rfl (lv_at hl 0 rfl) ?_
          refine lv_aload_n hx hb dX12_resolveOn_163 rfl (lv_at hl 0 rfl) ?_
          refine va_get (D := (dC, dI)) (ci := 12) (v := .ref (ad 18)) (C := RX12) (T := TX12) (N := 123) hx hb hts ii_X12 hown hK hP 0 rfl rfl 18 (by decide) (hts (.fieldLink RX12 52 "StoryHouseModel" "where" "[I") wq_1374) (fun _ h9 => h9) rfl dX12_resolveOn_164 ?_
          refine lv_iload hx hb dX12_resolveOn_167 (lv_at hl 4 rfl) ?_
          obtain ⟨g_62, hF_63⟩ := nif_e hF_61
          clear hF_61
          refine va_iald (f := σ_58.2 18) hx hb hK hP 9 2 rfl rfl g_62 dX12_resolveOn_169 ?_
          obtain ⟨u_64, hu_64, hF_65⟩ := Option.bind_eq_some_iff.mp hF_63
          clear hF_63
          refine m_cv hsz hS (va_runV (As := [.int (σ_58.2 18 s_34.2.1.toNatClampNeg)]) (rest := []) ⟨hx, hb, hml, hown, hts⟩ (m_X12_wrong l dC dI cB cC cI cJ cZ cP h qK qS ad hDD H.size  (σ_58.2 18 s_34.2.1.toNatClampNeg) σ_58 _ hu_64) (cwV 1 hts (g_gV wq_1684 wq_1685 wq_2173 wq_13 wq_1686) rfl rfl rfl (by decide +kernel) ⟨Nat.le_of_ble_eq_true rfl, Nat.le_of_ble_eq_true rfl⟩) (m_preV g_bl0 hsz hK hP hS hE hKS g_to0) rfl rfl hl.1 rfl (lv_room (Nat.le_of_ble_eq_true rfl)) dX12_resolveOn_170 ⟨Nat.le_of_ble_eq_true rfl, Nat.le_of_ble_eq_true rfl⟩) (fun H locs hP hS => ?_)
          exact Jj_50 v5_57 u_64.2 hF_65 _ _ hP hS ls (lv_sub hl [0, 1, 2, 3, 4] rfl)
        refine lv_if_eq (tgt := 162) hx hb dX12_resolveOn_149 (by decide) (fun c_66 => ?_) (fun c_66 => ?_)
        · have hF_67 := ipos c_66 hF_60
          clear hF_60
          exact Jj_59 s_34.1 σ_44 hF_67 _ _ hP hS ls (lv_sub hl [1, 2, 3, 4, 5] rfl)
        · have hF_68 := ineg c_66 hF_60
          clear hF_60
          obtain ⟨x_69, ex_69, hF_70⟩ := bnd_e hF_68
          clear hF_68
          refine lv_iinc (v := x_69) (lv' := [(5, .int x_69), (7, .int t_43), (0, .ref h), (3, .int x_24), (4, .int u_28.1), (6, .int s_34.2.1)]) hx hb dX12_resolveOn_152 hl (k := 4) rfl (by rw [ex_69]; rfl) (by decide) rfl (fun ls hl => ?_)
          refine lv_iload hx hb dX12_resolveOn_155 (lv_at hl 0 rfl) ?_
          refine lv_iload hx hb dX12_resolveOn_157 (lv_at hl 4 rfl) ?_
          refine lv_icmp_le (tgt := 173) hx hb dX12_resolveOn_159 (by decide) (fun c_71 => ?_) (fun c_71 => ?_)
          · have hF_72 := ipos c_71 hF_70
            clear hF_70
            exact Jj_50 x_69 σ_44 hF_72 _ _ hP hS ls (lv_sub hl [2, 3, 4, 0, 5] rfl)
          · have hF_73 := ineg c_71 hF_70
            clear hF_70
            exact Jj_59 x_69 σ_44 hF_73 _ _ hP hS ls (lv_sub hl [2, 3, 4, 0, 5] rfl)
      obtain ⟨j_75, ej_75, hF_76⟩ := bnd_e hF_46
      clear hF_46
      have Jj_75 : ∀  (σ_74 : MS), j_75  σ_74 = some res → ∀ (H : Heap) (locs : List Loc), va_P (dC, dI) vwCl (mW cB cI cZ h qK qS ad σ_74) H → va_S (mCells h ad sz) s.heap H locs → ∀ ls : Array Slot, lv_has ls 8 [(0, .ref h), (3, .int x_24), (4, .int u_28.1), (5, .int s_34.1), (6, .int s_34.2.1)] → W p l e (headSpec (g_ws yX12_resolveOn cX12_resolveOn 8 none) { frames := 3, cells := 0, slots := 0, locals := 83 }).room s m ([.ref h, .int p0] : List Value).toArray below meth c H locs 0 0 (MQ below (va_Qv (fun (_ : Unit) => True) (fun _ t => va_P (dC, dI) vwCl (mW cB cI cZ h qK qS ad res.2) t.heap) (mCells h ad sz)) ([.ref h, .int p0] : List Value).toArray s 0 0 (mCells h ad sz)) (F0 m 140 ls []) := by
        intro  σ_74 hF0 H locs hP hS ls hl
        subst ej_75
        have hF_77 := hF0
        clear hF0
        refine lv_iconst (v := 1) hx hb dX12_resolveOn_140 (by decide +kernel) ?_
        refine lv_goto (tgt := 145) hx hb dX12_resolveOn_141 (by decide) ?_
        exact Jj_45 1 σ_74 hF_77 _ _ hP hS ls (lv_sub hl [0, 1, 2, 3, 4] rfl)
      refine lv_if_eq (tgt := 140) hx hb dX12_resolveOn_80 (by decide) (fun c_78 => ?_) (fun c_78 => ?_)
      · have hF_79 := ipos c_78 hF_76
        clear hF_76
        exact Jj_75  s_34.2.2 hF_79 _ _ hP hS ls (lv_sub hl [0, 1, 2, 3, 4] rfl)
      · have hF_80 := ineg c_78 hF_76
        clear hF_76
        refine lv_iload_n hx hb dX12_resolveOn_83 rfl (lv_at hl 1 rfl) ?_
        refine lv_bipush (v := 11) hx hb dX12_resolveOn_84 (by decide +kernel) ?_
        obtain ⟨j_82, ej_82, hF_83⟩ := bnd_e hF_80
        clear hF_80
        have Jj_82 : ∀  (σ_81 : MS), j_82  σ_81 = some res → ∀ (H : Heap) (locs : List Loc), va_P (dC, dI) vwCl (mW cB cI cZ h qK qS ad σ_81) H → va_S (mCells h ad sz) s.heap H locs → ∀ ls : Array Slot, lv_has ls 8 [(0, .ref h), (3, .int x_24), (4, .int u_28.1), (5, .int s_34.1), (6, .int s_34.2.1)] → W p l e (headSpec (g_ws yX12_resolveOn cX12_resolveOn 8 none) { frames := 3, cells := 0, slots := 0, locals := 83 }).room s m ([.ref h, .int p0] : List Value).toArray below meth c H locs 0 0 (MQ below (va_Qv (fun (_ : Unit) => True) (fun _ t => va_P (dC, dI) vwCl (mW cB cI cZ h qK qS ad res.2) t.heap) (mCells h ad sz)) ([.ref h, .int p0] : List Value).toArray s 0 0 (mCells h ad sz)) (F0 m 144 ls []) := by
          intro  σ_81 hF0 H locs hP hS ls hl
          subst ej_82
          have hF_84 := hF0
          clear hF0
          refine lv_iconst (v := 0) hx hb dX12_resolveOn_144 (by decide +kernel) ?_
          exact Jj_45 0 σ_81 hF_84 _ _ hP hS ls (lv_sub hl [0, 1, 2, 3, 4] rfl)
        refine lv_icmp_ne (tgt := 103) hx hb dX12_resolveOn_86 (by decide) (fun c_85 => ?_) (fun c_85 => ?_)
        · have hF_92 := ineg c_85 hF_83
          clear hF_83
          refine lv_aload_n hx hb dX12_resolveOn_103 rfl (lv_at hl 0 rfl) ?_
          refine va_get (D := (dC, dI)) (ci := 12) (v := .ref (ad 19)) (C := RX12) (T := TX12) (N := 123) hx hb hts ii_X12 hown hK hP 0 rfl rfl 19 (by decide) (hts (.fieldLink RX12 55 "StoryHouseModel" "a" "[I") wq_1375) (fun _ h9 => h9) rfl dX12_resolveOn_104 ?_
          refine lv_iload hx hb dX12_resolveOn_107 (lv_at hl 4 rfl) ?_
          obtain ⟨g_93, hF_94⟩ := nif_e hF_92
          clear hF_92
          refine va_iald (f := s_34.2.2.2 19) hx hb hK hP 10 2 rfl rfl g_93 dX12_resolveOn_109 ?_
          refine lv_iconst (v := 2) hx hb dX12_resolveOn_110 (by decide +kernel) ?_
          refine lv_icmp_eq (tgt := 140) hx hb dX12_resolveOn_111 (by decide) (fun c_95 => ?_) (fun c_95 => ?_)
          · have hF_96 := ipos c_95 hF_94
            clear hF_94
            exact Jj_75  s_34.2.2 hF_96 _ _ hP hS ls (lv_sub hl [0, 1, 2, 3, 4] rfl)
          · have hF_97 := ineg c_95 hF_94
            clear hF_94
            refine lv_aload_n hx hb dX12_resolveOn_114 rfl (lv_at hl 0 rfl) ?_
            refine va_get (D := (dC, dI)) (ci := 12) (v := .ref (ad 19)) (C := RX12) (T := TX12) (N := 123) hx hb hts ii_X12 hown hK hP 0 rfl rfl 19 (by decide) (hts (.fieldLink RX12 55 "StoryHouseModel" "a" "[I") wq_1375) (fun _ h9 => h9) rfl dX12_resolveOn_115 ?_
            refine lv_iload hx hb dX12_resolveOn_118 (lv_at hl 4 rfl) ?_
            obtain ⟨g_98, hF_99⟩ := nif_e hF_97
            clear hF_97
            refine va_iald (f := s_34.2.2.2 19) hx hb hK hP 10 2 rfl rfl g_98 dX12_resolveOn_120 ?_
            refine lv_iconst (v := 1) hx hb dX12_resolveOn_121 (by decide +kernel) ?_
            refine lv_icmp_ne (tgt := 144) hx hb dX12_resolveOn_122 (by decide) (fun c_100 => ?_) (fun c_100 => ?_)
            · have hF_109 := ineg c_100 hF_99
              clear hF_99
              exact Jj_82  s_34.2.2 hF_109 _ _ hP hS ls (lv_sub hl [0, 1, 2, 3, 4] rfl)
            · have hF_101 := ipos c_100 hF_99
              clear hF_99
              refine lv_aload_n hx hb dX12_resolveOn_125 rfl (lv_at hl 0 rfl) ?_
              refine lv_aload_n hx hb dX12_resolveOn_126 rfl (lv_at hl 0 rfl) ?_
              refine va_get (D := (dC, dI)) (ci := 12) (v := .ref (ad 20)) (C := RX12) (T := TX12) (N := 123) hx hb hts ii_X12 hown hK hP 0 rfl rfl 20 (by decide) (hts (.fieldLink RX12 58 "StoryHouseModel" "b" "[I") wq_1376) (fun _ h9 => h9) rfl dX12_resolveOn_127 ?_
              refine lv_iload hx hb dX12_resolveOn_130 (lv_at hl 4 rfl) ?_
              obtain ⟨g_102, hF_103⟩ := nif_e hF_101
              clear hF_101
              refine va_iald (f := s_34.2.2.2 20) hx hb hK hP 11 2 rfl rfl g_102 dX12_resolveOn_132 ?_
              refine lv_iconst (v := 2) hx hb dX12_resolveOn_133 (by decide +kernel) ?_
              obtain ⟨u_104, hu_104, hF_105⟩ := Option.bind_eq_some_iff.mp hF_103
              clear hF_103
              refine m_ci hsz hS (va_runV (As := [.int (s_34.2.2.2 20 s_34.2.1.toNatClampNeg), .int 2]) (rest := []) ⟨hx, hb, hml, hown, hts⟩ (m_X12_is l dC dI cB cC cI cJ cZ cP h qK qS ad hDD H.size  (s_34.2.2.2 20 s_34.2.1.toNatClampNeg) 2 s_34.2.2 _ hu_104) (cwV 2 hts (g_gV wq_1681 wq_1682 wq_2172 wq_13 wq_1683) rfl rfl rfl (by decide +kernel) ⟨Nat.le_of_ble_eq_true rfl, Nat.le_of_ble_eq_true rfl⟩) (m_preV g_bl0 hsz hK hP hS hE hKS g_to0) rfl rfl hl.1 rfl (lv_room (Nat.le_of_ble_eq_true rfl)) dX12_resolveOn_134 ⟨Nat.le_of_ble_eq_true rfl, Nat.le_of_ble_eq_true rfl⟩) (fun H locs hP hS => ?_)
              refine lv_if_eq (tgt := 144) hx hb dX12_resolveOn_137 (by decide) (fun c_106 => ?_) (fun c_106 => ?_)
              · have hF_107 := ipos c_106 hF_105
                clear hF_105
                exact Jj_82  u_104.2 hF_107 _ _ hP hS ls (lv_sub hl [0, 1, 2, 3, 4] rfl)
              · have hF_108 := ineg c_106 hF_105
                clear hF_105
                exact Jj_75  u_104.2 hF_108 _ _ hP hS ls (lv_sub hl [0, 1, 2, 3, 4] rfl)
        · have hF_86 := ipos c_85 hF_83
          clear hF_83
          refine lv_aload_n hx hb dX12_resolveOn_89 rfl (lv_at hl 0 rfl) ?_
          refine va_get (D := (dC, dI)) (ci := 12) (v := .ref (ad 19)) (C := RX12) (T := TX12) (N := 123) hx hb hts ii_X12 hown hK hP 0 rfl rfl 19 (by decide) (hts (.fieldLink RX12 55 "StoryHouseModel" "a" "[I") wq_1375) (fun _ h9 => h9) rfl dX12_resolveOn_90 ?_
          refine lv_iload hx hb dX12_resolveOn_93 (lv_at hl 4 rfl) ?_
          obtain ⟨g_87, hF_88⟩ := nif_e hF_86
          clear hF_86
          refine va_iald (f := s_34.2.2.2 19) hx hb hK hP 10 2 rfl rfl g_87 dX12_resolveOn_95 ?_
          refine lv_iconst (v := 3) hx hb dX12_resolveOn_96 (by decide +kernel) ?_
          refine lv_icmp_ne (tgt := 144) hx hb dX12_resolveOn_97 (by decide) (fun c_89 => ?_) (fun c_89 => ?_)
          · have hF_91 := ineg c_89 hF_88
            clear hF_88
            exact Jj_82  s_34.2.2 hF_91 _ _ hP hS ls (lv_sub hl [0, 1, 2, 3, 4] rfl)
          · have hF_90 := ipos c_89 hF_88
            clear hF_88
            refine lv_goto (tgt := 140) hx hb dX12_resolveOn_100 (by decide) ?_
            exact Jj_75  s_34.2.2 hF_90 _ _ hP hS ls (lv_sub hl [0, 1, 2, 3, 4] rfl)
  · have hF_12 := ipos c_11 hF_10
    clear hF_10
    refine lv_aload_n hx hb dX12_resolveOn_21 rfl (lv_at hl 1 rfl) ?_
    refine lv_aload_n hx hb dX12_resolveOn_22 rfl (lv_at hl 1 rfl) ?_
    refine va_get (D := (dC, dI)) (ci := 12) (v := .ref (ad 18)) (C := RX12) (T := TX12) (N := 123) hx hb hts ii_X12 hown hK hP 0 rfl rfl 18 (by decide) (hts (.fieldLink RX12 52 "StoryHouseModel" "where" "[I") wq_1374) (fun _ h9 => h9) rfl dX12_resolveOn_23 ?_
    refine lv_aload_n hx hb dX12_resolveOn_26 rfl (lv_at hl 1 rfl) ?_
    refine va_get (D := (dC, dI)) (ci := 12) (v := .ref (ad 19)) (C := RX12) (T := TX12) (N := 123) hx hb hts ii_X12 hown hK hP 0 rfl rfl 19 (by decide) (hts (.fieldLink RX12 55 "StoryHouseModel" "a" "[I") wq_1375) (fun _ h9 => h9) rfl dX12_resolveOn_27 ?_
    refine lv_iload_n hx hb dX12_resolveOn_30 rfl (lv_at hl 2 rfl) ?_
    obtain ⟨g_13, hF_14⟩ := nif_e hF_12
    clear hF_12
    refine va_iald (f := u_9.2.2 19) hx hb hK hP 10 2 rfl rfl g_13 dX12_resolveOn_31 ?_
    obtain ⟨x_15, ex_15, hF_16⟩ := bnd_e hF_14
    clear hF_14
    refine m_top ex_15 ?_
    obtain ⟨g_17, hF_18⟩ := nif_e hF_16
    clear hF_16
    refine va_iald (f := u_9.2.2 18) hx hb hK hP 9 2 rfl rfl g_17 dX12_resolveOn_32 ?_
    obtain ⟨u_19, hu_19, hF_20⟩ := Option.bind_eq_some_iff.mp hF_18
    clear hF_18
    refine m_cv hsz hS (va_runV (As := [.int (u_9.2.2 18 x_15.toNatClampNeg)]) (rest := []) ⟨hx, hb, hml, hown, hts⟩ (m_X12_wrong l dC dI cB cC cI cJ cZ cP h qK qS ad hDD H.size  (u_9.2.2 18 x_15.toNatClampNeg) u_9.2 _ hu_19) (cwV 1 hts (g_gV wq_1684 wq_1685 wq_2173 wq_13 wq_1686) rfl rfl rfl (by decide +kernel) ⟨Nat.le_of_ble_eq_true rfl, Nat.le_of_ble_eq_true rfl⟩) (m_preV g_bl0 hsz hK hP hS hE hKS g_to0) rfl rfl hl.1 rfl (lv_room (Nat.le_of_ble_eq_true rfl)) dX12_resolveOn_33 ⟨Nat.le_of_ble_eq_true rfl, Nat.le_of_ble_eq_true rfl⟩) (fun H locs hP hS => ?_)
    have h9 := Option.some.inj hF_20
    subst h9
    exact W.vret hx hb hr (fun t ht hW => ⟨⟨(), rfl, trivial, m_end ht hP⟩, hS.F ht⟩) hS.2.2 dX12_resolveOn_36
theorem dX12_resolve_0 : decode cX12_resolve 0 = .ok (.aload_n 0, 1) := by decide +kernel
theorem dX12_resolve_1 : decode cX12_resolve 1 = .ok (.getfield 352, 3) := by decide +kernel
theorem dX12_resolve_4 : decode cX12_resolve 4 = .ok (.istore_n 1, 1) := by decide +kernel
theorem dX12_resolve_5 : decode cX12_resolve 5 = .ok (.iload_n 1, 1) := by decide +kernel
theorem dX12_resolve_6 : decode cX12_resolve 6 = .ok (.ifCond .lt 251, 3) := by decide +kernel
theorem dX12_resolve_9 : decode cX12_resolve 9 = .ok (.aload_n 0, 1) := by decide +kernel
theorem dX12_resolve_10 : decode cX12_resolve 10 = .ok (.getfield 49, 3) := by decide +kernel
theorem dX12_resolve_13 : decode cX12_resolve 13 = .ok (.iload_n 1, 1) := by decide +kernel
theorem dX12_resolve_14 : decode cX12_resolve 14 = .ok (.iaload, 1) := by decide +kernel
theorem dX12_resolve_15 : decode cX12_resolve 15 = .ok (.istore_n 2, 1) := by decide +kernel
theorem dX12_resolve_16 : decode cX12_resolve 16 = .ok (.iload_n 2, 1) := by decide +kernel
theorem dX12_resolve_17 : decode cX12_resolve 17 = .ok (.iconst 1, 1) := by decide +kernel
theorem dX12_resolve_18 : decode cX12_resolve 18 = .ok (.if_icmp .eq 8, 3) := by decide +kernel
theorem dX12_resolve_21 : decode cX12_resolve 21 = .ok (.iload_n 2, 1) := by decide +kernel
theorem dX12_resolve_22 : decode cX12_resolve 22 = .ok (.iconst 2, 1) := by decide +kernel
theorem dX12_resolve_23 : decode cX12_resolve 23 = .ok (.if_icmp .ne 127, 3) := by decide +kernel
theorem dX12_resolve_26 : decode cX12_resolve 26 = .ok (.aload_n 0, 1) := by decide +kernel
theorem dX12_resolve_27 : decode cX12_resolve 27 = .ok (.getfield 58, 3) := by decide +kernel
theorem dX12_resolve_30 : decode cX12_resolve 30 = .ok (.iload_n 1, 1) := by decide +kernel
theorem dX12_resolve_31 : decode cX12_resolve 31 = .ok (.iaload, 1) := by decide +kernel
theorem dX12_resolve_32 : decode cX12_resolve 32 = .ok (.istore_n 3, 1) := by decide +kernel
theorem dX12_resolve_33 : decode cX12_resolve 33 = .ok (.iload_n 3, 1) := by decide +kernel
theorem dX12_resolve_34 : decode cX12_resolve 34 = .ok (.ifCond .lt 116, 3) := by decide +kernel
theorem dX12_resolve_37 : decode cX12_resolve 37 = .ok (.aload_n 0, 1) := by decide +kernel
theorem dX12_resolve_38 : decode cX12_resolve 38 = .ok (.getfield 49, 3) := by decide +kernel
theorem dX12_resolve_41 : decode cX12_resolve 41 = .ok (.iload_n 3, 1) := by decide +kernel
theorem dX12_resolve_42 : decode cX12_resolve 42 = .ok (.iaload, 1) := by decide +kernel
theorem dX12_resolve_43 : decode cX12_resolve 43 = .ok (.bipush 12, 2) := by decide +kernel
theorem dX12_resolve_45 : decode cX12_resolve 45 = .ok (.if_icmp .ne 22, 3) := by decide +kernel
theorem dX12_resolve_48 : decode cX12_resolve 48 = .ok (.aload_n 0, 1) := by decide +kernel
theorem dX12_resolve_49 : decode cX12_resolve 49 = .ok (.aload_n 0, 1) := by decide +kernel
theorem dX12_resolve_50 : decode cX12_resolve 50 = .ok (.getfield 55, 3) := by decide +kernel
theorem dX12_resolve_53 : decode cX12_resolve 53 = .ok (.aload_n 0, 1) := by decide +kernel
theorem dX12_resolve_54 : decode cX12_resolve 54 = .ok (.getfield 55, 3) := by decide +kernel
theorem dX12_resolve_57 : decode cX12_resolve 57 = .ok (.iload_n 3, 1) := by decide +kernel
theorem dX12_resolve_58 : decode cX12_resolve 58 = .ok (.iaload, 1) := by decide +kernel
theorem dX12_resolve_59 : decode cX12_resolve 59 = .ok (.iaload, 1) := by decide +kernel
theorem dX12_resolve_60 : decode cX12_resolve 60 = .ok (.iconst 1, 1) := by decide +kernel
theorem dX12_resolve_61 : decode cX12_resolve 61 = .ok (.invokevirtual 521, 3) := by decide +kernel
theorem dX12_resolve_64 : decode cX12_resolve 64 = .ok (.ifCond .eq 61, 3) := by decide +kernel
theorem dX12_resolve_67 : decode cX12_resolve 67 = .ok (.aload_n 0, 1) := by decide +kernel
theorem dX12_resolve_68 : decode cX12_resolve 68 = .ok (.getfield 49, 3) := by decide +kernel
theorem dX12_resolve_71 : decode cX12_resolve 71 = .ok (.iload_n 3, 1) := by decide +kernel
theorem dX12_resolve_72 : decode cX12_resolve 72 = .ok (.iaload, 1) := by decide +kernel
theorem dX12_resolve_73 : decode cX12_resolve 73 = .ok (.bipush 13, 2) := by decide +kernel
theorem dX12_resolve_75 : decode cX12_resolve 75 = .ok (.if_icmp .ne 65, 3) := by decide +kernel
theorem dX12_resolve_78 : decode cX12_resolve 78 = .ok (.aload_n 0, 1) := by decide +kernel
theorem dX12_resolve_79 : decode cX12_resolve 79 = .ok (.getfield 55, 3) := by decide +kernel
theorem dX12_resolve_82 : decode cX12_resolve 82 = .ok (.iload_n 3, 1) := by decide +kernel
theorem dX12_resolve_83 : decode cX12_resolve 83 = .ok (.iaload, 1) := by decide +kernel
theorem dX12_resolve_84 : decode cX12_resolve 84 = .ok (.ifCond .lt 56, 3) := by decide +kernel
theorem dX12_resolve_87 : decode cX12_resolve 87 = .ok (.aload_n 0, 1) := by decide +kernel
theorem dX12_resolve_88 : decode cX12_resolve 88 = .ok (.aload_n 0, 1) := by decide +kernel
theorem dX12_resolve_89 : decode cX12_resolve 89 = .ok (.getfield 55, 3) := by decide +kernel
theorem dX12_resolve_92 : decode cX12_resolve 92 = .ok (.aload_n 0, 1) := by decide +kernel
theorem dX12_resolve_93 : decode cX12_resolve 93 = .ok (.getfield 55, 3) := by decide +kernel
theorem dX12_resolve_96 : decode cX12_resolve 96 = .ok (.iload_n 3, 1) := by decide +kernel
theorem dX12_resolve_97 : decode cX12_resolve 97 = .ok (.iaload, 1) := by decide +kernel
theorem dX12_resolve_98 : decode cX12_resolve 98 = .ok (.iaload, 1) := by decide +kernel
theorem dX12_resolve_99 : decode cX12_resolve 99 = .ok (.iconst 1, 1) := by decide +kernel
theorem dX12_resolve_100 : decode cX12_resolve 100 = .ok (.invokevirtual 521, 3) := by decide +kernel
theorem dX12_resolve_103 : decode cX12_resolve 103 = .ok (.ifCond .ne 37, 3) := by decide +kernel
theorem dX12_resolve_106 : decode cX12_resolve 106 = .ok (.aload_n 0, 1) := by decide +kernel
theorem dX12_resolve_107 : decode cX12_resolve 107 = .ok (.aload_n 0, 1) := by decide +kernel
theorem dX12_resolve_108 : decode cX12_resolve 108 = .ok (.getfield 55, 3) := by decide +kernel
theorem dX12_resolve_111 : decode cX12_resolve 111 = .ok (.aload_n 0, 1) := by decide +kernel
theorem dX12_resolve_112 : decode cX12_resolve 112 = .ok (.getfield 55, 3) := by decide +kernel
theorem dX12_resolve_115 : decode cX12_resolve 115 = .ok (.iload_n 3, 1) := by decide +kernel
theorem dX12_resolve_116 : decode cX12_resolve 116 = .ok (.iaload, 1) := by decide +kernel
theorem dX12_resolve_117 : decode cX12_resolve 117 = .ok (.iaload, 1) := by decide +kernel
theorem dX12_resolve_118 : decode cX12_resolve 118 = .ok (.iconst 2, 1) := by decide +kernel
theorem dX12_resolve_119 : decode cX12_resolve 119 = .ok (.invokevirtual 521, 3) := by decide +kernel
theorem dX12_resolve_122 : decode cX12_resolve 122 = .ok (.ifCond .ne 18, 3) := by decide +kernel
theorem dX12_resolve_125 : decode cX12_resolve 125 = .ok (.aload_n 0, 1) := by decide +kernel
theorem dX12_resolve_126 : decode cX12_resolve 126 = .ok (.aload_n 0, 1) := by decide +kernel
theorem dX12_resolve_127 : decode cX12_resolve 127 = .ok (.getfield 52, 3) := by decide +kernel
theorem dX12_resolve_130 : decode cX12_resolve 130 = .ok (.aload_n 0, 1) := by decide +kernel
theorem dX12_resolve_131 : decode cX12_resolve 131 = .ok (.getfield 55, 3) := by decide +kernel
theorem dX12_resolve_134 : decode cX12_resolve 134 = .ok (.iload_n 3, 1) := by decide +kernel
theorem dX12_resolve_135 : decode cX12_resolve 135 = .ok (.iaload, 1) := by decide +kernel
theorem dX12_resolve_136 : decode cX12_resolve 136 = .ok (.iaload, 1) := by decide +kernel
theorem dX12_resolve_137 : decode cX12_resolve 137 = .ok (.invokevirtual 525, 3) := by decide +kernel
theorem dX12_resolve_140 : decode cX12_resolve 140 = .ok (.aload_n 0, 1) := by decide +kernel
theorem dX12_resolve_141 : decode cX12_resolve 141 = .ok (.getfield 64, 3) := by decide +kernel
theorem dX12_resolve_144 : decode cX12_resolve 144 = .ok (.iload_n 3, 1) := by decide +kernel
theorem dX12_resolve_145 : decode cX12_resolve 145 = .ok (.iaload, 1) := by decide +kernel
theorem dX12_resolve_146 : decode cX12_resolve 146 = .ok (.istore_n 3, 1) := by decide +kernel
theorem dX12_resolve_147 : decode cX12_resolve 147 = .ok (.goto (-114), 3) := by decide +kernel
theorem dX12_resolve_150 : decode cX12_resolve 150 = .ok (.iload_n 2, 1) := by decide +kernel
theorem dX12_resolve_151 : decode cX12_resolve 151 = .ok (.bipush 7, 2) := by decide +kernel
theorem dX12_resolve_153 : decode cX12_resolve 153 = .ok (.if_icmp .ne 8, 3) := by decide +kernel
theorem dX12_resolve_156 : decode cX12_resolve 156 = .ok (.aload_n 0, 1) := by decide +kernel
theorem dX12_resolve_157 : decode cX12_resolve 157 = .ok (.iload_n 1, 1) := by decide +kernel
theorem dX12_resolve_158 : decode cX12_resolve 158 = .ok (.invokevirtual 528, 3) := by decide +kernel
theorem dX12_resolve_161 : decode cX12_resolve 161 = .ok (.iload_n 2, 1) := by decide +kernel
theorem dX12_resolve_162 : decode cX12_resolve 162 = .ok (.bipush 6, 2) := by decide +kernel
theorem dX12_resolve_164 : decode cX12_resolve 164 = .ok (.if_icmp .ge 6, 3) := by decide +kernel
theorem dX12_resolve_167 : decode cX12_resolve 167 = .ok (.goto 80, 3) := by decide +kernel
theorem dX12_resolve_170 : decode cX12_resolve 170 = .ok (.aload_n 0, 1) := by decide +kernel
theorem dX12_resolve_171 : decode cX12_resolve 171 = .ok (.iload_n 2, 1) := by decide +kernel
theorem dX12_resolve_172 : decode cX12_resolve 172 = .ok (.bipush 6, 2) := by decide +kernel
theorem dX12_resolve_174 : decode cX12_resolve 174 = .ok (.if_icmp .ne 7, 3) := by decide +kernel
theorem dX12_resolve_177 : decode cX12_resolve 177 = .ok (.iconst 1, 1) := by decide +kernel
theorem dX12_resolve_178 : decode cX12_resolve 178 = .ok (.goto 4, 3) := by decide +kernel
theorem dX12_resolve_181 : decode cX12_resolve 181 = .ok (.iconst 0, 1) := by decide +kernel
theorem dX12_resolve_182 : decode cX12_resolve 182 = .ok (.putfield 531, 3) := by decide +kernel
theorem dX12_resolve_185 : decode cX12_resolve 185 = .ok (.aload_n 0, 1) := by decide +kernel
theorem dX12_resolve_186 : decode cX12_resolve 186 = .ok (.iconst 0, 1) := by decide +kernel
theorem dX12_resolve_187 : decode cX12_resolve 187 = .ok (.putfield 506, 3) := by decide +kernel
theorem dX12_resolve_190 : decode cX12_resolve 190 = .ok (.aload_n 0, 1) := by decide +kernel
theorem dX12_resolve_191 : decode cX12_resolve 191 = .ok (.iconst 0, 1) := by decide +kernel
theorem dX12_resolve_192 : decode cX12_resolve 192 = .ok (.putfield 509, 3) := by decide +kernel
theorem dX12_resolve_195 : decode cX12_resolve 195 = .ok (.aload_n 0, 1) := by decide +kernel
theorem dX12_resolve_196 : decode cX12_resolve 196 = .ok (.getfield 531, 3) := by decide +kernel
theorem dX12_resolve_199 : decode cX12_resolve 199 = .ok (.ifCond .eq 12, 3) := by decide +kernel
theorem dX12_resolve_202 : decode cX12_resolve 202 = .ok (.aload_n 0, 1) := by decide +kernel
theorem dX12_resolve_203 : decode cX12_resolve 203 = .ok (.getfield 58, 3) := by decide +kernel
theorem dX12_resolve_206 : decode cX12_resolve 206 = .ok (.iload_n 1, 1) := by decide +kernel
theorem dX12_resolve_207 : decode cX12_resolve 207 = .ok (.iaload, 1) := by decide +kernel
theorem dX12_resolve_208 : decode cX12_resolve 208 = .ok (.goto 4, 3) := by decide +kernel
theorem dX12_resolve_211 : decode cX12_resolve 211 = .ok (.iconst (-1), 1) := by decide +kernel
theorem dX12_resolve_212 : decode cX12_resolve 212 = .ok (.istore_n 3, 1) := by decide +kernel
theorem dX12_resolve_213 : decode cX12_resolve 213 = .ok (.iload_n 3, 1) := by decide +kernel
theorem dX12_resolve_214 : decode cX12_resolve 214 = .ok (.ifCond .lt 18, 3) := by decide +kernel
theorem dX12_resolve_217 : decode cX12_resolve 217 = .ok (.aload_n 0, 1) := by decide +kernel
theorem dX12_resolve_218 : decode cX12_resolve 218 = .ok (.iload_n 3, 1) := by decide +kernel
theorem dX12_resolve_219 : decode cX12_resolve 219 = .ok (.invokevirtual 534, 3) := by decide +kernel
theorem dX12_resolve_222 : decode cX12_resolve 222 = .ok (.aload_n 0, 1) := by decide +kernel
theorem dX12_resolve_223 : decode cX12_resolve 223 = .ok (.getfield 64, 3) := by decide +kernel
theorem dX12_resolve_226 : decode cX12_resolve 226 = .ok (.iload_n 3, 1) := by decide +kernel
theorem dX12_resolve_227 : decode cX12_resolve 227 = .ok (.iaload, 1) := by decide +kernel
theorem dX12_resolve_228 : decode cX12_resolve 228 = .ok (.istore_n 3, 1) := by decide +kernel
theorem dX12_resolve_229 : decode cX12_resolve 229 = .ok (.goto (-16), 3) := by decide +kernel
theorem dX12_resolve_232 : decode cX12_resolve 232 = .ok (.aload_n 0, 1) := by decide +kernel
theorem dX12_resolve_233 : decode cX12_resolve 233 = .ok (.aload_n 0, 1) := by decide +kernel
theorem dX12_resolve_234 : decode cX12_resolve 234 = .ok (.getfield 55, 3) := by decide +kernel
theorem dX12_resolve_237 : decode cX12_resolve 237 = .ok (.aload_n 0, 1) := by decide +kernel
theorem dX12_resolve_238 : decode cX12_resolve 238 = .ok (.getfield 61, 3) := by decide +kernel
theorem dX12_resolve_241 : decode cX12_resolve 241 = .ok (.iload_n 1, 1) := by decide +kernel
theorem dX12_resolve_242 : decode cX12_resolve 242 = .ok (.iaload, 1) := by decide +kernel
theorem dX12_resolve_243 : decode cX12_resolve 243 = .ok (.iaload, 1) := by decide +kernel
theorem dX12_resolve_244 : decode cX12_resolve 244 = .ok (.invokevirtual 537, 3) := by decide +kernel
theorem dX12_resolve_247 : decode cX12_resolve 247 = .ok (.aload_n 0, 1) := by decide +kernel
theorem dX12_resolve_248 : decode cX12_resolve 248 = .ok (.getfield 64, 3) := by decide +kernel
theorem dX12_resolve_251 : decode cX12_resolve 251 = .ok (.iload_n 1, 1) := by decide +kernel
theorem dX12_resolve_252 : decode cX12_resolve 252 = .ok (.iaload, 1) := by decide +kernel
theorem dX12_resolve_253 : decode cX12_resolve 253 = .ok (.istore_n 1, 1) := by decide +kernel
theorem dX12_resolve_254 : decode cX12_resolve 254 = .ok (.goto (-249), 3) := by decide +kernel
theorem dX12_resolve_257 : decode cX12_resolve 257 = .ok (.return_, 1) := by decide +kernel
def F_X12_resolve  (σ : MS) : MR :=
  loopF (fun (again_2 : (Int32 × MS) → MR) (s_1 : Int32 × MS) => (
    if s_1.1 < 0 then (
      some (0, s_1.2)
    ) else (
      if s_1.1 < 0 ∨ 40000 ≤ s_1.1.toNatClampNeg then none else
      bnd ((s_1.2.2 17 s_1.1.toNatClampNeg)) fun (x_10 : Int32) =>
      bnd (fun  (σ_12 : MS) => (
        bnd (fun  (σ_16 : MS) => (
          bnd (fun  (σ_20 : MS) => (
            if s_1.1 < 0 ∨ 40000 ≤ s_1.1.toNatClampNeg then none else
            bnd ((σ_20.2 22 s_1.1.toNatClampNeg)) fun (x_26 : Int32) =>
            again_2 (x_26, σ_20)
          ) : MS → MR) fun j_21 =>
          if 6 ≤ x_10 then (
            bnd (fun (t_30 : Int32) (σ_31 : MS) => (
              if ¬ (t_30 = 0 ∨ t_30 = 1) then none else
              bnd (mI σ_31 43 t_30) fun σ_37 =>
              bnd (mI σ_37 33 0) fun σ_39 =>
              bnd (mI σ_39 34 0) fun σ_41 =>
              bnd (fun (t_43 : Int32) (σ_44 : MS) => (
                loopF (fun (again_49 : (Int32 × MS) → MR) (s_48 : Int32 × MS) => (
                  if s_48.1 < 0 then (
                    if s_1.1 < 0 ∨ 40000 ≤ s_1.1.toNatClampNeg then none else
                    bnd ((s_48.2.2 21 s_1.1.toNatClampNeg)) fun (x_56 : Int32) =>
                    if x_56 < 0 ∨ 40000 ≤ x_56.toNatClampNeg then none else
                    (G_X12_meanBlock (s_48.2.2 19 x_56.toNatClampNeg) s_48.2).bind fun u_60 =>
                    j_21  u_60.2
                  ) else (
                    (F_X12_see s_48.1 s_48.2).bind fun u_63 =>
                    if s_48.1 < 0 ∨ 40000 ≤ s_48.1.toNatClampNeg then none else
                    bnd ((u_63.2.2 22 s_48.1.toNatClampNeg)) fun (x_67 : Int32) =>
                    again_49 (x_67, u_63.2)
                  )
                )) FU (t_43, σ_44)
              ) : Int32 → MS → MR) fun j_45 =>
              if (σ_41.1 43) = 0 then (
                j_45 (-1) σ_41
              ) else (
                if s_1.1 < 0 ∨ 40000 ≤ s_1.1.toNatClampNeg then none else
                j_45 (σ_41.2 20 s_1.1.toNatClampNeg) σ_41
              )
            ) : Int32 → MS → MR) fun j_32 =>
            if x_10 = 6 then (
              j_32 1 σ_16
            ) else (
              j_32 0 σ_16
            )
          ) else (
            j_21  σ_16
          )
        ) : MS → MR) fun j_17 =>
        if x_10 = 7 then (
          (F_X12_resolveOn s_1.1 σ_12).bind fun u_80 =>
          j_17  u_80.2
        ) else (
          j_17  σ_12
        )
      ) : MS → MR) fun j_13 =>
      bnd (fun  (σ_83 : MS) => (
        if s_1.1 < 0 ∨ 40000 ≤ s_1.1.toNatClampNeg then none else
        bnd ((σ_83.2 20 s_1.1.toNatClampNeg)) fun (x_89 : Int32) =>
        loopF (fun (again_92 : (Int32 × MS) → MR) (s_91 : Int32 × MS) => (
          if s_91.1 < 0 then (
            j_13  s_91.2
          ) else (
            if s_91.1 < 0 ∨ 40000 ≤ s_91.1.toNatClampNeg then none else
            bnd (fun  (σ_100 : MS) => (
              if s_91.1 < 0 ∨ 40000 ≤ s_91.1.toNatClampNeg then none else
              bnd ((σ_100.2 22 s_91.1.toNatClampNeg)) fun (x_106 : Int32) =>
              again_92 (x_106, σ_100)
            ) : MS → MR) fun j_101 =>
            bnd (fun  (σ_108 : MS) => (
              if s_91.1 < 0 ∨ 40000 ≤ s_91.1.toNatClampNeg then none else
              bnd ((σ_108.2 19 s_91.1.toNatClampNeg)) fun (x_114 : Int32) =>
              if x_114 < 0 ∨ 40000 ≤ x_114.toNatClampNeg then none else
              (F_X12_wrong (σ_108.2 18 x_114.toNatClampNeg) σ_108).bind fun u_118 =>
              j_101  u_118.2
            ) : MS → MR) fun j_109 =>
            bnd (fun  (σ_120 : MS) => (
              if s_91.1 < 0 ∨ 40000 ≤ s_91.1.toNatClampNeg then none else
              if (σ_120.2 17 s_91.1.toNatClampNeg) = 13 then (
                if s_91.1 < 0 ∨ 40000 ≤ s_91.1.toNatClampNeg then none else
                if (σ_120.2 19 s_91.1.toNatClampNeg) < 0 then (
                  j_101  σ_120
                ) else (
                  if s_91.1 < 0 ∨ 40000 ≤ s_91.1.toNatClampNeg then none else
                  bnd ((σ_120.2 19 s_91.1.toNatClampNeg)) fun (x_135 : Int32) =>
                  if x_135 < 0 ∨ 40000 ≤ x_135.toNatClampNeg then none else
                  (F_X12_is (σ_120.2 19 x_135.toNatClampNeg) 1 σ_120).bind fun u_139 =>
                  if u_139.1 = 0 then (
                    if s_91.1 < 0 ∨ 40000 ≤ s_91.1.toNatClampNeg then none else
                    bnd ((u_139.2.2 19 s_91.1.toNatClampNeg)) fun (x_145 : Int32) =>
                    if x_145 < 0 ∨ 40000 ≤ x_145.toNatClampNeg then none else
                    (F_X12_is (u_139.2.2 19 x_145.toNatClampNeg) 2 u_139.2).bind fun u_149 =>
                    if u_149.1 = 0 then (
                      j_109  u_149.2
                    ) else (
                      j_101  u_149.2
                    )
                  ) else (
                    j_101  u_139.2
                  )
                )
              ) else (
                j_101  σ_120
              )
            ) : MS → MR) fun j_121 =>
            if (s_91.2.2 17 s_91.1.toNatClampNeg) = 12 then (
              if s_91.1 < 0 ∨ 40000 ≤ s_91.1.toNatClampNeg then none else
              bnd ((s_91.2.2 19 s_91.1.toNatClampNeg)) fun (x_160 : Int32) =>
              if x_160 < 0 ∨ 40000 ≤ x_160.toNatClampNeg then none else
              (F_X12_is (s_91.2.2 19 x_160.toNatClampNeg) 1 s_91.2).bind fun u_164 =>
              if u_164.1 = 0 then (
                j_109  u_164.2
              ) else (
                j_121  u_164.2
              )
            ) else (
              j_121  s_91.2
            )
          )
        )) FU (x_89, σ_83)
      ) : MS → MR) fun j_84 =>
      if x_10 = 1 then (
        j_84  s_1.2
      ) else (
        if x_10 = 2 then (
          j_84  s_1.2
        ) else (
          j_13  s_1.2
        )
      )
    )
  )) FU ((σ.1 24), σ)
set_option maxHeartbeats 4000000 in
set_option maxRecDepth 100000 in
theorem m_X12_resolve (l : Launch) (dC : Nat → ClassId) (dI : Nat → Nat → Nat) (cB cC cI cJ cZ cP : ClassId) (h qK qS : Nat) (ad : Nat → Nat) (hDD : mDis cB cI cZ h qK qS ad) (sz : Nat)   (σ : MS) (res : Int32 × MS) (hF : F_X12_resolve  σ = some res) : Met l yX12_resolve (g_ws yX12_resolve cX12_resolve 4 none) ({ frames := 1475, cells := 0, slots := 0, locals := 38145 }) (va_Pc [.ref h] (m_B (dC, dI) [(cB, .byte), (cC, .char), (cI, .int), (cJ, .long), (cZ, .boolean), (cP, .object "StoryHouse$Play")] sz h ad qK qS (mW cB cI cZ h qK qS ad σ) g_0)) (va_Qv (fun (_ : Unit) => True) (fun _ t => va_P (dC, dI) vwCl (mW cB cI cZ h qK qS ad res.2) t.heap) (mCells h ad sz)) 0 0 (mCells h ad sz) := by
  refine Met.ofW (cc := cX12_resolve) (maxL := 4) (ret := none) (by decide) rfl ?_
  intro p e s m args below meth c s₁ B hml hv
  obtain ⟨rfl, hsz, hP, hK, hE, hKS, hX⟩ := hv
  have hx := B.exec
  have hb := B.bytes
  have hr := B.returns
  have hts0 := atoms_spec (ws := g_ws yX12_resolve cX12_resolve 4 none) B.pre
  have hts : ∀ w ∈ lw_good, w.before ([.ref h] : List Value).toArray s = true := fun w z => hts0 w (List.mem_cons_of_mem _ z)
  have hown : s.vm.findClass RX12 = some m.cls := findClass_of_methodNamed B.named
  have hlocks := B.notSynchronized
  have hS : va_S (mCells h ad sz) s.heap s.heap [] := va_S.rf
  have hl := lv_entry ([.ref h]) (n := 4) (Nat.le_of_ble_eq_true rfl)
  rw [lg_entry_eq]
  generalize (lg_sl ([.ref h]) ++ List.replicate (4 - (lg_sl ([.ref h])).length) Slot.unset).toArray = ls at hl ⊢
  have hl : lv_has ls 4 [(0, .ref h)] := hl
  unfold F_X12_resolve at hF
  refine lv_aload_n hx hb dX12_resolve_0 rfl (lv_at hl 0 rfl) ?_
  refine va_get (D := (dC, dI)) (ci := 12) (v := .int (σ.1 24)) (C := RX12) (T := TX12) (N := 123) hx hb hts ii_X12 hown hK hP 0 rfl rfl 24 (by decide) (hts (.fieldLink RX12 352 "StoryHouseModel" "items" "I") wq_1380) (fun _ h9 => h9) rfl dX12_resolve_1 ?_
  refine lv_istore_n (lv' := [(1, .int (σ.1 24)), (0, .ref h)]) hx hb dX12_resolve_4 rfl hl (by decide) rfl (fun ls hl => ?_)
  refine loopF_ind (P := fun (s_1 : Int32 × MS) => ∀ (H : Heap) (locs : List Loc), va_P (dC, dI) vwCl (mW cB cI cZ h qK qS ad s_1.2) H → va_S (mCells h ad sz) s.heap H locs → ∀ ls : Array Slot, lv_has ls 4 [(0, .ref h), (1, .int s_1.1)] → W p l e (headSpec (g_ws yX12_resolve cX12_resolve 4 none) { frames := 1475, cells := 0, slots := 0, locals := 38145 }).room s m ([.ref h] : List Value).toArray below meth c H locs 0 0 (MQ below (va_Qv (fun (_ : Unit) => True) (fun _ t => va_P (dC, dI) vwCl (mW cB cI cZ h qK qS ad res.2) t.heap) (mCells h ad sz)) ([.ref h] : List Value).toArray s 0 0 (mCells h ad sz)) (F0 m 5 ls [])) ?_ _ _ hF _ _ hP hS ls (lv_sub hl [1, 0] rfl)
  intro again_2 s_1 ih_3 hF_4
  intro H locs hP hS ls hl
  refine lv_iload_n hx hb dX12_resolve_5 rfl (lv_at hl 1 rfl) ?_
  refine lv_if_lt (tgt := 257) hx hb dX12_resolve_6 (by decide) (fun c_5 => ?_) (fun c_5 => ?_)
  · have hF_6 := ipos c_5 hF_4
    clear hF_4
    have h9 := Option.some.inj hF_6
    subst h9
    exact W.vret hx hb hr (fun t ht hW => ⟨⟨(), rfl, trivial, m_end ht hP⟩, hS.F ht⟩) hS.2.2 dX12_resolve_257
  · have hF_7 := ineg c_5 hF_4
    clear hF_4
    refine lv_aload_n hx hb dX12_resolve_9 rfl (lv_at hl 0 rfl) ?_
    refine va_get (D := (dC, dI)) (ci := 12) (v := .ref (ad 17)) (C := RX12) (T := TX12) (N := 123) hx hb hts ii_X12 hown hK hP 0 rfl rfl 17 (by decide) (hts (.fieldLink RX12 49 "StoryHouseModel" "what" "[I") wq_1373) (fun _ h9 => h9) rfl dX12_resolve_10 ?_
    refine lv_iload_n hx hb dX12_resolve_13 rfl (lv_at hl 1 rfl) ?_
    obtain ⟨g_8, hF_9⟩ := nif_e hF_7
    clear hF_7
    refine va_iald (f := s_1.2.2 17) hx hb hK hP 8 2 rfl rfl g_8 dX12_resolve_14 ?_
    obtain ⟨x_10, ex_10, hF_11⟩ := bnd_e hF_9
    clear hF_9
    refine m_top ex_10 ?_
    refine lv_istore_n (lv' := [(2, .int x_10), (0, .ref h), (1, .int s_1.1)]) hx hb dX12_resolve_15 rfl hl (by decide) rfl (fun ls hl => ?_)
    refine lv_iload_n hx hb dX12_resolve_16 rfl (lv_at hl 0 rfl) ?_
    refine lv_iconst (v := 1) hx hb dX12_resolve_17 (by decide +kernel) ?_
    obtain ⟨j_13, ej_13, hF_14⟩ := bnd_e hF_11
    clear hF_11
    have Jj_13 : ∀  (σ_12 : MS), j_13  σ_12 = some res → ∀ (H : Heap) (locs : List Loc), va_P (dC, dI) vwCl (mW cB cI cZ h qK qS ad σ_12) H → va_S (mCells h ad sz) s.heap H locs → ∀ ls : Array Slot, lv_has ls 4 [(0, .ref h), (1, .int s_1.1), (2, .int x_10)] → W p l e (headSpec (g_ws yX12_resolve cX12_resolve 4 none) { frames := 1475, cells := 0, slots := 0, locals := 38145 }).room s m ([.ref h] : List Value).toArray below meth c H locs 0 0 (MQ below (va_Qv (fun (_ : Unit) => True) (fun _ t => va_P (dC, dI) vwCl (mW cB cI cZ h qK qS ad res.2) t.heap) (mCells h ad sz)) ([.ref h] : List Value).toArray s 0 0 (mCells h ad sz)) (F0 m 150 ls []) := by
      intro  σ_12 hF0 H locs hP hS ls hl
      subst ej_13
      have hF_15 := hF0
      clear hF0
      refine lv_iload_n hx hb dX12_resolve_150 rfl (lv_at hl 2 rfl) ?_
      refine lv_bipush (v := 7) hx hb dX12_resolve_151 (by decide +kernel) ?_
      obtain ⟨j_17, ej_17, hF_18⟩ := bnd_e hF_15
      clear hF_15
      have Jj_17 : ∀  (σ_16 : MS), j_17  σ_16 = some res → ∀ (H : Heap) (locs : List Loc), va_P (dC, dI) vwCl (mW cB cI cZ h qK qS ad σ_16) H → va_S (mCells h ad sz) s.heap H locs → ∀ ls : Array Slot, lv_has ls 4 [(0, .ref h), (1, .int s_1.1), (2, .int x_10)] → W p l e (headSpec (g_ws yX12_resolve cX12_resolve 4 none) { frames := 1475, cells := 0, slots := 0, locals := 38145 }).room s m ([.ref h] : List Value).toArray below meth c H locs 0 0 (MQ below (va_Qv (fun (_ : Unit) => True) (fun _ t => va_P (dC, dI) vwCl (mW cB cI cZ h qK qS ad res.2) t.heap) (mCells h ad sz)) ([.ref h] : List Value).toArray s 0 0 (mCells h ad sz)) (F0 m 161 ls []) := by
        intro  σ_16 hF0 H locs hP hS ls hl
        subst ej_17
        have hF_19 := hF0
        clear hF0
        refine lv_iload_n hx hb dX12_resolve_161 rfl (lv_at hl 2 rfl) ?_
        refine lv_bipush (v := 6) hx hb dX12_resolve_162 (by decide +kernel) ?_
        obtain ⟨j_21, ej_21, hF_22⟩ := bnd_e hF_19
        clear hF_19
        have Jj_21 : ∀  (σ_20 : MS), j_21  σ_20 = some res → ∀ (H : Heap) (locs : List Loc), va_P (dC, dI) vwCl (mW cB cI cZ h qK qS ad σ_20) H → va_S (mCells h ad sz) s.heap H locs → ∀ ls : Array Slot, lv_has ls 4 [(0, .ref h), (1, .int s_1.1)] → W p l e (headSpec (g_ws yX12_resolve cX12_resolve 4 none) { frames := 1475, cells := 0, slots := 0, locals := 38145 }).room s m ([.ref h] : List Value).toArray below meth c H locs 0 0 (MQ below (va_Qv (fun (_ : Unit) => True) (fun _ t => va_P (dC, dI) vwCl (mW cB cI cZ h qK qS ad res.2) t.heap) (mCells h ad sz)) ([.ref h] : List Value).toArray s 0 0 (mCells h ad sz)) (F0 m 247 ls []) := by
          intro  σ_20 hF0 H locs hP hS ls hl
          subst ej_21
          have hF_23 := hF0
          clear hF0
          refine lv_aload_n hx hb dX12_resolve_247 rfl (lv_at hl 0 rfl) ?_
          refine va_get (D := (dC, dI)) (ci := 12) (v := .ref (ad 22)) (C := RX12) (T := TX12) (N := 123) hx hb hts ii_X12 hown hK hP 0 rfl rfl 22 (by decide) (hts (.fieldLink RX12 64 "StoryHouseModel" "then" "[I") wq_1378) (fun _ h9 => h9) rfl dX12_resolve_248 ?_
          refine lv_iload_n hx hb dX12_resolve_251 rfl (lv_at hl 1 rfl) ?_
          obtain ⟨g_24, hF_25⟩ := nif_e hF_23
          clear hF_23
          refine va_iald (f := σ_20.2 22) hx hb hK hP 13 2 rfl rfl g_24 dX12_resolve_252 ?_
          obtain ⟨x_26, ex_26, hF_27⟩ := bnd_e hF_25
          clear hF_25
          refine m_top ex_26 ?_
          refine lv_istore_n (lv' := [(1, .int x_26), (0, .ref h)]) hx hb dX12_resolve_253 rfl hl (by decide) rfl (fun ls hl => ?_)
          refine lv_goto (tgt := 5) hx hb dX12_resolve_254 (by decide) ?_
          exact ih_3 (x_26, σ_20) hF_27 _ _ hP hS ls (lv_sub hl [1, 0] rfl)
        refine lv_icmp_ge (tgt := 170) hx hb dX12_resolve_164 (by decide) (fun c_28 => ?_) (fun c_28 => ?_)
        · have hF_29 := ipos c_28 hF_22
          clear hF_22
          refine lv_aload_n hx hb dX12_resolve_170 rfl (lv_at hl 0 rfl) ?_
          refine lv_iload_n hx hb dX12_resolve_171 rfl (lv_at hl 2 rfl) ?_
          refine lv_bipush (v := 6) hx hb dX12_resolve_172 (by decide +kernel) ?_
          obtain ⟨j_32, ej_32, hF_33⟩ := bnd_e hF_29
          clear hF_29
          have Jj_32 : ∀ (t_30 : Int32) (σ_31 : MS), j_32 t_30 σ_31 = some res → ∀ (H : Heap) (locs : List Loc), va_P (dC, dI) vwCl (mW cB cI cZ h qK qS ad σ_31) H → va_S (mCells h ad sz) s.heap H locs → ∀ ls : Array Slot, lv_has ls 4 [(0, .ref h), (1, .int s_1.1)] → W p l e (headSpec (g_ws yX12_resolve cX12_resolve 4 none) { frames := 1475, cells := 0, slots := 0, locals := 38145 }).room s m ([.ref h] : List Value).toArray below meth c H locs 0 0 (MQ below (va_Qv (fun (_ : Unit) => True) (fun _ t => va_P (dC, dI) vwCl (mW cB cI cZ h qK qS ad res.2) t.heap) (mCells h ad sz)) ([.ref h] : List Value).toArray s 0 0 (mCells h ad sz)) (F0 m 182 ls [.int t_30, .ref h]) := by
            intro t_30 σ_31 hF0 H locs hP hS ls hl
            subst ej_32
            have hF_34 := hF0
            clear hF0
            obtain ⟨g_36, hF_35⟩ := nif_e hF_34
            clear hF_34
            obtain ⟨σ_37, eσ_37, hF_38⟩ := bnd_e hF_35
            clear hF_35
            refine m_put (σ' := σ_37) (v := .int t_30) (ty := .boolean) hx hb hts hown hK hP (hDD _ _) hS (by rw [eσ_37]; exact mwI_43) (k := 43) (by decide) (hts (.fieldLink RX12 531 "StoryHouseModel" "inDef" "Z") wq_1399) (fun _ h9 => h9) rfl (by decide +kernel) (m_bool (Classical.not_not.mp g_36)).1 (m_bool (Classical.not_not.mp g_36)).2 dX12_resolve_182 (fun H locs hP hS => ?_)
            refine lv_aload_n hx hb dX12_resolve_185 rfl (lv_at hl 0 rfl) ?_
            refine lv_iconst (v := 0) hx hb dX12_resolve_186 (by decide +kernel) ?_
            obtain ⟨σ_39, eσ_39, hF_40⟩ := bnd_e hF_38
            clear hF_38
            refine m_put (σ' := σ_39) (v := .int 0) (ty := .int) hx hb hts hown hK hP (hDD _ _) hS (by rw [eσ_39]; exact mwI_33) (k := 33) (by decide) (hts (.fieldLink RX12 506 "StoryHouseModel" "seenCount" "I") wq_1389) (fun _ h9 => h9) rfl (by decide +kernel) rfl rfl dX12_resolve_187 (fun H locs hP hS => ?_)
            refine lv_aload_n hx hb dX12_resolve_190 rfl (lv_at hl 0 rfl) ?_
            refine lv_iconst (v := 0) hx hb dX12_resolve_191 (by decide +kernel) ?_
            obtain ⟨σ_41, eσ_41, hF_42⟩ := bnd_e hF_40
            clear hF_40
            refine m_put (σ' := σ_41) (v := .int 0) (ty := .int) hx hb hts hown hK hP (hDD _ _) hS (by rw [eσ_41]; exact mwI_34) (k := 34) (by decide) (hts (.fieldLink RX12 509 "StoryHouseModel" "slotCount" "I") wq_1390) (fun _ h9 => h9) rfl (by decide +kernel) rfl rfl dX12_resolve_192 (fun H locs hP hS => ?_)
            refine lv_aload_n hx hb dX12_resolve_195 rfl (lv_at hl 0 rfl) ?_
            refine va_get (D := (dC, dI)) (ci := 12) (v := .int (σ_41.1 43)) (C := RX12) (T := TX12) (N := 123) hx hb hts ii_X12 hown hK hP 0 rfl rfl 43 (by decide) (hts (.fieldLink RX12 531 "StoryHouseModel" "inDef" "Z") wq_1399) (fun _ h9 => h9) rfl dX12_resolve_196 ?_
            obtain ⟨j_45, ej_45, hF_46⟩ := bnd_e hF_42
            clear hF_42
            have Jj_45 : ∀ (t_43 : Int32) (σ_44 : MS), j_45 t_43 σ_44 = some res → ∀ (H : Heap) (locs : List Loc), va_P (dC, dI) vwCl (mW cB cI cZ h qK qS ad σ_44) H → va_S (mCells h ad sz) s.heap H locs → ∀ ls : Array Slot, lv_has ls 4 [(0, .ref h), (1, .int s_1.1)] → W p l e (headSpec (g_ws yX12_resolve cX12_resolve 4 none) { frames := 1475, cells := 0, slots := 0, locals := 38145 }).room s m ([.ref h] : List Value).toArray below meth c H locs 0 0 (MQ below (va_Qv (fun (_ : Unit) => True) (fun _ t => va_P (dC, dI) vwCl (mW cB cI cZ h qK qS ad res.2) t.heap) (mCells h ad sz)) ([.ref h] : List Value).toArray s 0 0 (mCells h ad sz)) (F0 m 212 ls [.int t_43]) := by
              intro t_43 σ_44 hF0 H locs hP hS ls hl
              subst ej_45
              have hF_47 := hF0
              clear hF0
              refine lv_istore_n (lv' := [(3, .int t_43), (0, .ref h), (1, .int s_1.1)]) hx hb dX12_resolve_212 rfl hl (by decide) rfl (fun ls hl => ?_)
              refine loopF_ind (P := fun (s_48 : Int32 × MS) => ∀ (H : Heap) (locs : List Loc), va_P (dC, dI) vwCl (mW cB cI cZ h qK qS ad s_48.2) H → va_S (mCells h ad sz) s.heap H locs → ∀ ls : Array Slot, lv_has ls 4 [(0, .ref h), (1, .int s_1.1), (3, .int s_48.1)] → W p l e (headSpec (g_ws yX12_resolve cX12_resolve 4 none) { frames := 1475, cells := 0, slots := 0, locals := 38145 }).room s m ([.ref h] : List Value).toArray below meth c H locs 0 0 (MQ below (va_Qv (fun (_ : Unit) => True) (fun _ t => va_P (dC, dI) vwCl (mW cB cI cZ h qK qS ad res.2) t.heap) (mCells h ad sz)) ([.ref h] : List Value).toArray s 0 0 (mCells h ad sz)) (F0 m 213 ls [])) ?_ _ _ hF_47 _ _ hP hS ls (lv_sub hl [1, 2, 0] rfl)
              intro again_49 s_48 ih_50 hF_51
              intro H locs hP hS ls hl
              refine lv_iload_n hx hb dX12_resolve_213 rfl (lv_at hl 2 rfl) ?_
              refine lv_if_lt (tgt := 232) hx hb dX12_resolve_214 (by decide) (fun c_52 => ?_) (fun c_52 => ?_)
              · have hF_53 := ipos c_52 hF_51
                clear hF_51
                refine lv_aload_n hx hb dX12_resolve_232 rfl (lv_at hl 0 rfl) ?_
                refine lv_aload_n hx hb dX12_resolve_233 rfl (lv_at hl 0 rfl) ?_
                refine va_get (D := (dC, dI)) (ci := 12) (v := .ref (ad 19)) (C := RX12) (T := TX12) (N := 123) hx hb hts ii_X12 hown hK hP 0 rfl rfl 19 (by decide) (hts (.fieldLink RX12 55 "StoryHouseModel" "a" "[I") wq_1375) (fun _ h9 => h9) rfl dX12_resolve_234 ?_
                refine lv_aload_n hx hb dX12_resolve_237 rfl (lv_at hl 0 rfl) ?_
                refine va_get (D := (dC, dI)) (ci := 12) (v := .ref (ad 21)) (C := RX12) (T := TX12) (N := 123) hx hb hts ii_X12 hown hK hP 0 rfl rfl 21 (by decide) (hts (.fieldLink RX12 61 "StoryHouseModel" "d" "[I") wq_1377) (fun _ h9 => h9) rfl dX12_resolve_238 ?_
                refine lv_iload_n hx hb dX12_resolve_241 rfl (lv_at hl 1 rfl) ?_
                obtain ⟨g_54, hF_55⟩ := nif_e hF_53
                clear hF_53
                refine va_iald (f := s_48.2.2 21) hx hb hK hP 12 2 rfl rfl g_54 dX12_resolve_242 ?_
                obtain ⟨x_56, ex_56, hF_57⟩ := bnd_e hF_55
                clear hF_55
                refine m_top ex_56 ?_
                obtain ⟨g_58, hF_59⟩ := nif_e hF_57
                clear hF_57
                refine va_iald (f := s_48.2.2 19) hx hb hK hP 10 2 rfl rfl g_58 dX12_resolve_243 ?_
                obtain ⟨u_60, hu_60, hF_61⟩ := Option.bind_eq_some_iff.mp hF_59
                clear hF_59
                refine m_cv hsz hS (va_runV (As := [.int (s_48.2.2 19 x_56.toNatClampNeg)]) (rest := []) ⟨hx, hb, hml, hown, hts⟩ (m_X12_meanBlock l dC dI cB cC cI cJ cZ cP h qK qS ad hDD H.size  (s_48.2.2 19 x_56.toNatClampNeg) s_48.2 _ hu_60) (cwV 1 hts (g_gV wq_1696 wq_1697 wq_2177 wq_13 wq_1698) rfl rfl rfl (by decide +kernel) ⟨Nat.le_of_ble_eq_true rfl, Nat.le_of_ble_eq_true rfl⟩) (m_preV g_bl0 hsz hK hP hS hE hKS g_to0) rfl rfl hl.1 rfl (lv_room (Nat.le_of_ble_eq_true rfl)) dX12_resolve_244 ⟨Nat.le_of_ble_eq_true rfl, Nat.le_of_ble_eq_true rfl⟩) (fun H locs hP hS => ?_)
                exact Jj_21  u_60.2 hF_61 _ _ hP hS ls (lv_sub hl [0, 1] rfl)
              · have hF_62 := ineg c_52 hF_51
                clear hF_51
                refine lv_aload_n hx hb dX12_resolve_217 rfl (lv_at hl 0 rfl) ?_
                refine lv_iload_n hx hb dX12_resolve_218 rfl (lv_at hl 2 rfl) ?_
                obtain ⟨u_63, hu_63, hF_64⟩ := Option.bind_eq_some_iff.mp hF_62
                clear hF_62
                refine m_cv hsz hS (va_runV (As := [.int s_48.1]) (rest := []) ⟨hx, hb, hml, hown, hts⟩ (m_X12_see l dC dI cB cC cI cJ cZ cP h qK qS ad hDD H.size  s_48.1 s_48.2 _ hu_63) (cwV 1 hts (g_gV wq_1693 wq_1694 wq_2176 wq_13 wq_1695) rfl rfl rfl (by decide +kernel) ⟨Nat.le_of_ble_eq_true rfl, Nat.le_of_ble_eq_true rfl⟩) (m_preV g_bl0 hsz hK hP hS hE hKS g_to0) rfl rfl hl.1 rfl (lv_room (Nat.le_of_ble_eq_true rfl)) dX12_resolve_219 ⟨Nat.le_of_ble_eq_true rfl, Nat.le_of_ble_eq_true rfl⟩) (fun H locs hP hS => ?_)
                refine lv_aload_n hx hb dX12_resolve_222 rfl (lv_at hl 0 rfl) ?_
                refine va_get (D := (dC, dI)) (ci := 12) (v := .ref (ad 22)) (C := RX12) (T := TX12) (N := 123) hx hb hts ii_X12 hown hK hP 0 rfl rfl 22 (by decide) (hts (.fieldLink RX12 64 "StoryHouseModel" "then" "[I") wq_1378) (fun _ h9 => h9) rfl dX12_resolve_223 ?_
                refine lv_iload_n hx hb dX12_resolve_226 rfl (lv_at hl 2 rfl) ?_
                obtain ⟨g_65, hF_66⟩ := nif_e hF_64
                clear hF_64
                refine va_iald (f := u_63.2.2 22) hx hb hK hP 13 2 rfl rfl g_65 dX12_resolve_227 ?_
                obtain ⟨x_67, ex_67, hF_68⟩ := bnd_e hF_66
                clear hF_66
                refine m_top ex_67 ?_
                refine lv_istore_n (lv' := [(3, .int x_67), (0, .ref h), (1, .int s_1.1)]) hx hb dX12_resolve_228 rfl hl (by decide) rfl (fun ls hl => ?_)
                refine lv_goto (tgt := 213) hx hb dX12_resolve_229 (by decide) ?_
                exact ih_50 (x_67, u_63.2) hF_68 _ _ hP hS ls (lv_sub hl [1, 2, 0] rfl)
            refine lv_if_eq (tgt := 211) hx hb dX12_resolve_199 (by decide) (fun c_69 => ?_) (fun c_69 => ?_)
            · have hF_70 := ipos c_69 hF_46
              clear hF_46
              refine lv_iconst (v := (-1)) hx hb dX12_resolve_211 (by decide +kernel) ?_
              exact Jj_45 (-1) σ_41 hF_70 _ _ hP hS ls (lv_sub hl [0, 1] rfl)
            · have hF_71 := ineg c_69 hF_46
              clear hF_46
              refine lv_aload_n hx hb dX12_resolve_202 rfl (lv_at hl 0 rfl) ?_
              refine va_get (D := (dC, dI)) (ci := 12) (v := .ref (ad 20)) (C := RX12) (T := TX12) (N := 123) hx hb hts ii_X12 hown hK hP 0 rfl rfl 20 (by decide) (hts (.fieldLink RX12 58 "StoryHouseModel" "b" "[I") wq_1376) (fun _ h9 => h9) rfl dX12_resolve_203 ?_
              refine lv_iload_n hx hb dX12_resolve_206 rfl (lv_at hl 1 rfl) ?_
              obtain ⟨g_72, hF_73⟩ := nif_e hF_71
              clear hF_71
              refine va_iald (f := σ_41.2 20) hx hb hK hP 11 2 rfl rfl g_72 dX12_resolve_207 ?_
              refine lv_goto (tgt := 212) hx hb dX12_resolve_208 (by decide) ?_
              exact Jj_45 (σ_41.2 20 s_1.1.toNatClampNeg) σ_41 hF_73 _ _ hP hS ls (lv_sub hl [0, 1] rfl)
          refine lv_icmp_ne (tgt := 181) hx hb dX12_resolve_174 (by decide) (fun c_74 => ?_) (fun c_74 => ?_)
          · have hF_76 := ineg c_74 hF_33
            clear hF_33
            refine lv_iconst (v := 0) hx hb dX12_resolve_181 (by decide +kernel) ?_
            exact Jj_32 0 σ_16 hF_76 _ _ hP hS ls (lv_sub hl [0, 1] rfl)
          · have hF_75 := ipos c_74 hF_33
            clear hF_33
            refine lv_iconst (v := 1) hx hb dX12_resolve_177 (by decide +kernel) ?_
            refine lv_goto (tgt := 182) hx hb dX12_resolve_178 (by decide) ?_
            exact Jj_32 1 σ_16 hF_75 _ _ hP hS ls (lv_sub hl [0, 1] rfl)
        · have hF_77 := ineg c_28 hF_22
          clear hF_22
          refine lv_goto (tgt := 247) hx hb dX12_resolve_167 (by decide) ?_
          exact Jj_21  σ_16 hF_77 _ _ hP hS ls (lv_sub hl [0, 1] rfl)
      refine lv_icmp_ne (tgt := 161) hx hb dX12_resolve_153 (by decide) (fun c_78 => ?_) (fun c_78 => ?_)
      · have hF_82 := ineg c_78 hF_18
        clear hF_18
        exact Jj_17  σ_12 hF_82 _ _ hP hS ls (lv_sub hl [0, 1, 2] rfl)
      · have hF_79 := ipos c_78 hF_18
        clear hF_18
        refine lv_aload_n hx hb dX12_resolve_156 rfl (lv_at hl 0 rfl) ?_
        refine lv_iload_n hx hb dX12_resolve_157 rfl (lv_at hl 1 rfl) ?_
        obtain ⟨u_80, hu_80, hF_81⟩ := Option.bind_eq_some_iff.mp hF_79
        clear hF_79
        refine m_cv hsz hS (va_runV (As := [.int s_1.1]) (rest := []) ⟨hx, hb, hml, hown, hts⟩ (m_X12_resolveOn l dC dI cB cC cI cJ cZ cP h qK qS ad hDD H.size  s_1.1 σ_12 _ hu_80) (cwV 1 hts (g_gV wq_1687 wq_1688 wq_2174 wq_13 wq_1689) rfl rfl rfl (by decide +kernel) ⟨Nat.le_of_ble_eq_true rfl, Nat.le_of_ble_eq_true rfl⟩) (m_preV g_bl0 hsz hK hP hS hE hKS g_to0) rfl rfl hl.1 rfl (lv_room (Nat.le_of_ble_eq_true rfl)) dX12_resolve_158 ⟨Nat.le_of_ble_eq_true rfl, Nat.le_of_ble_eq_true rfl⟩) (fun H locs hP hS => ?_)
        exact Jj_17  u_80.2 hF_81 _ _ hP hS ls (lv_sub hl [0, 1, 2] rfl)
    obtain ⟨j_84, ej_84, hF_85⟩ := bnd_e hF_14
    clear hF_14
    have Jj_84 : ∀  (σ_83 : MS), j_84  σ_83 = some res → ∀ (H : Heap) (locs : List Loc), va_P (dC, dI) vwCl (mW cB cI cZ h qK qS ad σ_83) H → va_S (mCells h ad sz) s.heap H locs → ∀ ls : Array Slot, lv_has ls 4 [(0, .ref h), (1, .int s_1.1), (2, .int x_10)] → W p l e (headSpec (g_ws yX12_resolve cX12_resolve 4 none) { frames := 1475, cells := 0, slots := 0, locals := 38145 }).room s m ([.ref h] : List Value).toArray below meth c H locs 0 0 (MQ below (va_Qv (fun (_ : Unit) => True) (fun _ t => va_P (dC, dI) vwCl (mW cB cI cZ h qK qS ad res.2) t.heap) (mCells h ad sz)) ([.ref h] : List Value).toArray s 0 0 (mCells h ad sz)) (F0 m 26 ls []) := by
      intro  σ_83 hF0 H locs hP hS ls hl
      subst ej_84
      have hF_86 := hF0
      clear hF0
      refine lv_aload_n hx hb dX12_resolve_26 rfl (lv_at hl 0 rfl) ?_
      refine va_get (D := (dC, dI)) (ci := 12) (v := .ref (ad 20)) (C := RX12) (T := TX12) (N := 123) hx hb hts ii_X12 hown hK hP 0 rfl rfl 20 (by decide) (hts (.fieldLink RX12 58 "StoryHouseModel" "b" "[I") wq_1376) (fun _ h9 => h9) rfl dX12_resolve_27 ?_
      refine lv_iload_n hx hb dX12_resolve_30 rfl (lv_at hl 1 rfl) ?_
      obtain ⟨g_87, hF_88⟩ := nif_e hF_86
      clear hF_86
      refine va_iald (f := σ_83.2 20) hx hb hK hP 11 2 rfl rfl g_87 dX12_resolve_31 ?_
      obtain ⟨x_89, ex_89, hF_90⟩ := bnd_e hF_88
      clear hF_88
      refine m_top ex_89 ?_
      refine lv_istore_n (lv' := [(3, .int x_89), (0, .ref h), (1, .int s_1.1), (2, .int x_10)]) hx hb dX12_resolve_32 rfl hl (by decide) rfl (fun ls hl => ?_)
      refine loopF_ind (P := fun (s_91 : Int32 × MS) => ∀ (H : Heap) (locs : List Loc), va_P (dC, dI) vwCl (mW cB cI cZ h qK qS ad s_91.2) H → va_S (mCells h ad sz) s.heap H locs → ∀ ls : Array Slot, lv_has ls 4 [(0, .ref h), (1, .int s_1.1), (2, .int x_10), (3, .int s_91.1)] → W p l e (headSpec (g_ws yX12_resolve cX12_resolve 4 none) { frames := 1475, cells := 0, slots := 0, locals := 38145 }).room s m ([.ref h] : List Value).toArray below meth c H locs 0 0 (MQ below (va_Qv (fun (_ : Unit) => True) (fun _ t => va_P (dC, dI) vwCl (mW cB cI cZ h qK qS ad res.2) t.heap) (mCells h ad sz)) ([.ref h] : List Value).toArray s 0 0 (mCells h ad sz)) (F0 m 33 ls [])) ?_ _ _ hF_90 _ _ hP hS ls (lv_sub hl [1, 2, 3, 0] rfl)
      intro again_92 s_91 ih_93 hF_94
      intro H locs hP hS ls hl
      refine lv_iload_n hx hb dX12_resolve_33 rfl (lv_at hl 3 rfl) ?_
      refine lv_if_lt (tgt := 150) hx hb dX12_resolve_34 (by decide) (fun c_95 => ?_) (fun c_95 => ?_)
      · have hF_96 := ipos c_95 hF_94
        clear hF_94
        exact Jj_13  s_91.2 hF_96 _ _ hP hS ls (lv_sub hl [0, 1, 2] rfl)
      · have hF_97 := ineg c_95 hF_94
        clear hF_94
        refine lv_aload_n hx hb dX12_resolve_37 rfl (lv_at hl 0 rfl) ?_
        refine va_get (D := (dC, dI)) (ci := 12) (v := .ref (ad 17)) (C := RX12) (T := TX12) (N := 123) hx hb hts ii_X12 hown hK hP 0 rfl rfl 17 (by decide) (hts (.fieldLink RX12 49 "StoryHouseModel" "what" "[I") wq_1373) (fun _ h9 => h9) rfl dX12_resolve_38 ?_
        refine lv_iload_n hx hb dX12_resolve_41 rfl (lv_at hl 3 rfl) ?_
        obtain ⟨g_98, hF_99⟩ := nif_e hF_97
        clear hF_97
        refine va_iald (f := s_91.2.2 17) hx hb hK hP 8 2 rfl rfl g_98 dX12_resolve_42 ?_
        refine lv_bipush (v := 12) hx hb dX12_resolve_43 (by decide +kernel) ?_
        obtain ⟨j_101, ej_101, hF_102⟩ := bnd_e hF_99
        clear hF_99
        have Jj_101 : ∀  (σ_100 : MS), j_101  σ_100 = some res → ∀ (H : Heap) (locs : List Loc), va_P (dC, dI) vwCl (mW cB cI cZ h qK qS ad σ_100) H → va_S (mCells h ad sz) s.heap H locs → ∀ ls : Array Slot, lv_has ls 4 [(0, .ref h), (1, .int s_1.1), (2, .int x_10), (3, .int s_91.1)] → W p l e (headSpec (g_ws yX12_resolve cX12_resolve 4 none) { frames := 1475, cells := 0, slots := 0, locals := 38145 }).room s m ([.ref h] : List Value).toArray below meth c H locs 0 0 (MQ below (va_Qv (fun (_ : Unit) => True) (fun _ t => va_P (dC, dI) vwCl (mW cB cI cZ h qK qS ad res.2) t.heap) (mCells h ad sz)) ([.ref h] : List Value).toArray s 0 0 (mCells h ad sz)) (F0 m 140 ls []) := by
          intro  σ_100 hF0 H locs hP hS ls hl
          subst ej_101
          have hF_103 := hF0
          clear hF0
          refine lv_aload_n hx hb dX12_resolve_140 rfl (lv_at hl 0 rfl) ?_
          refine va_get (D := (dC, dI)) (ci := 12) (v := .ref (ad 22)) (C := RX12) (T := TX12) (N := 123) hx hb hts ii_X12 hown hK hP 0 rfl rfl 22 (by decide) (hts (.fieldLink RX12 64 "StoryHouseModel" "then" "[I") wq_1378) (fun _ h9 => h9) rfl dX12_resolve_141 ?_
          refine lv_iload_n hx hb dX12_resolve_144 rfl (lv_at hl 3 rfl) ?_
          obtain ⟨g_104, hF_105⟩ := nif_e hF_103
          clear hF_103
          refine va_iald (f := σ_100.2 22) hx hb hK hP 13 2 rfl rfl g_104 dX12_resolve_145 ?_
          obtain ⟨x_106, ex_106, hF_107⟩ := bnd_e hF_105
          clear hF_105
          refine m_top ex_106 ?_
          refine lv_istore_n (lv' := [(3, .int x_106), (0, .ref h), (1, .int s_1.1), (2, .int x_10)]) hx hb dX12_resolve_146 rfl hl (by decide) rfl (fun ls hl => ?_)
          refine lv_goto (tgt := 33) hx hb dX12_resolve_147 (by decide) ?_
          exact ih_93 (x_106, σ_100) hF_107 _ _ hP hS ls (lv_sub hl [1, 2, 3, 0] rfl)
        obtain ⟨j_109, ej_109, hF_110⟩ := bnd_e hF_102
        clear hF_102
        have Jj_109 : ∀  (σ_108 : MS), j_109  σ_108 = some res → ∀ (H : Heap) (locs : List Loc), va_P (dC, dI) vwCl (mW cB cI cZ h qK qS ad σ_108) H → va_S (mCells h ad sz) s.heap H locs → ∀ ls : Array Slot, lv_has ls 4 [(0, .ref h), (1, .int s_1.1), (2, .int x_10), (3, .int s_91.1)] → W p l e (headSpec (g_ws yX12_resolve cX12_resolve 4 none) { frames := 1475, cells := 0, slots := 0, locals := 38145 }).room s m ([.ref h] : List Value).toArray below meth c H locs 0 0 (MQ below (va_Qv (fun (_ : Unit) => True) (fun _ t => va_P (dC, dI) vwCl (mW cB cI cZ h qK qS ad res.2) t.heap) (mCells h ad sz)) ([.ref h] : List Value).toArray s 0 0 (mCells h ad sz)) (F0 m 125 ls []) := by
          intro  σ_108 hF0 H locs hP hS ls hl
          subst ej_109
          have hF_111 := hF0
          clear hF0
          refine lv_aload_n hx hb dX12_resolve_125 rfl (lv_at hl 0 rfl) ?_
          refine lv_aload_n hx hb dX12_resolve_126 rfl (lv_at hl 0 rfl) ?_
          refine va_get (D := (dC, dI)) (ci := 12) (v := .ref (ad 18)) (C := RX12) (T := TX12) (N := 123) hx hb hts ii_X12 hown hK hP 0 rfl rfl 18 (by decide) (hts (.fieldLink RX12 52 "StoryHouseModel" "where" "[I") wq_1374) (fun _ h9 => h9) rfl dX12_resolve_127 ?_
          refine lv_aload_n hx hb dX12_resolve_130 rfl (lv_at hl 0 rfl) ?_
          refine va_get (D := (dC, dI)) (ci := 12) (v := .ref (ad 19)) (C := RX12) (T := TX12) (N := 123) hx hb hts ii_X12 hown hK hP 0 rfl rfl 19 (by decide) (hts (.fieldLink RX12 55 "StoryHouseModel" "a" "[I") wq_1375) (fun _ h9 => h9) rfl dX12_resolve_131 ?_
          refine lv_iload_n hx hb dX12_resolve_134 rfl (lv_at hl 3 rfl) ?_
          obtain ⟨g_112, hF_113⟩ := nif_e hF_111
          clear hF_111
          refine va_iald (f := σ_108.2 19) hx hb hK hP 10 2 rfl rfl g_112 dX12_resolve_135 ?_
          obtain ⟨x_114, ex_114, hF_115⟩ := bnd_e hF_113
          clear hF_113
          refine m_top ex_114 ?_
          obtain ⟨g_116, hF_117⟩ := nif_e hF_115
          clear hF_115
          refine va_iald (f := σ_108.2 18) hx hb hK hP 9 2 rfl rfl g_116 dX12_resolve_136 ?_
          obtain ⟨u_118, hu_118, hF_119⟩ := Option.bind_eq_some_iff.mp hF_117
          clear hF_117
          refine m_cv hsz hS (va_runV (As := [.int (σ_108.2 18 x_114.toNatClampNeg)]) (rest := []) ⟨hx, hb, hml, hown, hts⟩ (m_X12_wrong l dC dI cB cC cI cJ cZ cP h qK qS ad hDD H.size  (σ_108.2 18 x_114.toNatClampNeg) σ_108 _ hu_118) (cwV 1 hts (g_gV wq_1684 wq_1685 wq_2173 wq_13 wq_1686) rfl rfl rfl (by decide +kernel) ⟨Nat.le_of_ble_eq_true rfl, Nat.le_of_ble_eq_true rfl⟩) (m_preV g_bl0 hsz hK hP hS hE hKS g_to0) rfl rfl hl.1 rfl (lv_room (Nat.le_of_ble_eq_true rfl)) dX12_resolve_137 ⟨Nat.le_of_ble_eq_true rfl, Nat.le_of_ble_eq_true rfl⟩) (fun H locs hP hS => ?_)
          exact Jj_101  u_118.2 hF_119 _ _ hP hS ls (lv_sub hl [0, 1, 2, 3] rfl)
        obtain ⟨j_121, ej_121, hF_122⟩ := bnd_e hF_110
        clear hF_110
        have Jj_121 : ∀  (σ_120 : MS), j_121  σ_120 = some res → ∀ (H : Heap) (locs : List Loc), va_P (dC, dI) vwCl (mW cB cI cZ h qK qS ad σ_120) H → va_S (mCells h ad sz) s.heap H locs → ∀ ls : Array Slot, lv_has ls 4 [(0, .ref h), (1, .int s_1.1), (2, .int x_10), (3, .int s_91.1)] → W p l e (headSpec (g_ws yX12_resolve cX12_resolve 4 none) { frames := 1475, cells := 0, slots := 0, locals := 38145 }).room s m ([.ref h] : List Value).toArray below meth c H locs 0 0 (MQ below (va_Qv (fun (_ : Unit) => True) (fun _ t => va_P (dC, dI) vwCl (mW cB cI cZ h qK qS ad res.2) t.heap) (mCells h ad sz)) ([.ref h] : List Value).toArray s 0 0 (mCells h ad sz)) (F0 m 67 ls []) := by
          intro  σ_120 hF0 H locs hP hS ls hl
          subst ej_121
          have hF_123 := hF0
          clear hF0
          refine lv_aload_n hx hb dX12_resolve_67 rfl (lv_at hl 0 rfl) ?_
          refine va_get (D := (dC, dI)) (ci := 12) (v := .ref (ad 17)) (C := RX12) (T := TX12) (N := 123) hx hb hts ii_X12 hown hK hP 0 rfl rfl 17 (by decide) (hts (.fieldLink RX12 49 "StoryHouseModel" "what" "[I") wq_1373) (fun _ h9 => h9) rfl dX12_resolve_68 ?_
          refine lv_iload_n hx hb dX12_resolve_71 rfl (lv_at hl 3 rfl) ?_
          obtain ⟨g_124, hF_125⟩ := nif_e hF_123
          clear hF_123
          refine va_iald (f := σ_120.2 17) hx hb hK hP 8 2 rfl rfl g_124 dX12_resolve_72 ?_
          refine lv_bipush (v := 13) hx hb dX12_resolve_73 (by decide +kernel) ?_
          refine lv_icmp_ne (tgt := 140) hx hb dX12_resolve_75 (by decide) (fun c_126 => ?_) (fun c_126 => ?_)
          · have hF_155 := ineg c_126 hF_125
            clear hF_125
            exact Jj_101  σ_120 hF_155 _ _ hP hS ls (lv_sub hl [0, 1, 2, 3] rfl)
          · have hF_127 := ipos c_126 hF_125
            clear hF_125
            refine lv_aload_n hx hb dX12_resolve_78 rfl (lv_at hl 0 rfl) ?_
            refine va_get (D := (dC, dI)) (ci := 12) (v := .ref (ad 19)) (C := RX12) (T := TX12) (N := 123) hx hb hts ii_X12 hown hK hP 0 rfl rfl 19 (by decide) (hts (.fieldLink RX12 55 "StoryHouseModel" "a" "[I") wq_1375) (fun _ h9 => h9) rfl dX12_resolve_79 ?_
            refine lv_iload_n hx hb dX12_resolve_82 rfl (lv_at hl 3 rfl) ?_
            obtain ⟨g_128, hF_129⟩ := nif_e hF_127
            clear hF_127
            refine va_iald (f := σ_120.2 19) hx hb hK hP 10 2 rfl rfl g_128 dX12_resolve_83 ?_
            refine lv_if_lt (tgt := 140) hx hb dX12_resolve_84 (by decide) (fun c_130 => ?_) (fun c_130 => ?_)
            · have hF_131 := ipos c_130 hF_129
              clear hF_129
              exact Jj_101  σ_120 hF_131 _ _ hP hS ls (lv_sub hl [0, 1, 2, 3] rfl)
            · have hF_132 := ineg c_130 hF_129
              clear hF_129
              refine lv_aload_n hx hb dX12_resolve_87 rfl (lv_at hl 0 rfl) ?_
              refine lv_aload_n hx hb dX12_resolve_88 rfl (lv_at hl 0 rfl) ?_
              refine va_get (D := (dC, dI)) (ci := 12) (v := .ref (ad 19)) (C := RX12) (T := TX12) (N := 123) hx hb hts ii_X12 hown hK hP 0 rfl rfl 19 (by decide) (hts (.fieldLink RX12 55 "StoryHouseModel" "a" "[I") wq_1375) (fun _ h9 => h9) rfl dX12_resolve_89 ?_
              refine lv_aload_n hx hb dX12_resolve_92 rfl (lv_at hl 0 rfl) ?_
              refine va_get (D := (dC, dI)) (ci := 12) (v := .ref (ad 19)) (C := RX12) (T := TX12) (N := 123) hx hb hts ii_X12 hown hK hP 0 rfl rfl 19 (by decide) (hts (.fieldLink RX12 55 "StoryHouseModel" "a" "[I") wq_1375) (fun _ h9 => h9) rfl dX12_resolve_93 ?_
              refine lv_iload_n hx hb dX12_resolve_96 rfl (lv_at hl 3 rfl) ?_
              obtain ⟨g_133, hF_134⟩ := nif_e hF_132
              clear hF_132
              refine va_iald (f := σ_120.2 19) hx hb hK hP 10 2 rfl rfl g_133 dX12_resolve_97 ?_
              obtain ⟨x_135, ex_135, hF_136⟩ := bnd_e hF_134
              clear hF_134
              refine m_top ex_135 ?_
              obtain ⟨g_137, hF_138⟩ := nif_e hF_136
              clear hF_136
              refine va_iald (f := σ_120.2 19) hx hb hK hP 10 2 rfl rfl g_137 dX12_resolve_98 ?_
              refine lv_iconst (v := 1) hx hb dX12_resolve_99 (by decide +kernel) ?_
              obtain ⟨u_139, hu_139, hF_140⟩ := Option.bind_eq_some_iff.mp hF_138
              clear hF_138
              refine m_ci hsz hS (va_runV (As := [.int (σ_120.2 19 x_135.toNatClampNeg), .int 1]) (rest := []) ⟨hx, hb, hml, hown, hts⟩ (m_X12_is l dC dI cB cC cI cJ cZ cP h qK qS ad hDD H.size  (σ_120.2 19 x_135.toNatClampNeg) 1 σ_120 _ hu_139) (cwV 2 hts (g_gV wq_1681 wq_1682 wq_2172 wq_13 wq_1683) rfl rfl rfl (by decide +kernel) ⟨Nat.le_of_ble_eq_true rfl, Nat.le_of_ble_eq_true rfl⟩) (m_preV g_bl0 hsz hK hP hS hE hKS g_to0) rfl rfl hl.1 rfl (lv_room (Nat.le_of_ble_eq_true rfl)) dX12_resolve_100 ⟨Nat.le_of_ble_eq_true rfl, Nat.le_of_ble_eq_true rfl⟩) (fun H locs hP hS => ?_)
              refine lv_if_ne (tgt := 140) hx hb dX12_resolve_103 (by decide) (fun c_141 => ?_) (fun c_141 => ?_)
              · have hF_154 := ineg c_141 hF_140
                clear hF_140
                exact Jj_101  u_139.2 hF_154 _ _ hP hS ls (lv_sub hl [0, 1, 2, 3] rfl)
              · have hF_142 := ipos c_141 hF_140
                clear hF_140
                refine lv_aload_n hx hb dX12_resolve_106 rfl (lv_at hl 0 rfl) ?_
                refine lv_aload_n hx hb dX12_resolve_107 rfl (lv_at hl 0 rfl) ?_
                refine va_get (D := (dC, dI)) (ci := 12) (v := .ref (ad 19)) (C := RX12) (T := TX12) (N := 123) hx hb hts ii_X12 hown hK hP 0 rfl rfl 19 (by decide) (hts (.fieldLink RX12 55 "StoryHouseModel" "a" "[I") wq_1375) (fun _ h9 => h9) rfl dX12_resolve_108 ?_
                refine lv_aload_n hx hb dX12_resolve_111 rfl (lv_at hl 0 rfl) ?_
                refine va_get (D := (dC, dI)) (ci := 12) (v := .ref (ad 19)) (C := RX12) (T := TX12) (N := 123) hx hb hts ii_X12 hown hK hP 0 rfl rfl 19 (by decide) (hts (.fieldLink RX12 55 "StoryHouseModel" "a" "[I") wq_1375) (fun _ h9 => h9) rfl dX12_resolve_112 ?_
                refine lv_iload_n hx hb dX12_resolve_115 rfl (lv_at hl 3 rfl) ?_
                obtain ⟨g_143, hF_144⟩ := nif_e hF_142
                clear hF_142
                refine va_iald (f := u_139.2.2 19) hx hb hK hP 10 2 rfl rfl g_143 dX12_resolve_116 ?_
                obtain ⟨x_145, ex_145, hF_146⟩ := bnd_e hF_144
                clear hF_144
                refine m_top ex_145 ?_
                obtain ⟨g_147, hF_148⟩ := nif_e hF_146
                clear hF_146
                refine va_iald (f := u_139.2.2 19) hx hb hK hP 10 2 rfl rfl g_147 dX12_resolve_117 ?_
                refine lv_iconst (v := 2) hx hb dX12_resolve_118 (by decide +kernel) ?_
                obtain ⟨u_149, hu_149, hF_150⟩ := Option.bind_eq_some_iff.mp hF_148
                clear hF_148
                refine m_ci hsz hS (va_runV (As := [.int (u_139.2.2 19 x_145.toNatClampNeg), .int 2]) (rest := []) ⟨hx, hb, hml, hown, hts⟩ (m_X12_is l dC dI cB cC cI cJ cZ cP h qK qS ad hDD H.size  (u_139.2.2 19 x_145.toNatClampNeg) 2 u_139.2 _ hu_149) (cwV 2 hts (g_gV wq_1681 wq_1682 wq_2172 wq_13 wq_1683) rfl rfl rfl (by decide +kernel) ⟨Nat.le_of_ble_eq_true rfl, Nat.le_of_ble_eq_true rfl⟩) (m_preV g_bl0 hsz hK hP hS hE hKS g_to0) rfl rfl hl.1 rfl (lv_room (Nat.le_of_ble_eq_true rfl)) dX12_resolve_119 ⟨Nat.le_of_ble_eq_true rfl, Nat.le_of_ble_eq_true rfl⟩) (fun H locs hP hS => ?_)
                refine lv_if_ne (tgt := 140) hx hb dX12_resolve_122 (by decide) (fun c_151 => ?_) (fun c_151 => ?_)
                · have hF_153 := ineg c_151 hF_150
                  clear hF_150
                  exact Jj_101  u_149.2 hF_153 _ _ hP hS ls (lv_sub hl [0, 1, 2, 3] rfl)
                · have hF_152 := ipos c_151 hF_150
                  clear hF_150
                  exact Jj_109  u_149.2 hF_152 _ _ hP hS ls (lv_sub hl [0, 1, 2, 3] rfl)
        refine lv_icmp_ne (tgt := 67) hx hb dX12_resolve_45 (by decide) (fun c_156 => ?_) (fun c_156 => ?_)
        · have hF_169 := ineg c_156 hF_122
          clear hF_122
          exact Jj_121  s_91.2 hF_169 _ _ hP hS ls (lv_sub hl [0, 1, 2, 3] rfl)
        · have hF_157 := ipos c_156 hF_122
          clear hF_122
          refine lv_aload_n hx hb dX12_resolve_48 rfl (lv_at hl 0 rfl) ?_
          refine lv_aload_n hx hb dX12_resolve_49 rfl (lv_at hl 0 rfl) ?_
          refine va_get (D := (dC, dI)) (ci := 12) (v := .ref (ad 19)) (C := RX12) (T := TX12) (N := 123) hx hb hts ii_X12 hown hK hP 0 rfl rfl 19 (by decide) (hts (.fieldLink RX12 55 "StoryHouseModel" "a" "[I") wq_1375) (fun _ h9 => h9) rfl dX12_resolve_50 ?_
          refine lv_aload_n hx hb dX12_resolve_53 rfl (lv_at hl 0 rfl) ?_
          refine va_get (D := (dC, dI)) (ci := 12) (v := .ref (ad 19)) (C := RX12) (T := TX12) (N := 123) hx hb hts ii_X12 hown hK hP 0 rfl rfl 19 (by decide) (hts (.fieldLink RX12 55 "StoryHouseModel" "a" "[I") wq_1375) (fun _ h9 => h9) rfl dX12_resolve_54 ?_
          refine lv_iload_n hx hb dX12_resolve_57 rfl (lv_at hl 3 rfl) ?_
          obtain ⟨g_158, hF_159⟩ := nif_e hF_157
          clear hF_157
          refine va_iald (f := s_91.2.2 19) hx hb hK hP 10 2 rfl rfl g_158 dX12_resolve_58 ?_
          obtain ⟨x_160, ex_160, hF_161⟩ := bnd_e hF_159
          clear hF_159
          refine m_top ex_160 ?_
          obtain ⟨g_162, hF_163⟩ := nif_e hF_161
          clear hF_161
          refine va_iald (f := s_91.2.2 19) hx hb hK hP 10 2 rfl rfl g_162 dX12_resolve_59 ?_
          refine lv_iconst (v := 1) hx hb dX12_resolve_60 (by decide +kernel) ?_
          obtain ⟨u_164, hu_164, hF_165⟩ := Option.bind_eq_some_iff.mp hF_163
          clear hF_163
          refine m_ci hsz hS (va_runV (As := [.int (s_91.2.2 19 x_160.toNatClampNeg), .int 1]) (rest := []) ⟨hx, hb, hml, hown, hts⟩ (m_X12_is l dC dI cB cC cI cJ cZ cP h qK qS ad hDD H.size  (s_91.2.2 19 x_160.toNatClampNeg) 1 s_91.2 _ hu_164) (cwV 2 hts (g_gV wq_1681 wq_1682 wq_2172 wq_13 wq_1683) rfl rfl rfl (by decide +kernel) ⟨Nat.le_of_ble_eq_true rfl, Nat.le_of_ble_eq_true rfl⟩) (m_preV g_bl0 hsz hK hP hS hE hKS g_to0) rfl rfl hl.1 rfl (lv_room (Nat.le_of_ble_eq_true rfl)) dX12_resolve_61 ⟨Nat.le_of_ble_eq_true rfl, Nat.le_of_ble_eq_true rfl⟩) (fun H locs hP hS => ?_)
          refine lv_if_eq (tgt := 125) hx hb dX12_resolve_64 (by decide) (fun c_166 => ?_) (fun c_166 => ?_)
          · have hF_167 := ipos c_166 hF_165
            clear hF_165
            exact Jj_109  u_164.2 hF_167 _ _ hP hS ls (lv_sub hl [0, 1, 2, 3] rfl)
          · have hF_168 := ineg c_166 hF_165
            clear hF_165
            exact Jj_121  u_164.2 hF_168 _ _ hP hS ls (lv_sub hl [0, 1, 2, 3] rfl)
    refine lv_icmp_eq (tgt := 26) hx hb dX12_resolve_18 (by decide) (fun c_170 => ?_) (fun c_170 => ?_)
    · have hF_171 := ipos c_170 hF_85
      clear hF_85
      exact Jj_84  s_1.2 hF_171 _ _ hP hS ls (lv_sub hl [1, 2, 0] rfl)
    · have hF_172 := ineg c_170 hF_85
      clear hF_85
      refine lv_iload_n hx hb dX12_resolve_21 rfl (lv_at hl 0 rfl) ?_
      refine lv_iconst (v := 2) hx hb dX12_resolve_22 (by decide +kernel) ?_
      refine lv_icmp_ne (tgt := 150) hx hb dX12_resolve_23 (by decide) (fun c_173 => ?_) (fun c_173 => ?_)
      · have hF_175 := ineg c_173 hF_172
        clear hF_172
        exact Jj_13  s_1.2 hF_175 _ _ hP hS ls (lv_sub hl [1, 2, 0] rfl)
      · have hF_174 := ipos c_173 hF_172
        clear hF_172
        exact Jj_84  s_1.2 hF_174 _ _ hP hS ls (lv_sub hl [1, 2, 0] rfl)
theorem dX12_feed_0 : decode cX12_feed 0 = .ok (.iload_n 3, 1) := by decide +kernel
theorem dX12_feed_1 : decode cX12_feed 1 = .ok (.iconst 1, 1) := by decide +kernel
theorem dX12_feed_2 : decode cX12_feed 2 = .ok (.if_icmp .lt 13, 3) := by decide +kernel
theorem dX12_feed_5 : decode cX12_feed 5 = .ok (.iload_n 3, 1) := by decide +kernel
theorem dX12_feed_6 : decode cX12_feed 6 = .ok (.bipush 8, 2) := by decide +kernel
theorem dX12_feed_8 : decode cX12_feed 8 = .ok (.if_icmp .gt 7, 3) := by decide +kernel
theorem dX12_feed_11 : decode cX12_feed 11 = .ok (.iconst 1, 1) := by decide +kernel
theorem dX12_feed_12 : decode cX12_feed 12 = .ok (.goto 4, 3) := by decide +kernel
theorem dX12_feed_15 : decode cX12_feed 15 = .ok (.iconst 0, 1) := by decide +kernel
theorem dX12_feed_16 : decode cX12_feed 16 = .ok (.istore 4, 2) := by decide +kernel
theorem dX12_feed_18 : decode cX12_feed 18 = .ok (.iconst 0, 1) := by decide +kernel
theorem dX12_feed_19 : decode cX12_feed 19 = .ok (.istore 5, 2) := by decide +kernel
theorem dX12_feed_21 : decode cX12_feed 21 = .ok (.iload 5, 2) := by decide +kernel
theorem dX12_feed_23 : decode cX12_feed 23 = .ok (.iload_n 3, 1) := by decide +kernel
theorem dX12_feed_24 : decode cX12_feed 24 = .ok (.if_icmp .ge 56, 3) := by decide +kernel
theorem dX12_feed_27 : decode cX12_feed 27 = .ok (.iload 4, 2) := by decide +kernel
theorem dX12_feed_29 : decode cX12_feed 29 = .ok (.ifCond .eq 51, 3) := by decide +kernel
theorem dX12_feed_32 : decode cX12_feed 32 = .ok (.lload_n 1, 1) := by decide +kernel
theorem dX12_feed_33 : decode cX12_feed 33 = .ok (.bipush 8, 2) := by decide +kernel
theorem dX12_feed_35 : decode cX12_feed 35 = .ok (.iload 5, 2) := by decide +kernel
theorem dX12_feed_37 : decode cX12_feed 37 = .ok (.imul, 1) := by decide +kernel
theorem dX12_feed_38 : decode cX12_feed 38 = .ok (.lushr, 1) := by decide +kernel
theorem dX12_feed_39 : decode cX12_feed 39 = .ok (.l2i, 1) := by decide +kernel
theorem dX12_feed_40 : decode cX12_feed 40 = .ok (.sipush 255, 3) := by decide +kernel
theorem dX12_feed_43 : decode cX12_feed 43 = .ok (.iand, 1) := by decide +kernel
theorem dX12_feed_44 : decode cX12_feed 44 = .ok (.istore 6, 2) := by decide +kernel
theorem dX12_feed_46 : decode cX12_feed 46 = .ok (.iload 6, 2) := by decide +kernel
theorem dX12_feed_48 : decode cX12_feed 48 = .ok (.bipush 10, 2) := by decide +kernel
theorem dX12_feed_50 : decode cX12_feed 50 = .ok (.if_icmp .eq 17, 3) := by decide +kernel
theorem dX12_feed_53 : decode cX12_feed 53 = .ok (.iload 6, 2) := by decide +kernel
theorem dX12_feed_55 : decode cX12_feed 55 = .ok (.bipush 32, 2) := by decide +kernel
theorem dX12_feed_57 : decode cX12_feed 57 = .ok (.if_icmp .lt 14, 3) := by decide +kernel
theorem dX12_feed_60 : decode cX12_feed 60 = .ok (.iload 6, 2) := by decide +kernel
theorem dX12_feed_62 : decode cX12_feed 62 = .ok (.bipush 126, 2) := by decide +kernel
theorem dX12_feed_64 : decode cX12_feed 64 = .ok (.if_icmp .gt 7, 3) := by decide +kernel
theorem dX12_feed_67 : decode cX12_feed 67 = .ok (.iconst 1, 1) := by decide +kernel
theorem dX12_feed_68 : decode cX12_feed 68 = .ok (.goto 4, 3) := by decide +kernel
theorem dX12_feed_71 : decode cX12_feed 71 = .ok (.iconst 0, 1) := by decide +kernel
theorem dX12_feed_72 : decode cX12_feed 72 = .ok (.istore 4, 2) := by decide +kernel
theorem dX12_feed_74 : decode cX12_feed 74 = .ok (.iinc 5 1, 3) := by decide +kernel
theorem dX12_feed_77 : decode cX12_feed 77 = .ok (.goto (-56), 3) := by decide +kernel
theorem dX12_feed_80 : decode cX12_feed 80 = .ok (.aload_n 0, 1) := by decide +kernel
theorem dX12_feed_81 : decode cX12_feed 81 = .ok (.iload 4, 2) := by decide +kernel
theorem dX12_feed_83 : decode cX12_feed 83 = .ok (.ifCond .ne 7, 3) := by decide +kernel
theorem dX12_feed_86 : decode cX12_feed 86 = .ok (.iconst 1, 1) := by decide +kernel
theorem dX12_feed_87 : decode cX12_feed 87 = .ok (.goto 20, 3) := by decide +kernel
theorem dX12_feed_90 : decode cX12_feed 90 = .ok (.aload_n 0, 1) := by decide +kernel
theorem dX12_feed_91 : decode cX12_feed 91 = .ok (.getfield 559, 3) := by decide +kernel
theorem dX12_feed_94 : decode cX12_feed 94 = .ok (.iload_n 3, 1) := by decide +kernel
theorem dX12_feed_95 : decode cX12_feed 95 = .ok (.iadd, 1) := by decide +kernel
theorem dX12_feed_96 : decode cX12_feed 96 = .ok (.sipush 16000, 3) := by decide +kernel
theorem dX12_feed_99 : decode cX12_feed 99 = .ok (.if_icmp .le 7, 3) := by decide +kernel
theorem dX12_feed_102 : decode cX12_feed 102 = .ok (.iconst 2, 1) := by decide +kernel
theorem dX12_feed_103 : decode cX12_feed 103 = .ok (.goto 4, 3) := by decide +kernel
theorem dX12_feed_106 : decode cX12_feed 106 = .ok (.iconst 0, 1) := by decide +kernel
theorem dX12_feed_107 : decode cX12_feed 107 = .ok (.invokevirtual 562, 3) := by decide +kernel
theorem dX12_feed_110 : decode cX12_feed 110 = .ok (.ifCond .eq 5, 3) := by decide +kernel
theorem dX12_feed_113 : decode cX12_feed 113 = .ok (.iconst 0, 1) := by decide +kernel
theorem dX12_feed_114 : decode cX12_feed 114 = .ok (.ireturn, 1) := by decide +kernel
theorem dX12_feed_115 : decode cX12_feed 115 = .ok (.iconst 0, 1) := by decide +kernel
theorem dX12_feed_116 : decode cX12_feed 116 = .ok (.istore 5, 2) := by decide +kernel
theorem dX12_feed_118 : decode cX12_feed 118 = .ok (.iload 5, 2) := by decide +kernel
theorem dX12_feed_120 : decode cX12_feed 120 = .ok (.iload_n 3, 1) := by decide +kernel
theorem dX12_feed_121 : decode cX12_feed 121 = .ok (.if_icmp .ge 34, 3) := by decide +kernel
theorem dX12_feed_124 : decode cX12_feed 124 = .ok (.aload_n 0, 1) := by decide +kernel
theorem dX12_feed_125 : decode cX12_feed 125 = .ok (.getfield 20, 3) := by decide +kernel
theorem dX12_feed_128 : decode cX12_feed 128 = .ok (.aload_n 0, 1) := by decide +kernel
theorem dX12_feed_129 : decode cX12_feed 129 = .ok (.dup, 1) := by decide +kernel
theorem dX12_feed_130 : decode cX12_feed 130 = .ok (.getfield 559, 3) := by decide +kernel
theorem dX12_feed_133 : decode cX12_feed 133 = .ok (.dup_x1, 1) := by decide +kernel
theorem dX12_feed_134 : decode cX12_feed 134 = .ok (.iconst 1, 1) := by decide +kernel
theorem dX12_feed_135 : decode cX12_feed 135 = .ok (.iadd, 1) := by decide +kernel
theorem dX12_feed_136 : decode cX12_feed 136 = .ok (.putfield 559, 3) := by decide +kernel
theorem dX12_feed_139 : decode cX12_feed 139 = .ok (.lload_n 1, 1) := by decide +kernel
theorem dX12_feed_140 : decode cX12_feed 140 = .ok (.bipush 8, 2) := by decide +kernel
theorem dX12_feed_142 : decode cX12_feed 142 = .ok (.iload 5, 2) := by decide +kernel
theorem dX12_feed_144 : decode cX12_feed 144 = .ok (.imul, 1) := by decide +kernel
theorem dX12_feed_145 : decode cX12_feed 145 = .ok (.lushr, 1) := by decide +kernel
theorem dX12_feed_146 : decode cX12_feed 146 = .ok (.l2i, 1) := by decide +kernel
theorem dX12_feed_147 : decode cX12_feed 147 = .ok (.i2b, 1) := by decide +kernel
theorem dX12_feed_148 : decode cX12_feed 148 = .ok (.bastore, 1) := by decide +kernel
theorem dX12_feed_149 : decode cX12_feed 149 = .ok (.iinc 5 1, 3) := by decide +kernel
theorem dX12_feed_152 : decode cX12_feed 152 = .ok (.goto (-34), 3) := by decide +kernel
theorem dX12_feed_155 : decode cX12_feed 155 = .ok (.aload_n 0, 1) := by decide +kernel
theorem dX12_feed_156 : decode cX12_feed 156 = .ok (.getfield 559, 3) := by decide +kernel
theorem dX12_feed_159 : decode cX12_feed 159 = .ok (.ireturn, 1) := by decide +kernel
def F_X12_feed (p0 : Int64) (p1 : Int32) (σ : MS) : MR :=
  bnd (fun (t_1 : Int32) (σ_2 : MS) => (
    loopF (fun (again_7 : (Int32 × Int32 × MS) → MR) (s_6 : Int32 × Int32 × MS) => (
      bnd (fun  (σ_10 : MS) => (
        bnd (fun (t_14 : Int32) (σ_15 : MS) => (
          (F_X12_refuses t_14 σ_15).bind fun u_19 =>
          if u_19.1 = 0 then (
            loopF (fun (again_24 : (Int32 × MS) → MR) (s_23 : Int32 × MS) => (
              if p1 ≤ s_23.1 then (
                some ((s_23.2.1 4), s_23.2)
              ) else (
                bnd (mI s_23.2 4 ((s_23.2.1 4) + 1)) fun σ_30 =>
                bnd (((p0.toUInt64 >>> ((8 * s_23.1).toInt64.toUInt64 &&& Int64.toUInt64 63)).toInt64).toInt32) fun (x_32 : Int32) =>
                bnd (x_32.toInt8.toInt32) fun (x_34 : Int32) =>
                if (s_23.2.1 4) < 0 ∨ 16000 ≤ (s_23.2.1 4).toNatClampNeg then none else
                bnd (mA σ_30 3 (upd (σ_30.2 3) (s_23.2.1 4).toNatClampNeg (vp_nar .byte x_34))) fun σ_38 =>
                bnd (s_23.1 + 1) fun (x_40 : Int32) =>
                again_24 (x_40, σ_38)
              )
            )) FU (0, u_19.2)
          ) else (
            some (0, u_19.2)
          )
        ) : Int32 → MS → MR) fun j_16 =>
        if s_6.1 = 0 then (
          j_16 1 σ_10
        ) else (
          if ((σ_10.1 4) + p1) ≤ 16000 then (
            j_16 0 σ_10
          ) else (
            j_16 2 σ_10
          )
        )
      ) : MS → MR) fun j_11 =>
      if p1 ≤ s_6.2.1 then (
        j_11  s_6.2.2
      ) else (
        if s_6.1 = 0 then (
          j_11  s_6.2.2
        ) else (
          bnd (((p0.toUInt64 >>> ((8 * s_6.2.1).toInt64.toUInt64 &&& Int64.toUInt64 63)).toInt64).toInt32) fun (x_55 : Int32) =>
          bnd ((x_55 &&& 255)) fun (x_57 : Int32) =>
          bnd (fun (t_59 : Int32) (σ_60 : MS) => (
            bnd (s_6.2.1 + 1) fun (x_64 : Int32) =>
            again_7 (t_59, x_64, σ_60)
          ) : Int32 → MS → MR) fun j_61 =>
          bnd (fun  (σ_66 : MS) => (
            j_61 1 σ_66
          ) : MS → MR) fun j_67 =>
          if x_57 = 10 then (
            j_67  s_6.2.2
          ) else (
            bnd (fun  (σ_73 : MS) => (
              j_61 0 σ_73
            ) : MS → MR) fun j_74 =>
            if x_57 < 32 then (
              j_74  s_6.2.2
            ) else (
              if 126 < x_57 then (
                j_74  s_6.2.2
              ) else (
                j_67  s_6.2.2
              )
            )
          )
        )
      )
    )) FU (t_1, 0, σ_2)
  ) : Int32 → MS → MR) fun j_3 =>
  bnd (fun  (σ_83 : MS) => (
    j_3 0 σ_83
  ) : MS → MR) fun j_84 =>
  if p1 < 1 then (
    j_84  σ
  ) else (
    if 8 < p1 then (
      j_84  σ
    ) else (
      j_3 1 σ
    )
  )
set_option maxHeartbeats 4000000 in
set_option maxRecDepth 100000 in
theorem m_X12_feed (l : Launch) (dC : Nat → ClassId) (dI : Nat → Nat → Nat) (cB cC cI cJ cZ cP : ClassId) (h qK qS : Nat) (ad : Nat → Nat) (hDD : mDis cB cI cZ h qK qS ad) (sz : Nat)  (p0 : Int64) (p1 : Int32) (σ : MS) (res : Int32 × MS) (hF : F_X12_feed p0 p1 σ = some res) : Met l yX12_feed (g_ws yX12_feed cX12_feed 7 (some .int)) ({ frames := 2, cells := 0, slots := 0, locals := 61 }) (va_Pc [.ref h, .long p0, .int p1] (m_B (dC, dI) [(cB, .byte), (cC, .char), (cI, .int), (cJ, .long), (cZ, .boolean), (cP, .object "StoryHouse$Play")] sz h ad qK qS (mW cB cI cZ h qK qS ad σ) g_0)) (va_Qi (fun r (_ : Unit) => r = res.1) (fun _ t => va_P (dC, dI) vwCl (mW cB cI cZ h qK qS ad res.2) t.heap) (mCells h ad sz)) 0 0 (mCells h ad sz) := by
  refine Met.ofW (cc := cX12_feed) (maxL := 7) (ret := (some .int)) (by decide) rfl ?_
  intro p e s m args below meth c s₁ B hml hv
  obtain ⟨rfl, hsz, hP, hK, hE, hKS, hX⟩ := hv
  have hx := B.exec
  have hb := B.bytes
  have hr := B.returns
  have hts0 := atoms_spec (ws := g_ws yX12_feed cX12_feed 7 (some .int)) B.pre
  have hts : ∀ w ∈ lw_good, w.before ([.ref h, .long p0, .int p1] : List Value).toArray s = true := fun w z => hts0 w (List.mem_cons_of_mem _ z)
  have hown : s.vm.findClass RX12 = some m.cls := findClass_of_methodNamed B.named
  have hlocks := B.notSynchronized
  have hS : va_S (mCells h ad sz) s.heap s.heap [] := va_S.rf
  have hl := lv_entry ([.ref h, .long p0, .int p1]) (n := 7) (Nat.le_of_ble_eq_true rfl)
  rw [lg_entry_eq]
  generalize (lg_sl ([.ref h, .long p0, .int p1]) ++ List.replicate (7 - (lg_sl ([.ref h, .long p0, .int p1])).length) Slot.unset).toArray = ls at hl ⊢
  have hl : lv_has ls 7 [(0, .ref h), (1, .long p0), (3, .int p1)] := hl
  unfold F_X12_feed at hF
  refine lv_iload_n hx hb dX12_feed_0 rfl (lv_at hl 2 rfl) ?_
  refine lv_iconst (v := 1) hx hb dX12_feed_1 (by decide +kernel) ?_
  obtain ⟨j_3, ej_3, hF_4⟩ := bnd_e hF
  clear hF
  have Jj_3 : ∀ (t_1 : Int32) (σ_2 : MS), j_3 t_1 σ_2 = some res → ∀ (H : Heap) (locs : List Loc), va_P (dC, dI) vwCl (mW cB cI cZ h qK qS ad σ_2) H → va_S (mCells h ad sz) s.heap H locs → ∀ ls : Array Slot, lv_has ls 7 [(0, .ref h), (1, .long p0), (3, .int p1)] → W p l e (headSpec (g_ws yX12_feed cX12_feed 7 (some .int)) { frames := 2, cells := 0, slots := 0, locals := 61 }).room s m ([.ref h, .long p0, .int p1] : List Value).toArray below meth c H locs 0 0 (MQ below (va_Qi (fun r (_ : Unit) => r = res.1) (fun _ t => va_P (dC, dI) vwCl (mW cB cI cZ h qK qS ad res.2) t.heap) (mCells h ad sz)) ([.ref h, .long p0, .int p1] : List Value).toArray s 0 0 (mCells h ad sz)) (F0 m 16 ls [.int t_1]) := by
    intro t_1 σ_2 hF0 H locs hP hS ls hl
    subst ej_3
    have hF_5 := hF0
    clear hF0
    refine lv_istore (lv' := [(4, .int t_1), (0, .ref h), (1, .long p0), (3, .int p1)]) hx hb dX12_feed_16 hl (by decide) rfl (fun ls hl => ?_)
    refine lv_iconst (v := 0) hx hb dX12_feed_18 (by decide +kernel) ?_
    refine lv_istore (lv' := [(5, .int 0), (4, .int t_1), (0, .ref h), (1, .long p0), (3, .int p1)]) hx hb dX12_feed_19 hl (by decide) rfl (fun ls hl => ?_)
    refine loopF_ind (P := fun (s_6 : Int32 × Int32 × MS) => ∀ (H : Heap) (locs : List Loc), va_P (dC, dI) vwCl (mW cB cI cZ h qK qS ad s_6.2.2) H → va_S (mCells h ad sz) s.heap H locs → ∀ ls : Array Slot, lv_has ls 7 [(0, .ref h), (1, .long p0), (3, .int p1), (4, .int s_6.1), (5, .int s_6.2.1)] → W p l e (headSpec (g_ws yX12_feed cX12_feed 7 (some .int)) { frames := 2, cells := 0, slots := 0, locals := 61 }).room s m ([.ref h, .long p0, .int p1] : List Value).toArray below meth c H locs 0 0 (MQ below (va_Qi (fun r (_ : Unit) => r = res.1) (fun _ t => va_P (dC, dI) vwCl (mW cB cI cZ h qK qS ad res.2) t.heap) (mCells h ad sz)) ([.ref h, .long p0, .int p1] : List Value).toArray s 0 0 (mCells h ad sz)) (F0 m 21 ls [])) ?_ _ _ hF_5 _ _ hP hS ls (lv_sub hl [2, 3, 4, 1, 0] rfl)
    intro again_7 s_6 ih_8 hF_9
    intro H locs hP hS ls hl
    refine lv_iload hx hb dX12_feed_21 (lv_at hl 4 rfl) ?_
    refine lv_iload_n hx hb dX12_feed_23 rfl (lv_at hl 2 rfl) ?_
    obtain ⟨j_11, ej_11, hF_12⟩ := bnd_e hF_9
    clear hF_9
    have Jj_11 : ∀  (σ_10 : MS), j_11  σ_10 = some res → ∀ (H : Heap) (locs : List Loc), va_P (dC, dI) vwCl (mW cB cI cZ h qK qS ad σ_10) H → va_S (mCells h ad sz) s.heap H locs → ∀ ls : Array Slot, lv_has ls 7 [(0, .ref h), (1, .long p0), (3, .int p1), (4, .int s_6.1)] → W p l e (headSpec (g_ws yX12_feed cX12_feed 7 (some .int)) { frames := 2, cells := 0, slots := 0, locals := 61 }).room s m ([.ref h, .long p0, .int p1] : List Value).toArray below meth c H locs 0 0 (MQ below (va_Qi (fun r (_ : Unit) => r = res.1) (fun _ t => va_P (dC, dI) vwCl (mW cB cI cZ h qK qS ad res.2) t.heap) (mCells h ad sz)) ([.ref h, .long p0, .int p1] : List Value).toArray s 0 0 (mCells h ad sz)) (F0 m 80 ls []) := by
      intro  σ_10 hF0 H locs hP hS ls hl
      subst ej_11
      have hF_13 := hF0
      clear hF0
      refine lv_aload_n hx hb dX12_feed_80 rfl (lv_at hl 0 rfl) ?_
      refine lv_iload hx hb dX12_feed_81 (lv_at hl 3 rfl) ?_
      obtain ⟨j_16, ej_16, hF_17⟩ := bnd_e hF_13
      clear hF_13
      have Jj_16 : ∀ (t_14 : Int32) (σ_15 : MS), j_16 t_14 σ_15 = some res → ∀ (H : Heap) (locs : List Loc), va_P (dC, dI) vwCl (mW cB cI cZ h qK qS ad σ_15) H → va_S (mCells h ad sz) s.heap H locs → ∀ ls : Array Slot, lv_has ls 7 [(0, .ref h), (1, .long p0), (3, .int p1)] → W p l e (headSpec (g_ws yX12_feed cX12_feed 7 (some .int)) { frames := 2, cells := 0, slots := 0, locals := 61 }).room s m ([.ref h, .long p0, .int p1] : List Value).toArray below meth c H locs 0 0 (MQ below (va_Qi (fun r (_ : Unit) => r = res.1) (fun _ t => va_P (dC, dI) vwCl (mW cB cI cZ h qK qS ad res.2) t.heap) (mCells h ad sz)) ([.ref h, .long p0, .int p1] : List Value).toArray s 0 0 (mCells h ad sz)) (F0 m 107 ls [.int t_14, .ref h]) := by
        intro t_14 σ_15 hF0 H locs hP hS ls hl
        subst ej_16
        have hF_18 := hF0
        clear hF0
        obtain ⟨u_19, hu_19, hF_20⟩ := Option.bind_eq_some_iff.mp hF_18
        clear hF_18
        refine m_ci hsz hS (va_runV (As := [.int t_14]) (rest := []) ⟨hx, hb, hml, hown, hts⟩ (m_X12_refuses l dC dI cB cC cI cJ cZ cP h qK qS ad hDD H.size  t_14 σ_15 _ hu_19) (cwV 1 hts (g_gV wq_1487 wq_1488 wq_2113 wq_13 wq_1489) rfl rfl rfl (by decide +kernel) ⟨Nat.le_of_ble_eq_true rfl, Nat.le_of_ble_eq_true rfl⟩) (m_preV g_bl0 hsz hK hP hS hE hKS g_to0) rfl rfl hl.1 rfl (lv_room (Nat.le_of_ble_eq_true rfl)) dX12_feed_107 ⟨Nat.le_of_ble_eq_true rfl, Nat.le_of_ble_eq_true rfl⟩) (fun H locs hP hS => ?_)
        refine lv_if_eq (tgt := 115) hx hb dX12_feed_110 (by decide) (fun c_21 => ?_) (fun c_21 => ?_)
        · have hF_22 := ipos c_21 hF_20
          clear hF_20
          refine lv_iconst (v := 0) hx hb dX12_feed_115 (by decide +kernel) ?_
          refine lv_istore (lv' := [(5, .int 0), (0, .ref h), (1, .long p0), (3, .int p1)]) hx hb dX12_feed_116 hl (by decide) rfl (fun ls hl => ?_)
          refine loopF_ind (P := fun (s_23 : Int32 × MS) => ∀ (H : Heap) (locs : List Loc), va_P (dC, dI) vwCl (mW cB cI cZ h qK qS ad s_23.2) H → va_S (mCells h ad sz) s.heap H locs → ∀ ls : Array Slot, lv_has ls 7 [(0, .ref h), (1, .long p0), (3, .int p1), (5, .int s_23.1)] → W p l e (headSpec (g_ws yX12_feed cX12_feed 7 (some .int)) { frames := 2, cells := 0, slots := 0, locals := 61 }).room s m ([.ref h, .long p0, .int p1] : List Value).toArray below meth c H locs 0 0 (MQ below (va_Qi (fun r (_ : Unit) => r = res.1) (fun _ t => va_P (dC, dI) vwCl (mW cB cI cZ h qK qS ad res.2) t.heap) (mCells h ad sz)) ([.ref h, .long p0, .int p1] : List Value).toArray s 0 0 (mCells h ad sz)) (F0 m 118 ls [])) ?_ _ _ hF_22 _ _ hP hS ls (lv_sub hl [1, 2, 3, 0] rfl)
          intro again_24 s_23 ih_25 hF_26
          intro H locs hP hS ls hl
          refine lv_iload hx hb dX12_feed_118 (lv_at hl 3 rfl) ?_
          refine lv_iload_n hx hb dX12_feed_120 rfl (lv_at hl 2 rfl) ?_
          refine lv_icmp_ge (tgt := 155) hx hb dX12_feed_121 (by decide) (fun c_27 => ?_) (fun c_27 => ?_)
          · have hF_28 := ipos c_27 hF_26
            clear hF_26
            refine lv_aload_n hx hb dX12_feed_155 rfl (lv_at hl 0 rfl) ?_
            refine va_get (D := (dC, dI)) (ci := 12) (v := .int (s_23.2.1 4)) (C := RX12) (T := TX12) (N := 123) hx hb hts ii_X12 hown hK hP 0 rfl rfl 4 (by decide) (hts (.fieldLink RX12 559 "StoryHouseModel" "taped" "I") wq_1360) (fun _ h9 => h9) rfl dX12_feed_156 ?_
            have h9 := Option.some.inj hF_28
            subst h9
            exact W.iret (v := (s_23.2.1 4)) hx hb hr (fun t ht hW => ⟨⟨(s_23.2.1 4), (), rfl, rfl, m_end ht hP⟩, hS.F ht⟩) hS.2.2 dX12_feed_159
          · have hF_29 := ineg c_27 hF_26
            clear hF_26
            refine lv_aload_n hx hb dX12_feed_124 rfl (lv_at hl 0 rfl) ?_
            refine va_get (D := (dC, dI)) (ci := 12) (v := .ref (ad 3)) (C := RX12) (T := TX12) (N := 123) hx hb hts ii_X12 hown hK hP 0 rfl rfl 3 (by decide) (hts (.fieldLink RX12 20 "StoryHouseModel" "tape" "[B") wq_1359) (fun _ h9 => h9) rfl dX12_feed_125 ?_
            refine lv_aload_n hx hb dX12_feed_128 rfl (lv_at hl 0 rfl) ?_
            refine lv_dup hx hb dX12_feed_129 rfl ?_
            refine va_get (D := (dC, dI)) (ci := 12) (v := .int (s_23.2.1 4)) (C := RX12) (T := TX12) (N := 123) hx hb hts ii_X12 hown hK hP 0 rfl rfl 4 (by decide) (hts (.fieldLink RX12 559 "StoryHouseModel" "taped" "I") wq_1360) (fun _ h9 => h9) rfl dX12_feed_130 ?_
            refine lv_dup_x1 hx hb dX12_feed_133 rfl rfl ?_
            refine lv_iconst (v := 1) hx hb dX12_feed_134 (by decide +kernel) ?_
            refine lv_iadd hx hb dX12_feed_135 ?_
            obtain ⟨σ_30, eσ_30, hF_31⟩ := bnd_e hF_29
            clear hF_29
            refine m_put (σ' := σ_30) (v := .int ((s_23.2.1 4) + 1)) (ty := .int) hx hb hts hown hK hP (hDD _ _) hS (by rw [eσ_30]; exact mwI_4) (k := 4) (by decide) (hts (.fieldLink RX12 559 "StoryHouseModel" "taped" "I") wq_1360) (fun _ h9 => h9) rfl (by decide +kernel) rfl rfl dX12_feed_136 (fun H locs hP hS => ?_)
            refine lv_lload_n hx hb dX12_feed_139 rfl (lv_at hl 1 rfl) ?_
            refine lv_bipush (v := 8) hx hb dX12_feed_140 (by decide +kernel) ?_
            refine lv_iload hx hb dX12_feed_142 (lv_at hl 3 rfl) ?_
            refine lv_imul hx hb dX12_feed_144 ?_
            refine lv_lushr hx hb dX12_feed_145 rfl ?_
            refine lv_l2i hx hb dX12_feed_146 rfl ?_
            obtain ⟨x_32, ex_32, hF_33⟩ := bnd_e hF_31
            clear hF_31
            refine m_top ex_32 ?_
            refine lv_i2b hx hb dX12_feed_147 rfl ?_
            obtain ⟨x_34, ex_34, hF_35⟩ := bnd_e hF_33
            clear hF_33
            refine m_top ex_34 ?_
            obtain ⟨g_36, hF_37⟩ := nif_e hF_35
            clear hF_35
            obtain ⟨σ_38, eσ_38, hF_39⟩ := bnd_e hF_37
            clear hF_37
            refine m_bast (σ' := σ_38) hx hb hK hP (hDD _ _) hS (q0 := 1) (t0 := 0) (f := σ_30.2 3) rfl rfl (by rw [eσ_38]; exact mwA_3) g_36 dX12_feed_148 (fun H locs hP hS => ?_)
            obtain ⟨x_40, ex_40, hF_41⟩ := bnd_e hF_39
            clear hF_39
            refine lv_iinc (v := x_40) (lv' := [(5, .int x_40), (0, .ref h), (1, .long p0), (3, .int p1)]) hx hb dX12_feed_149 hl (k := 3) rfl (by rw [ex_40]; rfl) (by decide) rfl (fun ls hl => ?_)
            refine lv_goto (tgt := 118) hx hb dX12_feed_152 (by decide) ?_
            exact ih_25 (x_40, σ_38) hF_41 _ _ hP hS ls (lv_sub hl [1, 2, 3, 0] rfl)
        · have hF_42 := ineg c_21 hF_20
          clear hF_20
          refine lv_iconst (v := 0) hx hb dX12_feed_113 (by decide +kernel) ?_
          have h9 := Option.some.inj hF_42
          subst h9
          exact W.iret (v := 0) hx hb hr (fun t ht hW => ⟨⟨0, (), rfl, rfl, m_end ht hP⟩, hS.F ht⟩) hS.2.2 dX12_feed_114
      refine lv_if_ne (tgt := 90) hx hb dX12_feed_83 (by decide) (fun c_43 => ?_) (fun c_43 => ?_)
      · have hF_45 := ineg c_43 hF_17
        clear hF_17
        refine lv_aload_n hx hb dX12_feed_90 rfl (lv_at hl 0 rfl) ?_
        refine va_get (D := (dC, dI)) (ci := 12) (v := .int (σ_10.1 4)) (C := RX12) (T := TX12) (N := 123) hx hb hts ii_X12 hown hK hP 0 rfl rfl 4 (by decide) (hts (.fieldLink RX12 559 "StoryHouseModel" "taped" "I") wq_1360) (fun _ h9 => h9) rfl dX12_feed_91 ?_
        refine lv_iload_n hx hb dX12_feed_94 rfl (lv_at hl 2 rfl) ?_
        refine lv_iadd hx hb dX12_feed_95 ?_
        refine lv_sipush (v := 16000) hx hb dX12_feed_96 (by decide +kernel) ?_
        refine lv_icmp_le (tgt := 106) hx hb dX12_feed_99 (by decide) (fun c_46 => ?_) (fun c_46 => ?_)
        · have hF_47 := ipos c_46 hF_45
          clear hF_45
          refine lv_iconst (v := 0) hx hb dX12_feed_106 (by decide +kernel) ?_
          exact Jj_16 0 σ_10 hF_47 _ _ hP hS ls (lv_sub hl [0, 1, 2] rfl)
        · have hF_48 := ineg c_46 hF_45
          clear hF_45
          refine lv_iconst (v := 2) hx hb dX12_feed_102 (by decide +kernel) ?_
          refine lv_goto (tgt := 107) hx hb dX12_feed_103 (by decide) ?_
          exact Jj_16 2 σ_10 hF_48 _ _ hP hS ls (lv_sub hl [0, 1, 2] rfl)
      · have hF_44 := ipos c_43 hF_17
        clear hF_17
        refine lv_iconst (v := 1) hx hb dX12_feed_86 (by decide +kernel) ?_
        refine lv_goto (tgt := 107) hx hb dX12_feed_87 (by decide) ?_
        exact Jj_16 1 σ_10 hF_44 _ _ hP hS ls (lv_sub hl [0, 1, 2] rfl)
    refine lv_icmp_ge (tgt := 80) hx hb dX12_feed_24 (by decide) (fun c_49 => ?_) (fun c_49 => ?_)
    · have hF_50 := ipos c_49 hF_12
      clear hF_12
      exact Jj_11  s_6.2.2 hF_50 _ _ hP hS ls (lv_sub hl [0, 1, 2, 3] rfl)
    · have hF_51 := ineg c_49 hF_12
      clear hF_12
      refine lv_iload hx hb dX12_feed_27 (lv_at hl 3 rfl) ?_
      refine lv_if_eq (tgt := 80) hx hb dX12_feed_29 (by decide) (fun c_52 => ?_) (fun c_52 => ?_)
      · have hF_53 := ipos c_52 hF_51
        clear hF_51
        exact Jj_11  s_6.2.2 hF_53 _ _ hP hS ls (lv_sub hl [0, 1, 2, 3] rfl)
      · have hF_54 := ineg c_52 hF_51
        clear hF_51
        refine lv_lload_n hx hb dX12_feed_32 rfl (lv_at hl 1 rfl) ?_
        refine lv_bipush (v := 8) hx hb dX12_feed_33 (by decide +kernel) ?_
        refine lv_iload hx hb dX12_feed_35 (lv_at hl 4 rfl) ?_
        refine lv_imul hx hb dX12_feed_37 ?_
        refine lv_lushr hx hb dX12_feed_38 rfl ?_
        refine lv_l2i hx hb dX12_feed_39 rfl ?_
        obtain ⟨x_55, ex_55, hF_56⟩ := bnd_e hF_54
        clear hF_54
        refine m_top ex_55 ?_
        refine lv_sipush (v := 255) hx hb dX12_feed_40 (by decide +kernel) ?_
        refine lv_iand hx hb dX12_feed_43 ?_
        obtain ⟨x_57, ex_57, hF_58⟩ := bnd_e hF_56
        clear hF_56
        refine m_top ex_57 ?_
        refine lv_istore (lv' := [(6, .int x_57), (0, .ref h), (1, .long p0), (3, .int p1), (4, .int s_6.1), (5, .int s_6.2.1)]) hx hb dX12_feed_44 hl (by decide) rfl (fun ls hl => ?_)
        refine lv_iload hx hb dX12_feed_46 (lv_at hl 0 rfl) ?_
        refine lv_bipush (v := 10) hx hb dX12_feed_48 (by decide +kernel) ?_
        obtain ⟨j_61, ej_61, hF_62⟩ := bnd_e hF_58
        clear hF_58
        have Jj_61 : ∀ (t_59 : Int32) (σ_60 : MS), j_61 t_59 σ_60 = some res → ∀ (H : Heap) (locs : List Loc), va_P (dC, dI) vwCl (mW cB cI cZ h qK qS ad σ_60) H → va_S (mCells h ad sz) s.heap H locs → ∀ ls : Array Slot, lv_has ls 7 [(0, .ref h), (1, .long p0), (3, .int p1), (5, .int s_6.2.1)] → W p l e (headSpec (g_ws yX12_feed cX12_feed 7 (some .int)) { frames := 2, cells := 0, slots := 0, locals := 61 }).room s m ([.ref h, .long p0, .int p1] : List Value).toArray below meth c H locs 0 0 (MQ below (va_Qi (fun r (_ : Unit) => r = res.1) (fun _ t => va_P (dC, dI) vwCl (mW cB cI cZ h qK qS ad res.2) t.heap) (mCells h ad sz)) ([.ref h, .long p0, .int p1] : List Value).toArray s 0 0 (mCells h ad sz)) (F0 m 72 ls [.int t_59]) := by
          intro t_59 σ_60 hF0 H locs hP hS ls hl
          subst ej_61
          have hF_63 := hF0
          clear hF0
          refine lv_istore (lv' := [(4, .int t_59), (0, .ref h), (1, .long p0), (3, .int p1), (5, .int s_6.2.1)]) hx hb dX12_feed_72 hl (by decide) rfl (fun ls hl => ?_)
          obtain ⟨x_64, ex_64, hF_65⟩ := bnd_e hF_63
          clear hF_63
          refine lv_iinc (v := x_64) (lv' := [(5, .int x_64), (4, .int t_59), (0, .ref h), (1, .long p0), (3, .int p1)]) hx hb dX12_feed_74 hl (k := 4) rfl (by rw [ex_64]; rfl) (by decide) rfl (fun ls hl => ?_)
          refine lv_goto (tgt := 21) hx hb dX12_feed_77 (by decide) ?_
          exact ih_8 (t_59, x_64, σ_60) hF_65 _ _ hP hS ls (lv_sub hl [2, 3, 4, 1, 0] rfl)
        obtain ⟨j_67, ej_67, hF_68⟩ := bnd_e hF_62
        clear hF_62
        have Jj_67 : ∀  (σ_66 : MS), j_67  σ_66 = some res → ∀ (H : Heap) (locs : List Loc), va_P (dC, dI) vwCl (mW cB cI cZ h qK qS ad σ_66) H → va_S (mCells h ad sz) s.heap H locs → ∀ ls : Array Slot, lv_has ls 7 [(0, .ref h), (1, .long p0), (3, .int p1), (5, .int s_6.2.1)] → W p l e (headSpec (g_ws yX12_feed cX12_feed 7 (some .int)) { frames := 2, cells := 0, slots := 0, locals := 61 }).room s m ([.ref h, .long p0, .int p1] : List Value).toArray below meth c H locs 0 0 (MQ below (va_Qi (fun r (_ : Unit) => r = res.1) (fun _ t => va_P (dC, dI) vwCl (mW cB cI cZ h qK qS ad res.2) t.heap) (mCells h ad sz)) ([.ref h, .long p0, .int p1] : List Value).toArray s 0 0 (mCells h ad sz)) (F0 m 67 ls []) := by
          intro  σ_66 hF0 H locs hP hS ls hl
          subst ej_67
          have hF_69 := hF0
          clear hF0
          refine lv_iconst (v := 1) hx hb dX12_feed_67 (by decide +kernel) ?_
          refine lv_goto (tgt := 72) hx hb dX12_feed_68 (by decide) ?_
          exact Jj_61 1 σ_66 hF_69 _ _ hP hS ls (lv_sub hl [0, 1, 2, 3] rfl)
        refine lv_icmp_eq (tgt := 67) hx hb dX12_feed_50 (by decide) (fun c_70 => ?_) (fun c_70 => ?_)
        · have hF_71 := ipos c_70 hF_68
          clear hF_68
          exact Jj_67  s_6.2.2 hF_71 _ _ hP hS ls (lv_sub hl [1, 2, 3, 5] rfl)
        · have hF_72 := ineg c_70 hF_68
          clear hF_68
          refine lv_iload hx hb dX12_feed_53 (lv_at hl 0 rfl) ?_
          refine lv_bipush (v := 32) hx hb dX12_feed_55 (by decide +kernel) ?_
          obtain ⟨j_74, ej_74, hF_75⟩ := bnd_e hF_72
          clear hF_72
          have Jj_74 : ∀  (σ_73 : MS), j_74  σ_73 = some res → ∀ (H : Heap) (locs : List Loc), va_P (dC, dI) vwCl (mW cB cI cZ h qK qS ad σ_73) H → va_S (mCells h ad sz) s.heap H locs → ∀ ls : Array Slot, lv_has ls 7 [(0, .ref h), (1, .long p0), (3, .int p1), (5, .int s_6.2.1)] → W p l e (headSpec (g_ws yX12_feed cX12_feed 7 (some .int)) { frames := 2, cells := 0, slots := 0, locals := 61 }).room s m ([.ref h, .long p0, .int p1] : List Value).toArray below meth c H locs 0 0 (MQ below (va_Qi (fun r (_ : Unit) => r = res.1) (fun _ t => va_P (dC, dI) vwCl (mW cB cI cZ h qK qS ad res.2) t.heap) (mCells h ad sz)) ([.ref h, .long p0, .int p1] : List Value).toArray s 0 0 (mCells h ad sz)) (F0 m 71 ls []) := by
            intro  σ_73 hF0 H locs hP hS ls hl
            subst ej_74
            have hF_76 := hF0
            clear hF0
            refine lv_iconst (v := 0) hx hb dX12_feed_71 (by decide +kernel) ?_
            exact Jj_61 0 σ_73 hF_76 _ _ hP hS ls (lv_sub hl [0, 1, 2, 3] rfl)
          refine lv_icmp_lt (tgt := 71) hx hb dX12_feed_57 (by decide) (fun c_77 => ?_) (fun c_77 => ?_)
          · have hF_78 := ipos c_77 hF_75
            clear hF_75
            exact Jj_74  s_6.2.2 hF_78 _ _ hP hS ls (lv_sub hl [1, 2, 3, 5] rfl)
          · have hF_79 := ineg c_77 hF_75
            clear hF_75
            refine lv_iload hx hb dX12_feed_60 (lv_at hl 0 rfl) ?_
            refine lv_bipush (v := 126) hx hb dX12_feed_62 (by decide +kernel) ?_
            refine lv_icmp_gt (tgt := 71) hx hb dX12_feed_64 (by decide) (fun c_80 => ?_) (fun c_80 => ?_)
            · have hF_81 := ipos c_80 hF_79
              clear hF_79
              exact Jj_74  s_6.2.2 hF_81 _ _ hP hS ls (lv_sub hl [1, 2, 3, 5] rfl)
            · have hF_82 := ineg c_80 hF_79
              clear hF_79
              exact Jj_67  s_6.2.2 hF_82 _ _ hP hS ls (lv_sub hl [1, 2, 3, 5] rfl)
  obtain ⟨j_84, ej_84, hF_85⟩ := bnd_e hF_4
  clear hF_4
  have Jj_84 : ∀  (σ_83 : MS), j_84  σ_83 = some res → ∀ (H : Heap) (locs : List Loc), va_P (dC, dI) vwCl (mW cB cI cZ h qK qS ad σ_83) H → va_S (mCells h ad sz) s.heap H locs → ∀ ls : Array Slot, lv_has ls 7 [(0, .ref h), (1, .long p0), (3, .int p1)] → W p l e (headSpec (g_ws yX12_feed cX12_feed 7 (some .int)) { frames := 2, cells := 0, slots := 0, locals := 61 }).room s m ([.ref h, .long p0, .int p1] : List Value).toArray below meth c H locs 0 0 (MQ below (va_Qi (fun r (_ : Unit) => r = res.1) (fun _ t => va_P (dC, dI) vwCl (mW cB cI cZ h qK qS ad res.2) t.heap) (mCells h ad sz)) ([.ref h, .long p0, .int p1] : List Value).toArray s 0 0 (mCells h ad sz)) (F0 m 15 ls []) := by
    intro  σ_83 hF0 H locs hP hS ls hl
    subst ej_84
    have hF_86 := hF0
    clear hF0
    refine lv_iconst (v := 0) hx hb dX12_feed_15 (by decide +kernel) ?_
    exact Jj_3 0 σ_83 hF_86 _ _ hP hS ls (lv_sub hl [0, 1, 2] rfl)
  refine lv_icmp_lt (tgt := 15) hx hb dX12_feed_2 (by decide) (fun c_87 => ?_) (fun c_87 => ?_)
  · have hF_88 := ipos c_87 hF_85
    clear hF_85
    exact Jj_84  σ hF_88 _ _ hP hS ls (lv_sub hl [0, 1, 2] rfl)
  · have hF_89 := ineg c_87 hF_85
    clear hF_85
    refine lv_iload_n hx hb dX12_feed_5 rfl (lv_at hl 2 rfl) ?_
    refine lv_bipush (v := 8) hx hb dX12_feed_6 (by decide +kernel) ?_
    refine lv_icmp_gt (tgt := 15) hx hb dX12_feed_8 (by decide) (fun c_90 => ?_) (fun c_90 => ?_)
    · have hF_91 := ipos c_90 hF_89
      clear hF_89
      exact Jj_84  σ hF_91 _ _ hP hS ls (lv_sub hl [0, 1, 2] rfl)
    · have hF_92 := ineg c_90 hF_89
      clear hF_89
      refine lv_iconst (v := 1) hx hb dX12_feed_11 (by decide +kernel) ?_
      refine lv_goto (tgt := 16) hx hb dX12_feed_12 (by decide) ?_
      exact Jj_3 1 σ hF_92 _ _ hP hS ls (lv_sub hl [0, 1, 2] rfl)
