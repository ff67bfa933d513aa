theorem dX12_isDone_65 : decode cX12_isDone 65 = .ok (.istore 6, 2) := by decide +kernel
theorem dX12_isDone_67 : decode cX12_isDone 67 = .ok (.iload 6, 2) := by decide +kernel
theorem dX12_isDone_69 : decode cX12_isDone 69 = .ok (.aload_n 0, 1) := by decide +kernel
theorem dX12_isDone_70 : decode cX12_isDone 70 = .ok (.getfield 13, 3) := by decide +kernel
theorem dX12_isDone_73 : decode cX12_isDone 73 = .ok (.if_icmp .ge 39, 3) := by decide +kernel
theorem dX12_isDone_76 : decode cX12_isDone 76 = .ok (.iload 5, 2) := by decide +kernel
theorem dX12_isDone_78 : decode cX12_isDone 78 = .ok (.iload 6, 2) := by decide +kernel
theorem dX12_isDone_80 : decode cX12_isDone 80 = .ok (.iload_n 1, 1) := by decide +kernel
theorem dX12_isDone_81 : decode cX12_isDone 81 = .ok (.if_icmp .eq 12, 3) := by decide +kernel
theorem dX12_isDone_84 : decode cX12_isDone 84 = .ok (.aload_n 0, 1) := by decide +kernel
theorem dX12_isDone_85 : decode cX12_isDone 85 = .ok (.iload 6, 2) := by decide +kernel
theorem dX12_isDone_87 : decode cX12_isDone 87 = .ok (.invokevirtual 349, 3) := by decide +kernel
theorem dX12_isDone_90 : decode cX12_isDone 90 = .ok (.ifCond .le 12, 3) := by decide +kernel
theorem dX12_isDone_93 : decode cX12_isDone 93 = .ok (.aload_n 0, 1) := by decide +kernel
theorem dX12_isDone_94 : decode cX12_isDone 94 = .ok (.iload 6, 2) := by decide +kernel
theorem dX12_isDone_96 : decode cX12_isDone 96 = .ok (.invokevirtual 358, 3) := by decide +kernel
theorem dX12_isDone_99 : decode cX12_isDone 99 = .ok (.goto 4, 3) := by decide +kernel
theorem dX12_isDone_102 : decode cX12_isDone 102 = .ok (.iconst 0, 1) := by decide +kernel
theorem dX12_isDone_103 : decode cX12_isDone 103 = .ok (.iadd, 1) := by decide +kernel
theorem dX12_isDone_104 : decode cX12_isDone 104 = .ok (.istore 5, 2) := by decide +kernel
theorem dX12_isDone_106 : decode cX12_isDone 106 = .ok (.iinc 6 1, 3) := by decide +kernel
theorem dX12_isDone_109 : decode cX12_isDone 109 = .ok (.goto (-42), 3) := by decide +kernel
theorem dX12_isDone_112 : decode cX12_isDone 112 = .ok (.aload_n 0, 1) := by decide +kernel
theorem dX12_isDone_113 : decode cX12_isDone 113 = .ok (.bipush 18, 2) := by decide +kernel
theorem dX12_isDone_115 : decode cX12_isDone 115 = .ok (.aload_n 0, 1) := by decide +kernel
theorem dX12_isDone_116 : decode cX12_isDone 116 = .ok (.bipush 18, 2) := by decide +kernel
theorem dX12_isDone_118 : decode cX12_isDone 118 = .ok (.invokevirtual 352, 3) := by decide +kernel
theorem dX12_isDone_121 : decode cX12_isDone 121 = .ok (.iload_n 2, 1) := by decide +kernel
theorem dX12_isDone_122 : decode cX12_isDone 122 = .ok (.i2f, 1) := by decide +kernel
theorem dX12_isDone_123 : decode cX12_isDone 123 = .ok (.iload 5, 2) := by decide +kernel
theorem dX12_isDone_125 : decode cX12_isDone 125 = .ok (.i2f, 1) := by decide +kernel
theorem dX12_isDone_126 : decode cX12_isDone 126 = .ok (.fdiv, 1) := by decide +kernel
theorem dX12_isDone_127 : decode cX12_isDone 127 = .ok (.fadd, 1) := by decide +kernel
theorem dX12_isDone_128 : decode cX12_isDone 128 = .ok (.invokevirtual 327, 3) := by decide +kernel
theorem dX12_isDone_131 : decode cX12_isDone 131 = .ok (.aload_n 0, 1) := by decide +kernel
theorem dX12_isDone_132 : decode cX12_isDone 132 = .ok (.iload_n 1, 1) := by decide +kernel
theorem dX12_isDone_133 : decode cX12_isDone 133 = .ok (.iconst 4, 1) := by decide +kernel
theorem dX12_isDone_134 : decode cX12_isDone 134 = .ok (.aload_n 0, 1) := by decide +kernel
theorem dX12_isDone_135 : decode cX12_isDone 135 = .ok (.iconst 0, 1) := by decide +kernel
theorem dX12_isDone_136 : decode cX12_isDone 136 = .ok (.invokevirtual 321, 3) := by decide +kernel
theorem dX12_isDone_139 : decode cX12_isDone 139 = .ok (.invokevirtual 331, 3) := by decide +kernel
theorem dX12_isDone_142 : decode cX12_isDone 142 = .ok (.aload_n 0, 1) := by decide +kernel
theorem dX12_isDone_143 : decode cX12_isDone 143 = .ok (.iload_n 3, 1) := by decide +kernel
theorem dX12_isDone_144 : decode cX12_isDone 144 = .ok (.iconst 5, 1) := by decide +kernel
theorem dX12_isDone_145 : decode cX12_isDone 145 = .ok (.aload_n 0, 1) := by decide +kernel
theorem dX12_isDone_146 : decode cX12_isDone 146 = .ok (.iload_n 3, 1) := by decide +kernel
theorem dX12_isDone_147 : decode cX12_isDone 147 = .ok (.iconst 5, 1) := by decide +kernel
theorem dX12_isDone_148 : decode cX12_isDone 148 = .ok (.invokevirtual 337, 3) := by decide +kernel
theorem dX12_isDone_151 : decode cX12_isDone 151 = .ok (.iconst 1, 1) := by decide +kernel
theorem dX12_isDone_152 : decode cX12_isDone 152 = .ok (.isub, 1) := by decide +kernel
theorem dX12_isDone_153 : decode cX12_isDone 153 = .ok (.invokevirtual 314, 3) := by decide +kernel
theorem dX12_isDone_156 : decode cX12_isDone 156 = .ok (.aload_n 0, 1) := by decide +kernel
theorem dX12_isDone_157 : decode cX12_isDone 157 = .ok (.iload_n 3, 1) := by decide +kernel
theorem dX12_isDone_158 : decode cX12_isDone 158 = .ok (.bipush 9, 2) := by decide +kernel
theorem dX12_isDone_160 : decode cX12_isDone 160 = .ok (.aload_n 0, 1) := by decide +kernel
theorem dX12_isDone_161 : decode cX12_isDone 161 = .ok (.iload_n 3, 1) := by decide +kernel
theorem dX12_isDone_162 : decode cX12_isDone 162 = .ok (.bipush 9, 2) := by decide +kernel
theorem dX12_isDone_164 : decode cX12_isDone 164 = .ok (.invokevirtual 337, 3) := by decide +kernel
theorem dX12_isDone_167 : decode cX12_isDone 167 = .ok (.iconst 1, 1) := by decide +kernel
theorem dX12_isDone_168 : decode cX12_isDone 168 = .ok (.iadd, 1) := by decide +kernel
theorem dX12_isDone_169 : decode cX12_isDone 169 = .ok (.invokevirtual 314, 3) := by decide +kernel
theorem dX12_isDone_172 : decode cX12_isDone 172 = .ok (.aload_n 0, 1) := by decide +kernel
theorem dX12_isDone_173 : decode cX12_isDone 173 = .ok (.iload_n 3, 1) := by decide +kernel
theorem dX12_isDone_174 : decode cX12_isDone 174 = .ok (.bipush 10, 2) := by decide +kernel
theorem dX12_isDone_176 : decode cX12_isDone 176 = .ok (.aload_n 0, 1) := by decide +kernel
theorem dX12_isDone_177 : decode cX12_isDone 177 = .ok (.iload_n 3, 1) := by decide +kernel
theorem dX12_isDone_178 : decode cX12_isDone 178 = .ok (.bipush 10, 2) := by decide +kernel
theorem dX12_isDone_180 : decode cX12_isDone 180 = .ok (.invokevirtual 337, 3) := by decide +kernel
theorem dX12_isDone_183 : decode cX12_isDone 183 = .ok (.iload_n 2, 1) := by decide +kernel
theorem dX12_isDone_184 : decode cX12_isDone 184 = .ok (.iadd, 1) := by decide +kernel
theorem dX12_isDone_185 : decode cX12_isDone 185 = .ok (.invokevirtual 314, 3) := by decide +kernel
theorem dX12_isDone_188 : decode cX12_isDone 188 = .ok (.aload_n 0, 1) := by decide +kernel
theorem dX12_isDone_189 : decode cX12_isDone 189 = .ok (.iload_n 3, 1) := by decide +kernel
theorem dX12_isDone_190 : decode cX12_isDone 190 = .ok (.bipush 11, 2) := by decide +kernel
theorem dX12_isDone_192 : decode cX12_isDone 192 = .ok (.aload_n 0, 1) := by decide +kernel
theorem dX12_isDone_193 : decode cX12_isDone 193 = .ok (.iload_n 3, 1) := by decide +kernel
theorem dX12_isDone_194 : decode cX12_isDone 194 = .ok (.bipush 11, 2) := by decide +kernel
theorem dX12_isDone_196 : decode cX12_isDone 196 = .ok (.invokevirtual 337, 3) := by decide +kernel
theorem dX12_isDone_199 : decode cX12_isDone 199 = .ok (.iload 4, 2) := by decide +kernel
theorem dX12_isDone_201 : decode cX12_isDone 201 = .ok (.iadd, 1) := by decide +kernel
theorem dX12_isDone_202 : decode cX12_isDone 202 = .ok (.invokevirtual 314, 3) := by decide +kernel
theorem dX12_isDone_205 : decode cX12_isDone 205 = .ok (.aload_n 0, 1) := by decide +kernel
theorem dX12_isDone_206 : decode cX12_isDone 206 = .ok (.iload_n 3, 1) := by decide +kernel
theorem dX12_isDone_207 : decode cX12_isDone 207 = .ok (.bipush 12, 2) := by decide +kernel
theorem dX12_isDone_209 : decode cX12_isDone 209 = .ok (.iload 4, 2) := by decide +kernel
theorem dX12_isDone_211 : decode cX12_isDone 211 = .ok (.aload_n 0, 1) := by decide +kernel
theorem dX12_isDone_212 : decode cX12_isDone 212 = .ok (.iload_n 3, 1) := by decide +kernel
theorem dX12_isDone_213 : decode cX12_isDone 213 = .ok (.bipush 12, 2) := by decide +kernel
theorem dX12_isDone_215 : decode cX12_isDone 215 = .ok (.invokevirtual 337, 3) := by decide +kernel
theorem dX12_isDone_218 : decode cX12_isDone 218 = .ok (.invokestatic 384, 3) := by decide +kernel
theorem dX12_isDone_221 : decode cX12_isDone 221 = .ok (.invokevirtual 314, 3) := by decide +kernel
theorem dX12_isDone_224 : decode cX12_isDone 224 = .ok (.aload_n 0, 1) := by decide +kernel
theorem dX12_isDone_225 : decode cX12_isDone 225 = .ok (.bipush 16, 2) := by decide +kernel
theorem dX12_isDone_227 : decode cX12_isDone 227 = .ok (.invokevirtual 321, 3) := by decide +kernel
theorem dX12_isDone_230 : decode cX12_isDone 230 = .ok (.ifCond .ne 31, 3) := by decide +kernel
theorem dX12_isDone_233 : decode cX12_isDone 233 = .ok (.aload_n 0, 1) := by decide +kernel
theorem dX12_isDone_234 : decode cX12_isDone 234 = .ok (.getfield 57, 3) := by decide +kernel
theorem dX12_isDone_237 : decode cX12_isDone 237 = .ok (.iload_n 3, 1) := by decide +kernel
theorem dX12_isDone_238 : decode cX12_isDone 238 = .ok (.iaload, 1) := by decide +kernel
theorem dX12_isDone_239 : decode cX12_isDone 239 = .ok (.ifCond .ne 22, 3) := by decide +kernel
theorem dX12_isDone_242 : decode cX12_isDone 242 = .ok (.aload_n 0, 1) := by decide +kernel
theorem dX12_isDone_243 : decode cX12_isDone 243 = .ok (.iload_n 3, 1) := by decide +kernel
theorem dX12_isDone_244 : decode cX12_isDone 244 = .ok (.iconst 2, 1) := by decide +kernel
theorem dX12_isDone_245 : decode cX12_isDone 245 = .ok (.iconst 0, 1) := by decide +kernel
theorem dX12_isDone_246 : decode cX12_isDone 246 = .ok (.invokevirtual 314, 3) := by decide +kernel
theorem dX12_isDone_249 : decode cX12_isDone 249 = .ok (.aload_n 0, 1) := by decide +kernel
theorem dX12_isDone_250 : decode cX12_isDone 250 = .ok (.iload_n 3, 1) := by decide +kernel
theorem dX12_isDone_251 : decode cX12_isDone 251 = .ok (.iconst 1, 1) := by decide +kernel
theorem dX12_isDone_252 : decode cX12_isDone 252 = .ok (.aload_n 0, 1) := by decide +kernel
theorem dX12_isDone_253 : decode cX12_isDone 253 = .ok (.bipush 17, 2) := by decide +kernel
theorem dX12_isDone_255 : decode cX12_isDone 255 = .ok (.invokevirtual 321, 3) := by decide +kernel
theorem dX12_isDone_258 : decode cX12_isDone 258 = .ok (.invokevirtual 314, 3) := by decide +kernel
theorem dX12_isDone_261 : decode cX12_isDone 261 = .ok (.aload_n 0, 1) := by decide +kernel
theorem dX12_isDone_262 : decode cX12_isDone 262 = .ok (.iload_n 1, 1) := by decide +kernel
theorem dX12_isDone_263 : decode cX12_isDone 263 = .ok (.invokevirtual 349, 3) := by decide +kernel
theorem dX12_isDone_266 : decode cX12_isDone 266 = .ok (.ifCond .ne 73, 3) := by decide +kernel
theorem dX12_isDone_269 : decode cX12_isDone 269 = .ok (.aload_n 0, 1) := by decide +kernel
theorem dX12_isDone_270 : decode cX12_isDone 270 = .ok (.getfield 57, 3) := by decide +kernel
theorem dX12_isDone_273 : decode cX12_isDone 273 = .ok (.iload_n 1, 1) := by decide +kernel
theorem dX12_isDone_274 : decode cX12_isDone 274 = .ok (.iaload, 1) := by decide +kernel
theorem dX12_isDone_275 : decode cX12_isDone 275 = .ok (.ifCond .ne 35, 3) := by decide +kernel
theorem dX12_isDone_278 : decode cX12_isDone 278 = .ok (.aload_n 0, 1) := by decide +kernel
theorem dX12_isDone_279 : decode cX12_isDone 279 = .ok (.iload_n 1, 1) := by decide +kernel
theorem dX12_isDone_280 : decode cX12_isDone 280 = .ok (.invokevirtual 387, 3) := by decide +kernel
theorem dX12_isDone_283 : decode cX12_isDone 283 = .ok (.iconst 5, 1) := by decide +kernel
theorem dX12_isDone_284 : decode cX12_isDone 284 = .ok (.if_icmp .ge 26, 3) := by decide +kernel
theorem dX12_isDone_287 : decode cX12_isDone 287 = .ok (.aload_n 0, 1) := by decide +kernel
theorem dX12_isDone_288 : decode cX12_isDone 288 = .ok (.bipush 12, 2) := by decide +kernel
theorem dX12_isDone_290 : decode cX12_isDone 290 = .ok (.iload_n 1, 1) := by decide +kernel
theorem dX12_isDone_291 : decode cX12_isDone 291 = .ok (.iadd, 1) := by decide +kernel
theorem dX12_isDone_292 : decode cX12_isDone 292 = .ok (.invokevirtual 352, 3) := by decide +kernel
theorem dX12_isDone_295 : decode cX12_isDone 295 = .ok (.aload_n 0, 1) := by decide +kernel
theorem dX12_isDone_296 : decode cX12_isDone 296 = .ok (.bipush 6, 2) := by decide +kernel
theorem dX12_isDone_298 : decode cX12_isDone 298 = .ok (.invokevirtual 321, 3) := by decide +kernel
theorem dX12_isDone_301 : decode cX12_isDone 301 = .ok (.i2f, 1) := by decide +kernel
theorem dX12_isDone_302 : decode cX12_isDone 302 = .ok (.fcmp .g, 1) := by decide +kernel
theorem dX12_isDone_303 : decode cX12_isDone 303 = .ok (.ifCond .gt 7, 3) := by decide +kernel
theorem dX12_isDone_306 : decode cX12_isDone 306 = .ok (.iconst 1, 1) := by decide +kernel
theorem dX12_isDone_307 : decode cX12_isDone 307 = .ok (.goto 4, 3) := by decide +kernel
theorem dX12_isDone_310 : decode cX12_isDone 310 = .ok (.iconst 0, 1) := by decide +kernel
theorem dX12_isDone_311 : decode cX12_isDone 311 = .ok (.istore 6, 2) := by decide +kernel
theorem dX12_isDone_313 : decode cX12_isDone 313 = .ok (.aload_n 0, 1) := by decide +kernel
theorem dX12_isDone_314 : decode cX12_isDone 314 = .ok (.iconst 4, 1) := by decide +kernel
theorem dX12_isDone_315 : decode cX12_isDone 315 = .ok (.aload_n 0, 1) := by decide +kernel
theorem dX12_isDone_316 : decode cX12_isDone 316 = .ok (.iconst 0, 1) := by decide +kernel
theorem dX12_isDone_317 : decode cX12_isDone 317 = .ok (.invokevirtual 321, 3) := by decide +kernel
theorem dX12_isDone_320 : decode cX12_isDone 320 = .ok (.iload 6, 2) := by decide +kernel
theorem dX12_isDone_322 : decode cX12_isDone 322 = .ok (.ifCond .eq 12, 3) := by decide +kernel
theorem dX12_isDone_325 : decode cX12_isDone 325 = .ok (.aload_n 0, 1) := by decide +kernel
theorem dX12_isDone_326 : decode cX12_isDone 326 = .ok (.bipush 6, 2) := by decide +kernel
theorem dX12_isDone_328 : decode cX12_isDone 328 = .ok (.invokevirtual 321, 3) := by decide +kernel
theorem dX12_isDone_331 : decode cX12_isDone 331 = .ok (.goto 4, 3) := by decide +kernel
theorem dX12_isDone_334 : decode cX12_isDone 334 = .ok (.iconst 0, 1) := by decide +kernel
theorem dX12_isDone_335 : decode cX12_isDone 335 = .ok (.iadd, 1) := by decide +kernel
theorem dX12_isDone_336 : decode cX12_isDone 336 = .ok (.invokevirtual 318, 3) := by decide +kernel
theorem dX12_isDone_339 : decode cX12_isDone 339 = .ok (.aload_n 0, 1) := by decide +kernel
theorem dX12_isDone_340 : decode cX12_isDone 340 = .ok (.getfield 172, 3) := by decide +kernel
theorem dX12_isDone_343 : decode cX12_isDone 343 = .ok (.ifCond .ne 4, 3) := by decide +kernel
theorem dX12_isDone_346 : decode cX12_isDone 346 = .ok (.return_, 1) := by decide +kernel
theorem dX12_isDone_347 : decode cX12_isDone 347 = .ok (.aload_n 0, 1) := by decide +kernel
theorem dX12_isDone_348 : decode cX12_isDone 348 = .ok (.getfield 190, 3) := by decide +kernel
theorem dX12_isDone_351 : decode cX12_isDone 351 = .ok (.iconst 4, 1) := by decide +kernel
theorem dX12_isDone_352 : decode cX12_isDone 352 = .ok (.aload_n 0, 1) := by decide +kernel
theorem dX12_isDone_353 : decode cX12_isDone 353 = .ok (.getfield 184, 3) := by decide +kernel
theorem dX12_isDone_356 : decode cX12_isDone 356 = .ok (.imul, 1) := by decide +kernel
theorem dX12_isDone_357 : decode cX12_isDone 357 = .ok (.aload_n 0, 1) := by decide +kernel
theorem dX12_isDone_358 : decode cX12_isDone 358 = .ok (.getfield 181, 3) := by decide +kernel
theorem dX12_isDone_361 : decode cX12_isDone 361 = .ok (.iastore, 1) := by decide +kernel
theorem dX12_isDone_362 : decode cX12_isDone 362 = .ok (.aload_n 0, 1) := by decide +kernel
theorem dX12_isDone_363 : decode cX12_isDone 363 = .ok (.getfield 190, 3) := by decide +kernel
theorem dX12_isDone_366 : decode cX12_isDone 366 = .ok (.iconst 4, 1) := by decide +kernel
theorem dX12_isDone_367 : decode cX12_isDone 367 = .ok (.aload_n 0, 1) := by decide +kernel
theorem dX12_isDone_368 : decode cX12_isDone 368 = .ok (.getfield 184, 3) := by decide +kernel
theorem dX12_isDone_371 : decode cX12_isDone 371 = .ok (.imul, 1) := by decide +kernel
theorem dX12_isDone_372 : decode cX12_isDone 372 = .ok (.iconst 1, 1) := by decide +kernel
theorem dX12_isDone_373 : decode cX12_isDone 373 = .ok (.iadd, 1) := by decide +kernel
theorem dX12_isDone_374 : decode cX12_isDone 374 = .ok (.iload_n 3, 1) := by decide +kernel
theorem dX12_isDone_375 : decode cX12_isDone 375 = .ok (.iastore, 1) := by decide +kernel
theorem dX12_isDone_376 : decode cX12_isDone 376 = .ok (.aload_n 0, 1) := by decide +kernel
theorem dX12_isDone_377 : decode cX12_isDone 377 = .ok (.getfield 190, 3) := by decide +kernel
theorem dX12_isDone_380 : decode cX12_isDone 380 = .ok (.iconst 4, 1) := by decide +kernel
theorem dX12_isDone_381 : decode cX12_isDone 381 = .ok (.aload_n 0, 1) := by decide +kernel
theorem dX12_isDone_382 : decode cX12_isDone 382 = .ok (.getfield 184, 3) := by decide +kernel
theorem dX12_isDone_385 : decode cX12_isDone 385 = .ok (.imul, 1) := by decide +kernel
theorem dX12_isDone_386 : decode cX12_isDone 386 = .ok (.iconst 2, 1) := by decide +kernel
theorem dX12_isDone_387 : decode cX12_isDone 387 = .ok (.iadd, 1) := by decide +kernel
theorem dX12_isDone_388 : decode cX12_isDone 388 = .ok (.iload 4, 2) := by decide +kernel
theorem dX12_isDone_390 : decode cX12_isDone 390 = .ok (.iastore, 1) := by decide +kernel
theorem dX12_isDone_391 : decode cX12_isDone 391 = .ok (.aload_n 0, 1) := by decide +kernel
theorem dX12_isDone_392 : decode cX12_isDone 392 = .ok (.getfield 190, 3) := by decide +kernel
theorem dX12_isDone_395 : decode cX12_isDone 395 = .ok (.iconst 4, 1) := by decide +kernel
theorem dX12_isDone_396 : decode cX12_isDone 396 = .ok (.aload_n 0, 1) := by decide +kernel
theorem dX12_isDone_397 : decode cX12_isDone 397 = .ok (.getfield 184, 3) := by decide +kernel
theorem dX12_isDone_400 : decode cX12_isDone 400 = .ok (.imul, 1) := by decide +kernel
theorem dX12_isDone_401 : decode cX12_isDone 401 = .ok (.iconst 3, 1) := by decide +kernel
theorem dX12_isDone_402 : decode cX12_isDone 402 = .ok (.iadd, 1) := by decide +kernel
theorem dX12_isDone_403 : decode cX12_isDone 403 = .ok (.iload_n 2, 1) := by decide +kernel
theorem dX12_isDone_404 : decode cX12_isDone 404 = .ok (.iastore, 1) := by decide +kernel
theorem dX12_isDone_405 : decode cX12_isDone 405 = .ok (.aload_n 0, 1) := by decide +kernel
theorem dX12_isDone_406 : decode cX12_isDone 406 = .ok (.dup, 1) := by decide +kernel
theorem dX12_isDone_407 : decode cX12_isDone 407 = .ok (.getfield 184, 3) := by decide +kernel
theorem dX12_isDone_410 : decode cX12_isDone 410 = .ok (.iconst 1, 1) := by decide +kernel
theorem dX12_isDone_411 : decode cX12_isDone 411 = .ok (.iadd, 1) := by decide +kernel
theorem dX12_isDone_412 : decode cX12_isDone 412 = .ok (.putfield 184, 3) := by decide +kernel
theorem dX12_isDone_415 : decode cX12_isDone 415 = .ok (.return_, 1) := by decide +kernel
theorem dX12_expires_0 : decode cX12_expires 0 = .ok (.aload_n 0, 1) := by decide +kernel
theorem dX12_expires_1 : decode cX12_expires 1 = .ok (.iload_n 1, 1) := by decide +kernel
theorem dX12_expires_2 : decode cX12_expires 2 = .ok (.iconst 1, 1) := by decide +kernel
theorem dX12_expires_3 : decode cX12_expires 3 = .ok (.invokevirtual 340, 3) := by decide +kernel
theorem dX12_expires_6 : decode cX12_expires 6 = .ok (.istore_n 3, 1) := by decide +kernel
theorem dX12_expires_7 : decode cX12_expires 7 = .ok (.aload_n 0, 1) := by decide +kernel
theorem dX12_expires_8 : decode cX12_expires 8 = .ok (.bipush 19, 2) := by decide +kernel
theorem dX12_expires_10 : decode cX12_expires 10 = .ok (.aload_n 0, 1) := by decide +kernel
theorem dX12_expires_11 : decode cX12_expires 11 = .ok (.bipush 19, 2) := by decide +kernel
theorem dX12_expires_13 : decode cX12_expires 13 = .ok (.invokevirtual 352, 3) := by decide +kernel
theorem dX12_expires_16 : decode cX12_expires 16 = .ok (.ldc_w 356, 3) := by decide +kernel
theorem dX12_expires_19 : decode cX12_expires 19 = .ok (.fmul, 1) := by decide +kernel
theorem dX12_expires_20 : decode cX12_expires 20 = .ok (.iload_n 3, 1) := by decide +kernel
theorem dX12_expires_21 : decode cX12_expires 21 = .ok (.i2f, 1) := by decide +kernel
theorem dX12_expires_22 : decode cX12_expires 22 = .ok (.aload_n 0, 1) := by decide +kernel
theorem dX12_expires_23 : decode cX12_expires 23 = .ok (.iconst 0, 1) := by decide +kernel
theorem dX12_expires_24 : decode cX12_expires 24 = .ok (.invokevirtual 321, 3) := by decide +kernel
theorem dX12_expires_27 : decode cX12_expires 27 = .ok (.aload_n 0, 1) := by decide +kernel
theorem dX12_expires_28 : decode cX12_expires 28 = .ok (.iconst 3, 1) := by decide +kernel
theorem dX12_expires_29 : decode cX12_expires 29 = .ok (.invokevirtual 321, 3) := by decide +kernel
theorem dX12_expires_32 : decode cX12_expires 32 = .ok (.isub, 1) := by decide +kernel
theorem dX12_expires_33 : decode cX12_expires 33 = .ok (.i2f, 1) := by decide +kernel
theorem dX12_expires_34 : decode cX12_expires 34 = .ok (.fdiv, 1) := by decide +kernel
theorem dX12_expires_35 : decode cX12_expires 35 = .ok (.ldc_w 357, 3) := by decide +kernel
theorem dX12_expires_38 : decode cX12_expires 38 = .ok (.fmul, 1) := by decide +kernel
theorem dX12_expires_39 : decode cX12_expires 39 = .ok (.fadd, 1) := by decide +kernel
theorem dX12_expires_40 : decode cX12_expires 40 = .ok (.invokevirtual 327, 3) := by decide +kernel
theorem dX12_expires_43 : decode cX12_expires 43 = .ok (.aload_n 0, 1) := by decide +kernel
theorem dX12_expires_44 : decode cX12_expires 44 = .ok (.bipush 19, 2) := by decide +kernel
theorem dX12_expires_46 : decode cX12_expires 46 = .ok (.invokevirtual 352, 3) := by decide +kernel
theorem dX12_expires_49 : decode cX12_expires 49 = .ok (.aload_n 0, 1) := by decide +kernel
theorem dX12_expires_50 : decode cX12_expires 50 = .ok (.bipush 7, 2) := by decide +kernel
theorem dX12_expires_52 : decode cX12_expires 52 = .ok (.invokevirtual 321, 3) := by decide +kernel
theorem dX12_expires_55 : decode cX12_expires 55 = .ok (.i2f, 1) := by decide +kernel
theorem dX12_expires_56 : decode cX12_expires 56 = .ok (.fmul, 1) := by decide +kernel
theorem dX12_expires_57 : decode cX12_expires 57 = .ok (.f2i, 1) := by decide +kernel
theorem dX12_expires_58 : decode cX12_expires 58 = .ok (.istore 4, 2) := by decide +kernel
theorem dX12_expires_60 : decode cX12_expires 60 = .ok (.aload_n 0, 1) := by decide +kernel
theorem dX12_expires_61 : decode cX12_expires 61 = .ok (.bipush 8, 2) := by decide +kernel
theorem dX12_expires_63 : decode cX12_expires 63 = .ok (.aload_n 0, 1) := by decide +kernel
theorem dX12_expires_64 : decode cX12_expires 64 = .ok (.getfield 29, 3) := by decide +kernel
theorem dX12_expires_67 : decode cX12_expires 67 = .ok (.aload_n 0, 1) := by decide +kernel
theorem dX12_expires_68 : decode cX12_expires 68 = .ok (.getfield 26, 3) := by decide +kernel
theorem dX12_expires_71 : decode cX12_expires 71 = .ok (.iload 4, 2) := by decide +kernel
theorem dX12_expires_73 : decode cX12_expires 73 = .ok (.invokestatic 384, 3) := by decide +kernel
theorem dX12_expires_76 : decode cX12_expires 76 = .ok (.invokestatic 276, 3) := by decide +kernel
theorem dX12_expires_79 : decode cX12_expires 79 = .ok (.invokevirtual 318, 3) := by decide +kernel
theorem dX12_expires_82 : decode cX12_expires 82 = .ok (.aload_n 0, 1) := by decide +kernel
theorem dX12_expires_83 : decode cX12_expires 83 = .ok (.iload_n 1, 1) := by decide +kernel
theorem dX12_expires_84 : decode cX12_expires 84 = .ok (.iconst 0, 1) := by decide +kernel
theorem dX12_expires_85 : decode cX12_expires 85 = .ok (.invokevirtual 340, 3) := by decide +kernel
theorem dX12_expires_88 : decode cX12_expires 88 = .ok (.istore 5, 2) := by decide +kernel
theorem dX12_expires_90 : decode cX12_expires 90 = .ok (.iload_n 2, 1) := by decide +kernel
theorem dX12_expires_91 : decode cX12_expires 91 = .ok (.ifCond .ne 10, 3) := by decide +kernel
theorem dX12_expires_94 : decode cX12_expires 94 = .ok (.iconst 2, 1) := by decide +kernel
theorem dX12_expires_95 : decode cX12_expires 95 = .ok (.iload 5, 2) := by decide +kernel
theorem dX12_expires_97 : decode cX12_expires 97 = .ok (.imul, 1) := by decide +kernel
theorem dX12_expires_98 : decode cX12_expires 98 = .ok (.goto 20, 3) := by decide +kernel
theorem dX12_expires_101 : decode cX12_expires 101 = .ok (.iload_n 2, 1) := by decide +kernel
theorem dX12_expires_102 : decode cX12_expires 102 = .ok (.iconst 1, 1) := by decide +kernel
theorem dX12_expires_103 : decode cX12_expires 103 = .ok (.if_icmp .ne 7, 3) := by decide +kernel
theorem dX12_expires_106 : decode cX12_expires 106 = .ok (.iload_n 3, 1) := by decide +kernel
theorem dX12_expires_107 : decode cX12_expires 107 = .ok (.goto 11, 3) := by decide +kernel
theorem dX12_expires_110 : decode cX12_expires 110 = .ok (.iload 5, 2) := by decide +kernel
theorem dX12_expires_112 : decode cX12_expires 112 = .ok (.iconst 2, 1) := by decide +kernel
theorem dX12_expires_113 : decode cX12_expires 113 = .ok (.idiv, 1) := by decide +kernel
theorem dX12_expires_114 : decode cX12_expires 114 = .ok (.iload_n 3, 1) := by decide +kernel
theorem dX12_expires_115 : decode cX12_expires 115 = .ok (.invokestatic 384, 3) := by decide +kernel
theorem dX12_expires_118 : decode cX12_expires 118 = .ok (.istore 6, 2) := by decide +kernel
theorem dX12_expires_120 : decode cX12_expires 120 = .ok (.aload_n 0, 1) := by decide +kernel
theorem dX12_expires_121 : decode cX12_expires 121 = .ok (.iload_n 1, 1) := by decide +kernel
theorem dX12_expires_122 : decode cX12_expires 122 = .ok (.iconst 0, 1) := by decide +kernel
theorem dX12_expires_123 : decode cX12_expires 123 = .ok (.aload_n 0, 1) := by decide +kernel
theorem dX12_expires_124 : decode cX12_expires 124 = .ok (.bipush 8, 2) := by decide +kernel
theorem dX12_expires_126 : decode cX12_expires 126 = .ok (.invokevirtual 321, 3) := by decide +kernel
theorem dX12_expires_129 : decode cX12_expires 129 = .ok (.aload_n 0, 1) := by decide +kernel
theorem dX12_expires_130 : decode cX12_expires 130 = .ok (.getfield 26, 3) := by decide +kernel
theorem dX12_expires_133 : decode cX12_expires 133 = .ok (.iload 6, 2) := by decide +kernel
theorem dX12_expires_135 : decode cX12_expires 135 = .ok (.invokestatic 384, 3) := by decide +kernel
theorem dX12_expires_138 : decode cX12_expires 138 = .ok (.invokestatic 276, 3) := by decide +kernel
theorem dX12_expires_141 : decode cX12_expires 141 = .ok (.invokevirtual 331, 3) := by decide +kernel
theorem dX12_expires_144 : decode cX12_expires 144 = .ok (.aload_n 0, 1) := by decide +kernel
theorem dX12_expires_145 : decode cX12_expires 145 = .ok (.iload_n 1, 1) := by decide +kernel
theorem dX12_expires_146 : decode cX12_expires 146 = .ok (.invokevirtual 358, 3) := by decide +kernel
theorem dX12_expires_149 : decode cX12_expires 149 = .ok (.i2f, 1) := by decide +kernel
theorem dX12_expires_150 : decode cX12_expires 150 = .ok (.fstore 7, 2) := by decide +kernel
theorem dX12_expires_152 : decode cX12_expires 152 = .ok (.aload_n 0, 1) := by decide +kernel
theorem dX12_expires_153 : decode cX12_expires 153 = .ok (.iconst 0, 1) := by decide +kernel
theorem dX12_expires_154 : decode cX12_expires 154 = .ok (.iload_n 1, 1) := by decide +kernel
theorem dX12_expires_155 : decode cX12_expires 155 = .ok (.iadd, 1) := by decide +kernel
theorem dX12_expires_156 : decode cX12_expires 156 = .ok (.aload_n 0, 1) := by decide +kernel
theorem dX12_expires_157 : decode cX12_expires 157 = .ok (.iconst 0, 1) := by decide +kernel
theorem dX12_expires_158 : decode cX12_expires 158 = .ok (.iload_n 1, 1) := by decide +kernel
theorem dX12_expires_159 : decode cX12_expires 159 = .ok (.iadd, 1) := by decide +kernel
theorem dX12_expires_160 : decode cX12_expires 160 = .ok (.invokevirtual 352, 3) := by decide +kernel
theorem dX12_expires_163 : decode cX12_expires 163 = .ok (.iload_n 3, 1) := by decide +kernel
theorem dX12_expires_164 : decode cX12_expires 164 = .ok (.i2f, 1) := by decide +kernel
theorem dX12_expires_165 : decode cX12_expires 165 = .ok (.fload 7, 2) := by decide +kernel
theorem dX12_expires_167 : decode cX12_expires 167 = .ok (.fdiv, 1) := by decide +kernel
theorem dX12_expires_168 : decode cX12_expires 168 = .ok (.fadd, 1) := by decide +kernel
theorem dX12_expires_169 : decode cX12_expires 169 = .ok (.invokevirtual 327, 3) := by decide +kernel
theorem dX12_expires_172 : decode cX12_expires 172 = .ok (.aload_n 0, 1) := by decide +kernel
theorem dX12_expires_173 : decode cX12_expires 173 = .ok (.bipush 6, 2) := by decide +kernel
theorem dX12_expires_175 : decode cX12_expires 175 = .ok (.iload_n 1, 1) := by decide +kernel
theorem dX12_expires_176 : decode cX12_expires 176 = .ok (.iadd, 1) := by decide +kernel
theorem dX12_expires_177 : decode cX12_expires 177 = .ok (.aload_n 0, 1) := by decide +kernel
theorem dX12_expires_178 : decode cX12_expires 178 = .ok (.iload_n 1, 1) := by decide +kernel
theorem dX12_expires_179 : decode cX12_expires 179 = .ok (.invokevirtual 349, 3) := by decide +kernel
theorem dX12_expires_182 : decode cX12_expires 182 = .ok (.ifCond .le 24, 3) := by decide +kernel
theorem dX12_expires_185 : decode cX12_expires 185 = .ok (.aload_n 0, 1) := by decide +kernel
theorem dX12_expires_186 : decode cX12_expires 186 = .ok (.iconst 0, 1) := by decide +kernel
theorem dX12_expires_187 : decode cX12_expires 187 = .ok (.iload_n 1, 1) := by decide +kernel
theorem dX12_expires_188 : decode cX12_expires 188 = .ok (.iadd, 1) := by decide +kernel
theorem dX12_expires_189 : decode cX12_expires 189 = .ok (.invokevirtual 352, 3) := by decide +kernel
theorem dX12_expires_192 : decode cX12_expires 192 = .ok (.aload_n 0, 1) := by decide +kernel
theorem dX12_expires_193 : decode cX12_expires 193 = .ok (.iload_n 1, 1) := by decide +kernel
theorem dX12_expires_194 : decode cX12_expires 194 = .ok (.iconst 0, 1) := by decide +kernel
theorem dX12_expires_195 : decode cX12_expires 195 = .ok (.invokevirtual 340, 3) := by decide +kernel
theorem dX12_expires_198 : decode cX12_expires 198 = .ok (.i2f, 1) := by decide +kernel
theorem dX12_expires_199 : decode cX12_expires 199 = .ok (.fload 7, 2) := by decide +kernel
theorem dX12_expires_201 : decode cX12_expires 201 = .ok (.fdiv, 1) := by decide +kernel
theorem dX12_expires_202 : decode cX12_expires 202 = .ok (.fadd, 1) := by decide +kernel
theorem dX12_expires_203 : decode cX12_expires 203 = .ok (.goto 10, 3) := by decide +kernel
theorem dX12_expires_206 : decode cX12_expires 206 = .ok (.aload_n 0, 1) := by decide +kernel
theorem dX12_expires_207 : decode cX12_expires 207 = .ok (.iconst 0, 1) := by decide +kernel
theorem dX12_expires_208 : decode cX12_expires 208 = .ok (.iload_n 1, 1) := by decide +kernel
theorem dX12_expires_209 : decode cX12_expires 209 = .ok (.iadd, 1) := by decide +kernel
theorem dX12_expires_210 : decode cX12_expires 210 = .ok (.invokevirtual 352, 3) := by decide +kernel
theorem dX12_expires_213 : decode cX12_expires 213 = .ok (.invokevirtual 327, 3) := by decide +kernel
theorem dX12_expires_216 : decode cX12_expires 216 = .ok (.aload_n 0, 1) := by decide +kernel
theorem dX12_expires_217 : decode cX12_expires 217 = .ok (.iload_n 1, 1) := by decide +kernel
theorem dX12_expires_218 : decode cX12_expires 218 = .ok (.iconst 1, 1) := by decide +kernel
theorem dX12_expires_219 : decode cX12_expires 219 = .ok (.iconst 0, 1) := by decide +kernel
theorem dX12_expires_220 : decode cX12_expires 220 = .ok (.invokevirtual 331, 3) := by decide +kernel
theorem dX12_expires_223 : decode cX12_expires 223 = .ok (.aload_n 0, 1) := by decide +kernel
theorem dX12_expires_224 : decode cX12_expires 224 = .ok (.iconst 2, 1) := by decide +kernel
theorem dX12_expires_225 : decode cX12_expires 225 = .ok (.iconst (-1), 1) := by decide +kernel
theorem dX12_expires_226 : decode cX12_expires 226 = .ok (.invokevirtual 318, 3) := by decide +kernel
theorem dX12_expires_229 : decode cX12_expires 229 = .ok (.aload_n 0, 1) := by decide +kernel
theorem dX12_expires_230 : decode cX12_expires 230 = .ok (.iload_n 1, 1) := by decide +kernel
theorem dX12_expires_231 : decode cX12_expires 231 = .ok (.iload_n 2, 1) := by decide +kernel
theorem dX12_expires_232 : decode cX12_expires 232 = .ok (.iload_n 3, 1) := by decide +kernel
theorem dX12_expires_233 : decode cX12_expires 233 = .ok (.invokevirtual 390, 3) := by decide +kernel
theorem dX12_expires_236 : decode cX12_expires 236 = .ok (.aload_n 0, 1) := by decide +kernel
theorem dX12_expires_237 : decode cX12_expires 237 = .ok (.getfield 172, 3) := by decide +kernel
theorem dX12_expires_240 : decode cX12_expires 240 = .ok (.ifCond .ne 4, 3) := by decide +kernel
theorem dX12_expires_243 : decode cX12_expires 243 = .ok (.return_, 1) := by decide +kernel
theorem dX12_expires_244 : decode cX12_expires 244 = .ok (.aload_n 0, 1) := by decide +kernel
theorem dX12_expires_245 : decode cX12_expires 245 = .ok (.getfield 193, 3) := by decide +kernel
theorem dX12_expires_248 : decode cX12_expires 248 = .ok (.iconst 4, 1) := by decide +kernel
theorem dX12_expires_249 : decode cX12_expires 249 = .ok (.aload_n 0, 1) := by decide +kernel
theorem dX12_expires_250 : decode cX12_expires 250 = .ok (.getfield 187, 3) := by decide +kernel
theorem dX12_expires_253 : decode cX12_expires 253 = .ok (.imul, 1) := by decide +kernel
theorem dX12_expires_254 : decode cX12_expires 254 = .ok (.aload_n 0, 1) := by decide +kernel
theorem dX12_expires_255 : decode cX12_expires 255 = .ok (.getfield 181, 3) := by decide +kernel
theorem dX12_expires_258 : decode cX12_expires 258 = .ok (.iastore, 1) := by decide +kernel
theorem dX12_expires_259 : decode cX12_expires 259 = .ok (.aload_n 0, 1) := by decide +kernel
theorem dX12_expires_260 : decode cX12_expires 260 = .ok (.getfield 193, 3) := by decide +kernel
theorem dX12_expires_263 : decode cX12_expires 263 = .ok (.iconst 4, 1) := by decide +kernel
theorem dX12_expires_264 : decode cX12_expires 264 = .ok (.aload_n 0, 1) := by decide +kernel
theorem dX12_expires_265 : decode cX12_expires 265 = .ok (.getfield 187, 3) := by decide +kernel
theorem dX12_expires_268 : decode cX12_expires 268 = .ok (.imul, 1) := by decide +kernel
theorem dX12_expires_269 : decode cX12_expires 269 = .ok (.iconst 1, 1) := by decide +kernel
theorem dX12_expires_270 : decode cX12_expires 270 = .ok (.iadd, 1) := by decide +kernel
theorem dX12_expires_271 : decode cX12_expires 271 = .ok (.iload_n 1, 1) := by decide +kernel
theorem dX12_expires_272 : decode cX12_expires 272 = .ok (.iastore, 1) := by decide +kernel
theorem dX12_expires_273 : decode cX12_expires 273 = .ok (.aload_n 0, 1) := by decide +kernel
theorem dX12_expires_274 : decode cX12_expires 274 = .ok (.getfield 193, 3) := by decide +kernel
theorem dX12_expires_277 : decode cX12_expires 277 = .ok (.iconst 4, 1) := by decide +kernel
theorem dX12_expires_278 : decode cX12_expires 278 = .ok (.aload_n 0, 1) := by decide +kernel
theorem dX12_expires_279 : decode cX12_expires 279 = .ok (.getfield 187, 3) := by decide +kernel
theorem dX12_expires_282 : decode cX12_expires 282 = .ok (.imul, 1) := by decide +kernel
theorem dX12_expires_283 : decode cX12_expires 283 = .ok (.iconst 2, 1) := by decide +kernel
theorem dX12_expires_284 : decode cX12_expires 284 = .ok (.iadd, 1) := by decide +kernel
theorem dX12_expires_285 : decode cX12_expires 285 = .ok (.iload_n 2, 1) := by decide +kernel
theorem dX12_expires_286 : decode cX12_expires 286 = .ok (.iastore, 1) := by decide +kernel
theorem dX12_expires_287 : decode cX12_expires 287 = .ok (.aload_n 0, 1) := by decide +kernel
theorem dX12_expires_288 : decode cX12_expires 288 = .ok (.getfield 193, 3) := by decide +kernel
theorem dX12_expires_291 : decode cX12_expires 291 = .ok (.iconst 4, 1) := by decide +kernel
theorem dX12_expires_292 : decode cX12_expires 292 = .ok (.aload_n 0, 1) := by decide +kernel
theorem dX12_expires_293 : decode cX12_expires 293 = .ok (.getfield 187, 3) := by decide +kernel
theorem dX12_expires_296 : decode cX12_expires 296 = .ok (.imul, 1) := by decide +kernel
theorem dX12_expires_297 : decode cX12_expires 297 = .ok (.iconst 3, 1) := by decide +kernel
theorem dX12_expires_298 : decode cX12_expires 298 = .ok (.iadd, 1) := by decide +kernel
theorem dX12_expires_299 : decode cX12_expires 299 = .ok (.iload_n 3, 1) := by decide +kernel
theorem dX12_expires_300 : decode cX12_expires 300 = .ok (.iastore, 1) := by decide +kernel
theorem dX12_expires_301 : decode cX12_expires 301 = .ok (.aload_n 0, 1) := by decide +kernel
theorem dX12_expires_302 : decode cX12_expires 302 = .ok (.dup, 1) := by decide +kernel
theorem dX12_expires_303 : decode cX12_expires 303 = .ok (.getfield 187, 3) := by decide +kernel
theorem dX12_expires_306 : decode cX12_expires 306 = .ok (.iconst 1, 1) := by decide +kernel
theorem dX12_expires_307 : decode cX12_expires 307 = .ok (.iadd, 1) := by decide +kernel
theorem dX12_expires_308 : decode cX12_expires 308 = .ok (.putfield 187, 3) := by decide +kernel
theorem dX12_expires_311 : decode cX12_expires 311 = .ok (.return_, 1) := by decide +kernel
theorem dX12_writes_0 : decode cX12_writes 0 = .ok (.aload_n 0, 1) := by decide +kernel
theorem dX12_writes_1 : decode cX12_writes 1 = .ok (.bipush 9, 2) := by decide +kernel
theorem dX12_writes_3 : decode cX12_writes 3 = .ok (.invokevirtual 321, 3) := by decide +kernel
theorem dX12_writes_6 : decode cX12_writes 6 = .ok (.bipush 40, 2) := by decide +kernel
theorem dX12_writes_8 : decode cX12_writes 8 = .ok (.if_icmp .ne 50, 3) := by decide +kernel
theorem dX12_writes_11 : decode cX12_writes 11 = .ok (.iconst 0, 1) := by decide +kernel
theorem dX12_writes_12 : decode cX12_writes 12 = .ok (.istore 4, 2) := by decide +kernel
theorem dX12_writes_14 : decode cX12_writes 14 = .ok (.iload 4, 2) := by decide +kernel
theorem dX12_writes_16 : decode cX12_writes 16 = .ok (.sipush 156, 3) := by decide +kernel
theorem dX12_writes_19 : decode cX12_writes 19 = .ok (.if_icmp .ge 31, 3) := by decide +kernel
theorem dX12_writes_22 : decode cX12_writes 22 = .ok (.aload_n 0, 1) := by decide +kernel
theorem dX12_writes_23 : decode cX12_writes 23 = .ok (.sipush 598, 3) := by decide +kernel
theorem dX12_writes_26 : decode cX12_writes 26 = .ok (.iload 4, 2) := by decide +kernel
theorem dX12_writes_28 : decode cX12_writes 28 = .ok (.iadd, 1) := by decide +kernel
theorem dX12_writes_29 : decode cX12_writes 29 = .ok (.aload_n 0, 1) := by decide +kernel
theorem dX12_writes_30 : decode cX12_writes 30 = .ok (.sipush 598, 3) := by decide +kernel
theorem dX12_writes_33 : decode cX12_writes 33 = .ok (.iload 4, 2) := by decide +kernel
theorem dX12_writes_35 : decode cX12_writes 35 = .ok (.iadd, 1) := by decide +kernel
theorem dX12_writes_36 : decode cX12_writes 36 = .ok (.iconst 4, 1) := by decide +kernel
theorem dX12_writes_37 : decode cX12_writes 37 = .ok (.iadd, 1) := by decide +kernel
theorem dX12_writes_38 : decode cX12_writes 38 = .ok (.invokevirtual 321, 3) := by decide +kernel
theorem dX12_writes_41 : decode cX12_writes 41 = .ok (.invokevirtual 318, 3) := by decide +kernel
theorem dX12_writes_44 : decode cX12_writes 44 = .ok (.iinc 4 1, 3) := by decide +kernel
theorem dX12_writes_47 : decode cX12_writes 47 = .ok (.goto (-33), 3) := by decide +kernel
theorem dX12_writes_50 : decode cX12_writes 50 = .ok (.aload_n 0, 1) := by decide +kernel
theorem dX12_writes_51 : decode cX12_writes 51 = .ok (.bipush 9, 2) := by decide +kernel
theorem dX12_writes_53 : decode cX12_writes 53 = .ok (.bipush 39, 2) := by decide +kernel
theorem dX12_writes_55 : decode cX12_writes 55 = .ok (.invokevirtual 318, 3) := by decide +kernel
theorem dX12_writes_58 : decode cX12_writes 58 = .ok (.sipush 598, 3) := by decide +kernel
theorem dX12_writes_61 : decode cX12_writes 61 = .ok (.iconst 4, 1) := by decide +kernel
theorem dX12_writes_62 : decode cX12_writes 62 = .ok (.aload_n 0, 1) := by decide +kernel
theorem dX12_writes_63 : decode cX12_writes 63 = .ok (.bipush 9, 2) := by decide +kernel
theorem dX12_writes_65 : decode cX12_writes 65 = .ok (.invokevirtual 321, 3) := by decide +kernel
theorem dX12_writes_68 : decode cX12_writes 68 = .ok (.imul, 1) := by decide +kernel
theorem dX12_writes_69 : decode cX12_writes 69 = .ok (.iadd, 1) := by decide +kernel
theorem dX12_writes_70 : decode cX12_writes 70 = .ok (.istore 4, 2) := by decide +kernel
theorem dX12_writes_72 : decode cX12_writes 72 = .ok (.aload_n 0, 1) := by decide +kernel
theorem dX12_writes_73 : decode cX12_writes 73 = .ok (.iload 4, 2) := by decide +kernel
theorem dX12_writes_75 : decode cX12_writes 75 = .ok (.aload_n 0, 1) := by decide +kernel
theorem dX12_writes_76 : decode cX12_writes 76 = .ok (.iconst 0, 1) := by decide +kernel
theorem dX12_writes_77 : decode cX12_writes 77 = .ok (.invokevirtual 321, 3) := by decide +kernel
theorem dX12_writes_80 : decode cX12_writes 80 = .ok (.invokevirtual 318, 3) := by decide +kernel
theorem dX12_writes_83 : decode cX12_writes 83 = .ok (.aload_n 0, 1) := by decide +kernel
theorem dX12_writes_84 : decode cX12_writes 84 = .ok (.iload 4, 2) := by decide +kernel
theorem dX12_writes_86 : decode cX12_writes 86 = .ok (.iconst 1, 1) := by decide +kernel
theorem dX12_writes_87 : decode cX12_writes 87 = .ok (.iadd, 1) := by decide +kernel
theorem dX12_writes_88 : decode cX12_writes 88 = .ok (.iload_n 1, 1) := by decide +kernel
theorem dX12_writes_89 : decode cX12_writes 89 = .ok (.invokevirtual 318, 3) := by decide +kernel
theorem dX12_writes_92 : decode cX12_writes 92 = .ok (.aload_n 0, 1) := by decide +kernel
theorem dX12_writes_93 : decode cX12_writes 93 = .ok (.iload 4, 2) := by decide +kernel
theorem dX12_writes_95 : decode cX12_writes 95 = .ok (.iconst 2, 1) := by decide +kernel
theorem dX12_writes_96 : decode cX12_writes 96 = .ok (.iadd, 1) := by decide +kernel
theorem dX12_writes_97 : decode cX12_writes 97 = .ok (.iload_n 2, 1) := by decide +kernel
theorem dX12_writes_98 : decode cX12_writes 98 = .ok (.invokevirtual 318, 3) := by decide +kernel
theorem dX12_writes_101 : decode cX12_writes 101 = .ok (.aload_n 0, 1) := by decide +kernel
theorem dX12_writes_102 : decode cX12_writes 102 = .ok (.iload 4, 2) := by decide +kernel
theorem dX12_writes_104 : decode cX12_writes 104 = .ok (.iconst 3, 1) := by decide +kernel
theorem dX12_writes_105 : decode cX12_writes 105 = .ok (.iadd, 1) := by decide +kernel
theorem dX12_writes_106 : decode cX12_writes 106 = .ok (.iload_n 3, 1) := by decide +kernel
theorem dX12_writes_107 : decode cX12_writes 107 = .ok (.invokevirtual 318, 3) := by decide +kernel
theorem dX12_writes_110 : decode cX12_writes 110 = .ok (.aload_n 0, 1) := by decide +kernel
theorem dX12_writes_111 : decode cX12_writes 111 = .ok (.bipush 9, 2) := by decide +kernel
theorem dX12_writes_113 : decode cX12_writes 113 = .ok (.aload_n 0, 1) := by decide +kernel
theorem dX12_writes_114 : decode cX12_writes 114 = .ok (.bipush 9, 2) := by decide +kernel
theorem dX12_writes_116 : decode cX12_writes 116 = .ok (.invokevirtual 321, 3) := by decide +kernel
theorem dX12_writes_119 : decode cX12_writes 119 = .ok (.iconst 1, 1) := by decide +kernel
theorem dX12_writes_120 : decode cX12_writes 120 = .ok (.iadd, 1) := by decide +kernel
theorem dX12_writes_121 : decode cX12_writes 121 = .ok (.invokevirtual 318, 3) := by decide +kernel
theorem dX12_writes_124 : decode cX12_writes 124 = .ok (.return_, 1) := by decide +kernel
theorem dX12_goesOn_0 : decode cX12_goesOn 0 = .ok (.aload_n 0, 1) := by decide +kernel
theorem dX12_goesOn_1 : decode cX12_goesOn 1 = .ok (.dup, 1) := by decide +kernel
theorem dX12_goesOn_2 : decode cX12_goesOn 2 = .ok (.getfield 181, 3) := by decide +kernel
theorem dX12_goesOn_5 : decode cX12_goesOn 5 = .ok (.iconst 1, 1) := by decide +kernel
theorem dX12_goesOn_6 : decode cX12_goesOn 6 = .ok (.iadd, 1) := by decide +kernel
theorem dX12_goesOn_7 : decode cX12_goesOn 7 = .ok (.putfield 181, 3) := by decide +kernel
theorem dX12_goesOn_10 : decode cX12_goesOn 10 = .ok (.aload_n 0, 1) := by decide +kernel
theorem dX12_goesOn_11 : decode cX12_goesOn 11 = .ok (.iconst 5, 1) := by decide +kernel
theorem dX12_goesOn_12 : decode cX12_goesOn 12 = .ok (.invokevirtual 321, 3) := by decide +kernel
theorem dX12_goesOn_15 : decode cX12_goesOn 15 = .ok (.ifCond .le 27, 3) := by decide +kernel
theorem dX12_goesOn_18 : decode cX12_goesOn 18 = .ok (.aload_n 0, 1) := by decide +kernel
theorem dX12_goesOn_19 : decode cX12_goesOn 19 = .ok (.iconst 5, 1) := by decide +kernel
theorem dX12_goesOn_20 : decode cX12_goesOn 20 = .ok (.aload_n 0, 1) := by decide +kernel
theorem dX12_goesOn_21 : decode cX12_goesOn 21 = .ok (.iconst 5, 1) := by decide +kernel
theorem dX12_goesOn_22 : decode cX12_goesOn 22 = .ok (.invokevirtual 321, 3) := by decide +kernel
theorem dX12_goesOn_25 : decode cX12_goesOn 25 = .ok (.iconst 1, 1) := by decide +kernel
theorem dX12_goesOn_26 : decode cX12_goesOn 26 = .ok (.isub, 1) := by decide +kernel
theorem dX12_goesOn_27 : decode cX12_goesOn 27 = .ok (.invokevirtual 318, 3) := by decide +kernel
theorem dX12_goesOn_30 : decode cX12_goesOn 30 = .ok (.aload_n 0, 1) := by decide +kernel
theorem dX12_goesOn_31 : decode cX12_goesOn 31 = .ok (.iconst 5, 1) := by decide +kernel
theorem dX12_goesOn_32 : decode cX12_goesOn 32 = .ok (.invokevirtual 321, 3) := by decide +kernel
theorem dX12_goesOn_35 : decode cX12_goesOn 35 = .ok (.ifCond .ne 7, 3) := by decide +kernel
theorem dX12_goesOn_38 : decode cX12_goesOn 38 = .ok (.aload_n 0, 1) := by decide +kernel
theorem dX12_goesOn_39 : decode cX12_goesOn 39 = .ok (.invokevirtual 393, 3) := by decide +kernel
theorem dX12_goesOn_42 : decode cX12_goesOn 42 = .ok (.iconst 0, 1) := by decide +kernel
theorem dX12_goesOn_43 : decode cX12_goesOn 43 = .ok (.istore_n 1, 1) := by decide +kernel
theorem dX12_goesOn_44 : decode cX12_goesOn 44 = .ok (.iload_n 1, 1) := by decide +kernel
theorem dX12_goesOn_45 : decode cX12_goesOn 45 = .ok (.aload_n 0, 1) := by decide +kernel
theorem dX12_goesOn_46 : decode cX12_goesOn 46 = .ok (.getfield 13, 3) := by decide +kernel
theorem dX12_goesOn_49 : decode cX12_goesOn 49 = .ok (.if_icmp .ge 63, 3) := by decide +kernel
theorem dX12_goesOn_52 : decode cX12_goesOn 52 = .ok (.aload_n 0, 1) := by decide +kernel
theorem dX12_goesOn_53 : decode cX12_goesOn 53 = .ok (.iload_n 1, 1) := by decide +kernel
theorem dX12_goesOn_54 : decode cX12_goesOn 54 = .ok (.bipush 8, 2) := by decide +kernel
theorem dX12_goesOn_56 : decode cX12_goesOn 56 = .ok (.invokevirtual 337, 3) := by decide +kernel
theorem dX12_goesOn_59 : decode cX12_goesOn 59 = .ok (.ifCond .eq 47, 3) := by decide +kernel
theorem dX12_goesOn_62 : decode cX12_goesOn 62 = .ok (.aload_n 0, 1) := by decide +kernel
theorem dX12_goesOn_63 : decode cX12_goesOn 63 = .ok (.iload_n 1, 1) := by decide +kernel
theorem dX12_goesOn_64 : decode cX12_goesOn 64 = .ok (.iconst 2, 1) := by decide +kernel
theorem dX12_goesOn_65 : decode cX12_goesOn 65 = .ok (.invokevirtual 337, 3) := by decide +kernel
theorem dX12_goesOn_68 : decode cX12_goesOn 68 = .ok (.iconst 1, 1) := by decide +kernel
theorem dX12_goesOn_69 : decode cX12_goesOn 69 = .ok (.if_icmp .ne 6, 3) := by decide +kernel
theorem dX12_goesOn_72 : decode cX12_goesOn 72 = .ok (.goto 34, 3) := by decide +kernel
theorem dX12_goesOn_75 : decode cX12_goesOn 75 = .ok (.aload_n 0, 1) := by decide +kernel
theorem dX12_goesOn_76 : decode cX12_goesOn 76 = .ok (.iload_n 1, 1) := by decide +kernel
theorem dX12_goesOn_77 : decode cX12_goesOn 77 = .ok (.iconst 1, 1) := by decide +kernel
theorem dX12_goesOn_78 : decode cX12_goesOn 78 = .ok (.invokevirtual 337, 3) := by decide +kernel
theorem dX12_goesOn_81 : decode cX12_goesOn 81 = .ok (.ifCond .le 20, 3) := by decide +kernel
theorem dX12_goesOn_84 : decode cX12_goesOn 84 = .ok (.aload_n 0, 1) := by decide +kernel
theorem dX12_goesOn_85 : decode cX12_goesOn 85 = .ok (.iload_n 1, 1) := by decide +kernel
theorem dX12_goesOn_86 : decode cX12_goesOn 86 = .ok (.iconst 1, 1) := by decide +kernel
theorem dX12_goesOn_87 : decode cX12_goesOn 87 = .ok (.aload_n 0, 1) := by decide +kernel
theorem dX12_goesOn_88 : decode cX12_goesOn 88 = .ok (.iload_n 1, 1) := by decide +kernel
theorem dX12_goesOn_89 : decode cX12_goesOn 89 = .ok (.iconst 1, 1) := by decide +kernel
theorem dX12_goesOn_90 : decode cX12_goesOn 90 = .ok (.invokevirtual 337, 3) := by decide +kernel
theorem dX12_goesOn_93 : decode cX12_goesOn 93 = .ok (.iconst 1, 1) := by decide +kernel
theorem dX12_goesOn_94 : decode cX12_goesOn 94 = .ok (.isub, 1) := by decide +kernel
theorem dX12_goesOn_95 : decode cX12_goesOn 95 = .ok (.invokevirtual 314, 3) := by decide +kernel
theorem dX12_goesOn_98 : decode cX12_goesOn 98 = .ok (.goto 8, 3) := by decide +kernel
theorem dX12_goesOn_101 : decode cX12_goesOn 101 = .ok (.aload_n 0, 1) := by decide +kernel
theorem dX12_goesOn_102 : decode cX12_goesOn 102 = .ok (.iload_n 1, 1) := by decide +kernel
theorem dX12_goesOn_103 : decode cX12_goesOn 103 = .ok (.invokevirtual 396, 3) := by decide +kernel
theorem dX12_goesOn_106 : decode cX12_goesOn 106 = .ok (.iinc 1 1, 3) := by decide +kernel
theorem dX12_goesOn_109 : decode cX12_goesOn 109 = .ok (.goto (-65), 3) := by decide +kernel
theorem dX12_goesOn_112 : decode cX12_goesOn 112 = .ok (.aload_n 0, 1) := by decide +kernel
theorem dX12_goesOn_113 : decode cX12_goesOn 113 = .ok (.iconst 5, 1) := by decide +kernel
theorem dX12_goesOn_114 : decode cX12_goesOn 114 = .ok (.invokevirtual 321, 3) := by decide +kernel
theorem dX12_goesOn_117 : decode cX12_goesOn 117 = .ok (.ifCond .ne 7, 3) := by decide +kernel
theorem dX12_goesOn_120 : decode cX12_goesOn 120 = .ok (.aload_n 0, 1) := by decide +kernel
theorem dX12_goesOn_121 : decode cX12_goesOn 121 = .ok (.invokevirtual 399, 3) := by decide +kernel
theorem dX12_goesOn_124 : decode cX12_goesOn 124 = .ok (.aload_n 0, 1) := by decide +kernel
theorem dX12_goesOn_125 : decode cX12_goesOn 125 = .ok (.iconst 0, 1) := by decide +kernel
theorem dX12_goesOn_126 : decode cX12_goesOn 126 = .ok (.aload_n 0, 1) := by decide +kernel
theorem dX12_goesOn_127 : decode cX12_goesOn 127 = .ok (.iconst 0, 1) := by decide +kernel
theorem dX12_goesOn_128 : decode cX12_goesOn 128 = .ok (.invokevirtual 321, 3) := by decide +kernel
theorem dX12_goesOn_131 : decode cX12_goesOn 131 = .ok (.iconst 1, 1) := by decide +kernel
theorem dX12_goesOn_132 : decode cX12_goesOn 132 = .ok (.iadd, 1) := by decide +kernel
theorem dX12_goesOn_133 : decode cX12_goesOn 133 = .ok (.invokevirtual 318, 3) := by decide +kernel
theorem dX12_goesOn_136 : decode cX12_goesOn 136 = .ok (.return_, 1) := by decide +kernel
theorem dX12_goesOnFor_0 : decode cX12_goesOnFor 0 = .ok (.iconst 0, 1) := by decide +kernel
theorem dX12_goesOnFor_1 : decode cX12_goesOnFor 1 = .ok (.istore_n 2, 1) := by decide +kernel
theorem dX12_goesOnFor_2 : decode cX12_goesOnFor 2 = .ok (.iload_n 2, 1) := by decide +kernel
theorem dX12_goesOnFor_3 : decode cX12_goesOnFor 3 = .ok (.iload_n 1, 1) := by decide +kernel
theorem dX12_goesOnFor_4 : decode cX12_goesOnFor 4 = .ok (.if_icmp .ge 13, 3) := by decide +kernel
theorem dX12_goesOnFor_7 : decode cX12_goesOnFor 7 = .ok (.aload_n 0, 1) := by decide +kernel
theorem dX12_goesOnFor_8 : decode cX12_goesOnFor 8 = .ok (.invokevirtual 402, 3) := by decide +kernel
theorem dX12_goesOnFor_11 : decode cX12_goesOnFor 11 = .ok (.iinc 2 1, 3) := by decide +kernel
theorem dX12_goesOnFor_14 : decode cX12_goesOnFor 14 = .ok (.goto (-12), 3) := by decide +kernel
theorem dX12_goesOnFor_17 : decode cX12_goesOnFor 17 = .ok (.return_, 1) := by decide +kernel
theorem dX12_isProcess_0 : decode cX12_isProcess 0 = .ok (.iload_n 1, 1) := by decide +kernel
theorem dX12_isProcess_1 : decode cX12_isProcess 1 = .ok (.iconst 0, 1) := by decide +kernel
theorem dX12_isProcess_2 : decode cX12_isProcess 2 = .ok (.aload_n 0, 1) := by decide +kernel
theorem dX12_isProcess_3 : decode cX12_isProcess 3 = .ok (.getfield 13, 3) := by decide +kernel
theorem dX12_isProcess_6 : decode cX12_isProcess 6 = .ok (.iconst 1, 1) := by decide +kernel
theorem dX12_isProcess_7 : decode cX12_isProcess 7 = .ok (.isub, 1) := by decide +kernel
theorem dX12_isProcess_8 : decode cX12_isProcess 8 = .ok (.invokestatic 262, 3) := by decide +kernel
theorem dX12_isProcess_11 : decode cX12_isProcess 11 = .ok (.ireturn, 1) := by decide +kernel
theorem dX12_has_0 : decode cX12_has 0 = .ok (.aload_n 0, 1) := by decide +kernel
theorem dX12_has_1 : decode cX12_has 1 = .ok (.invokevirtual 324, 3) := by decide +kernel
theorem dX12_has_4 : decode cX12_has 4 = .ok (.iload_n 1, 1) := by decide +kernel
theorem dX12_has_5 : decode cX12_has 5 = .ok (.bipush 14, 2) := by decide +kernel
theorem dX12_has_7 : decode cX12_has 7 = .ok (.if_icmp .ne 8, 3) := by decide +kernel
theorem dX12_has_10 : decode cX12_has 10 = .ok (.aload_n 0, 1) := by decide +kernel
theorem dX12_has_11 : decode cX12_has 11 = .ok (.getfield 211, 3) := by decide +kernel
theorem dX12_has_14 : decode cX12_has 14 = .ok (.ireturn, 1) := by decide +kernel
theorem dX12_has_15 : decode cX12_has 15 = .ok (.aload_n 0, 1) := by decide +kernel
theorem dX12_has_16 : decode cX12_has 16 = .ok (.getfield 7, 3) := by decide +kernel
theorem dX12_has_19 : decode cX12_has 19 = .ok (.ifCond .ne 40, 3) := by decide +kernel
theorem dX12_has_22 : decode cX12_has 22 = .ok (.iload_n 1, 1) := by decide +kernel
theorem dX12_has_23 : decode cX12_has 23 = .ok (.iconst 4, 1) := by decide +kernel
theorem dX12_has_24 : decode cX12_has 24 = .ok (.if_icmp .eq 15, 3) := by decide +kernel
theorem dX12_has_27 : decode cX12_has 27 = .ok (.iload_n 1, 1) := by decide +kernel
theorem dX12_has_28 : decode cX12_has 28 = .ok (.bipush 6, 2) := by decide +kernel
theorem dX12_has_30 : decode cX12_has 30 = .ok (.if_icmp .eq 9, 3) := by decide +kernel
theorem dX12_has_33 : decode cX12_has 33 = .ok (.iload_n 1, 1) := by decide +kernel
theorem dX12_has_34 : decode cX12_has 34 = .ok (.bipush 7, 2) := by decide +kernel
theorem dX12_has_36 : decode cX12_has 36 = .ok (.if_icmp .ne 7, 3) := by decide +kernel
theorem dX12_has_39 : decode cX12_has 39 = .ok (.iconst (-1), 1) := by decide +kernel
theorem dX12_has_40 : decode cX12_has 40 = .ok (.goto 18, 3) := by decide +kernel
theorem dX12_has_43 : decode cX12_has 43 = .ok (.iload_n 1, 1) := by decide +kernel
theorem dX12_has_44 : decode cX12_has 44 = .ok (.iconst 0, 1) := by decide +kernel
theorem dX12_has_45 : decode cX12_has 45 = .ok (.bipush 13, 2) := by decide +kernel
theorem dX12_has_47 : decode cX12_has 47 = .ok (.invokestatic 262, 3) := by decide +kernel
theorem dX12_has_50 : decode cX12_has 50 = .ok (.ifCond .eq 7, 3) := by decide +kernel
theorem dX12_has_53 : decode cX12_has 53 = .ok (.iconst 0, 1) := by decide +kernel
theorem dX12_has_54 : decode cX12_has 54 = .ok (.goto 4, 3) := by decide +kernel
theorem dX12_has_57 : decode cX12_has 57 = .ok (.iconst (-1), 1) := by decide +kernel
theorem dX12_has_58 : decode cX12_has 58 = .ok (.ireturn, 1) := by decide +kernel
theorem dX12_has_59 : decode cX12_has 59 = .ok (.aload_n 0, 1) := by decide +kernel
theorem dX12_has_60 : decode cX12_has 60 = .ok (.iconst 2, 1) := by decide +kernel
theorem dX12_has_61 : decode cX12_has 61 = .ok (.invokevirtual 321, 3) := by decide +kernel
theorem dX12_has_64 : decode cX12_has 64 = .ok (.iconst (-1), 1) := by decide +kernel
theorem dX12_has_65 : decode cX12_has 65 = .ok (.if_icmp .eq 7, 3) := by decide +kernel
theorem dX12_has_68 : decode cX12_has 68 = .ok (.iconst 1, 1) := by decide +kernel
theorem dX12_has_69 : decode cX12_has 69 = .ok (.goto 4, 3) := by decide +kernel
theorem dX12_has_72 : decode cX12_has 72 = .ok (.iconst 0, 1) := by decide +kernel
theorem dX12_has_73 : decode cX12_has 73 = .ok (.istore_n 2, 1) := by decide +kernel
theorem dX12_has_74 : decode cX12_has 74 = .ok (.iload_n 1, 1) := by decide +kernel
theorem dX12_has_75 : decode cX12_has 75 = .ok (.tableswitch 189 0 13 #[69, 74, 79, 85, 91, 97, 103, 117, 151, 158, 165, 172, 179, 184], 69) := by decide +kernel
theorem dX12_has_144 : decode cX12_has 144 = .ok (.aload_n 0, 1) := by decide +kernel
theorem dX12_has_145 : decode cX12_has 145 = .ok (.getfield 17, 3) := by decide +kernel
theorem dX12_has_148 : decode cX12_has 148 = .ok (.ireturn, 1) := by decide +kernel
theorem dX12_has_149 : decode cX12_has 149 = .ok (.aload_n 0, 1) := by decide +kernel
theorem dX12_has_150 : decode cX12_has 150 = .ok (.getfield 13, 3) := by decide +kernel
theorem dX12_has_153 : decode cX12_has 153 = .ok (.ireturn, 1) := by decide +kernel
theorem dX12_has_154 : decode cX12_has 154 = .ok (.aload_n 0, 1) := by decide +kernel
theorem dX12_has_155 : decode cX12_has 155 = .ok (.iconst 0, 1) := by decide +kernel
theorem dX12_has_156 : decode cX12_has 156 = .ok (.invokevirtual 321, 3) := by decide +kernel
theorem dX12_has_159 : decode cX12_has 159 = .ok (.ireturn, 1) := by decide +kernel
theorem dX12_has_160 : decode cX12_has 160 = .ok (.aload_n 0, 1) := by decide +kernel
theorem dX12_has_161 : decode cX12_has 161 = .ok (.iconst 1, 1) := by decide +kernel
theorem dX12_has_162 : decode cX12_has 162 = .ok (.invokevirtual 321, 3) := by decide +kernel
theorem dX12_has_165 : decode cX12_has 165 = .ok (.ireturn, 1) := by decide +kernel
theorem dX12_has_166 : decode cX12_has 166 = .ok (.aload_n 0, 1) := by decide +kernel
theorem dX12_has_167 : decode cX12_has 167 = .ok (.iconst 2, 1) := by decide +kernel
theorem dX12_has_168 : decode cX12_has 168 = .ok (.invokevirtual 321, 3) := by decide +kernel
theorem dX12_has_171 : decode cX12_has 171 = .ok (.ireturn, 1) := by decide +kernel
theorem dX12_has_172 : decode cX12_has 172 = .ok (.aload_n 0, 1) := by decide +kernel
theorem dX12_has_173 : decode cX12_has 173 = .ok (.iconst 5, 1) := by decide +kernel
theorem dX12_has_174 : decode cX12_has 174 = .ok (.invokevirtual 321, 3) := by decide +kernel
theorem dX12_has_177 : decode cX12_has 177 = .ok (.ireturn, 1) := by decide +kernel
theorem dX12_has_178 : decode cX12_has 178 = .ok (.iload_n 2, 1) := by decide +kernel
theorem dX12_has_179 : decode cX12_has 179 = .ok (.ifCond .eq 11, 3) := by decide +kernel
theorem dX12_has_182 : decode cX12_has 182 = .ok (.aload_n 0, 1) := by decide +kernel
theorem dX12_has_183 : decode cX12_has 183 = .ok (.iconst 3, 1) := by decide +kernel
theorem dX12_has_184 : decode cX12_has 184 = .ok (.invokevirtual 321, 3) := by decide +kernel
theorem dX12_has_187 : decode cX12_has 187 = .ok (.goto 4, 3) := by decide +kernel
theorem dX12_has_190 : decode cX12_has 190 = .ok (.iconst (-1), 1) := by decide +kernel
theorem dX12_has_191 : decode cX12_has 191 = .ok (.ireturn, 1) := by decide +kernel
theorem dX12_has_192 : decode cX12_has 192 = .ok (.iload_n 2, 1) := by decide +kernel
theorem dX12_has_193 : decode cX12_has 193 = .ok (.ifCond .eq 31, 3) := by decide +kernel
theorem dX12_has_196 : decode cX12_has 196 = .ok (.aload_n 0, 1) := by decide +kernel
theorem dX12_has_197 : decode cX12_has 197 = .ok (.iconst 5, 1) := by decide +kernel
theorem dX12_has_198 : decode cX12_has 198 = .ok (.invokevirtual 321, 3) := by decide +kernel
theorem dX12_has_201 : decode cX12_has 201 = .ok (.ifCond .ne 23, 3) := by decide +kernel
theorem dX12_has_204 : decode cX12_has 204 = .ok (.aload_n 0, 1) := by decide +kernel
theorem dX12_has_205 : decode cX12_has 205 = .ok (.aload_n 0, 1) := by decide +kernel
theorem dX12_has_206 : decode cX12_has 206 = .ok (.iconst 2, 1) := by decide +kernel
theorem dX12_has_207 : decode cX12_has 207 = .ok (.invokevirtual 321, 3) := by decide +kernel
theorem dX12_has_210 : decode cX12_has 210 = .ok (.invokevirtual 349, 3) := by decide +kernel
theorem dX12_has_213 : decode cX12_has 213 = .ok (.ifCond .ne 11, 3) := by decide +kernel
theorem dX12_has_216 : decode cX12_has 216 = .ok (.aload_n 0, 1) := by decide +kernel
theorem dX12_has_217 : decode cX12_has 217 = .ok (.iconst 4, 1) := by decide +kernel
theorem dX12_has_218 : decode cX12_has 218 = .ok (.invokevirtual 321, 3) := by decide +kernel
theorem dX12_has_221 : decode cX12_has 221 = .ok (.goto 4, 3) := by decide +kernel
theorem dX12_has_224 : decode cX12_has 224 = .ok (.iconst (-1), 1) := by decide +kernel
theorem dX12_has_225 : decode cX12_has 225 = .ok (.ireturn, 1) := by decide +kernel
theorem dX12_has_226 : decode cX12_has 226 = .ok (.aload_n 0, 1) := by decide +kernel
theorem dX12_has_227 : decode cX12_has 227 = .ok (.bipush 6, 2) := by decide +kernel
theorem dX12_has_229 : decode cX12_has 229 = .ok (.invokevirtual 321, 3) := by decide +kernel
theorem dX12_has_232 : decode cX12_has 232 = .ok (.ireturn, 1) := by decide +kernel
theorem dX12_has_233 : decode cX12_has 233 = .ok (.aload_n 0, 1) := by decide +kernel
theorem dX12_has_234 : decode cX12_has 234 = .ok (.bipush 7, 2) := by decide +kernel
theorem dX12_has_236 : decode cX12_has 236 = .ok (.invokevirtual 321, 3) := by decide +kernel
theorem dX12_has_239 : decode cX12_has 239 = .ok (.ireturn, 1) := by decide +kernel
theorem dX12_has_240 : decode cX12_has 240 = .ok (.aload_n 0, 1) := by decide +kernel
theorem dX12_has_241 : decode cX12_has 241 = .ok (.bipush 8, 2) := by decide +kernel
theorem dX12_has_243 : decode cX12_has 243 = .ok (.invokevirtual 321, 3) := by decide +kernel
theorem dX12_has_246 : decode cX12_has 246 = .ok (.ireturn, 1) := by decide +kernel
theorem dX12_has_247 : decode cX12_has 247 = .ok (.aload_n 0, 1) := by decide +kernel
theorem dX12_has_248 : decode cX12_has 248 = .ok (.bipush 9, 2) := by decide +kernel
theorem dX12_has_250 : decode cX12_has 250 = .ok (.invokevirtual 321, 3) := by decide +kernel
theorem dX12_has_253 : decode cX12_has 253 = .ok (.ireturn, 1) := by decide +kernel
theorem dX12_has_254 : decode cX12_has 254 = .ok (.aload_n 0, 1) := by decide +kernel
theorem dX12_has_255 : decode cX12_has 255 = .ok (.getfield 196, 3) := by decide +kernel
theorem dX12_has_258 : decode cX12_has 258 = .ok (.ireturn, 1) := by decide +kernel
theorem dX12_has_259 : decode cX12_has 259 = .ok (.aload_n 0, 1) := by decide +kernel
theorem dX12_has_260 : decode cX12_has 260 = .ok (.getfield 178, 3) := by decide +kernel
theorem dX12_has_263 : decode cX12_has 263 = .ok (.ireturn, 1) := by decide +kernel
theorem dX12_has_264 : decode cX12_has 264 = .ok (.iconst (-1), 1) := by decide +kernel
theorem dX12_has_265 : decode cX12_has 265 = .ok (.ireturn, 1) := by decide +kernel
theorem dX12_letter_0 : decode cX12_letter 0 = .ok (.aload_n 0, 1) := by decide +kernel
theorem dX12_letter_1 : decode cX12_letter 1 = .ok (.iload_n 1, 1) := by decide +kernel
theorem dX12_letter_2 : decode cX12_letter 2 = .ok (.invokevirtual 405, 3) := by decide +kernel
theorem dX12_letter_5 : decode cX12_letter 5 = .ok (.ifCond .eq 26, 3) := by decide +kernel
theorem dX12_letter_8 : decode cX12_letter 8 = .ok (.iload_n 2, 1) := by decide +kernel
theorem dX12_letter_9 : decode cX12_letter 9 = .ok (.iconst 0, 1) := by decide +kernel
theorem dX12_letter_10 : decode cX12_letter 10 = .ok (.iconst 5, 1) := by decide +kernel
theorem dX12_letter_11 : decode cX12_letter 11 = .ok (.invokestatic 262, 3) := by decide +kernel
theorem dX12_letter_14 : decode cX12_letter 14 = .ok (.ifCond .eq 17, 3) := by decide +kernel
theorem dX12_letter_17 : decode cX12_letter 17 = .ok (.aload_n 0, 1) := by decide +kernel
theorem dX12_letter_18 : decode cX12_letter 18 = .ok (.getfield 66, 3) := by decide +kernel
theorem dX12_letter_21 : decode cX12_letter 21 = .ok (.bipush 6, 2) := by decide +kernel
theorem dX12_letter_23 : decode cX12_letter 23 = .ok (.iload_n 1, 1) := by decide +kernel
theorem dX12_letter_24 : decode cX12_letter 24 = .ok (.imul, 1) := by decide +kernel
theorem dX12_letter_25 : decode cX12_letter 25 = .ok (.iload_n 2, 1) := by decide +kernel
theorem dX12_letter_26 : decode cX12_letter 26 = .ok (.iadd, 1) := by decide +kernel
theorem dX12_letter_27 : decode cX12_letter 27 = .ok (.iaload, 1) := by decide +kernel
theorem dX12_letter_28 : decode cX12_letter 28 = .ok (.goto 4, 3) := by decide +kernel
theorem dX12_letter_31 : decode cX12_letter 31 = .ok (.iconst (-1), 1) := by decide +kernel
theorem dX12_letter_32 : decode cX12_letter 32 = .ok (.ireturn, 1) := by decide +kernel
theorem dX12_process_0 : decode cX12_process 0 = .ok (.aload_n 0, 1) := by decide +kernel
theorem dX12_process_1 : decode cX12_process 1 = .ok (.invokevirtual 324, 3) := by decide +kernel
theorem dX12_process_4 : decode cX12_process 4 = .ok (.aload_n 0, 1) := by decide +kernel
theorem dX12_process_5 : decode cX12_process 5 = .ok (.iload_n 1, 1) := by decide +kernel
theorem dX12_process_6 : decode cX12_process 6 = .ok (.invokevirtual 405, 3) := by decide +kernel
theorem dX12_process_9 : decode cX12_process 9 = .ok (.ifCond .eq 13, 3) := by decide +kernel
theorem dX12_process_12 : decode cX12_process 12 = .ok (.iload_n 2, 1) := by decide +kernel
theorem dX12_process_13 : decode cX12_process 13 = .ok (.iconst 0, 1) := by decide +kernel
theorem dX12_process_14 : decode cX12_process 14 = .ok (.bipush 12, 2) := by decide +kernel
theorem dX12_process_16 : decode cX12_process 16 = .ok (.invokestatic 262, 3) := by decide +kernel
theorem dX12_process_19 : decode cX12_process 19 = .ok (.ifCond .ne 5, 3) := by decide +kernel
theorem dX12_process_22 : decode cX12_process 22 = .ok (.iconst (-1), 1) := by decide +kernel
theorem dX12_process_23 : decode cX12_process 23 = .ok (.ireturn, 1) := by decide +kernel
theorem dX12_process_24 : decode cX12_process 24 = .ok (.iload_n 2, 1) := by decide +kernel
theorem dX12_process_25 : decode cX12_process 25 = .ok (.iconst 1, 1) := by decide +kernel
theorem dX12_process_26 : decode cX12_process 26 = .ok (.if_icmp .ne 17, 3) := by decide +kernel
theorem dX12_process_29 : decode cX12_process 29 = .ok (.aload_n 0, 1) := by decide +kernel
theorem dX12_process_30 : decode cX12_process 30 = .ok (.iload_n 1, 1) := by decide +kernel
theorem dX12_process_31 : decode cX12_process 31 = .ok (.iconst 2, 1) := by decide +kernel
theorem dX12_process_32 : decode cX12_process 32 = .ok (.invokevirtual 337, 3) := by decide +kernel
theorem dX12_process_35 : decode cX12_process 35 = .ok (.iconst 1, 1) := by decide +kernel
theorem dX12_process_36 : decode cX12_process 36 = .ok (.if_icmp .ne 7, 3) := by decide +kernel
theorem dX12_process_39 : decode cX12_process 39 = .ok (.iconst 0, 1) := by decide +kernel
theorem dX12_process_40 : decode cX12_process 40 = .ok (.goto 9, 3) := by decide +kernel
theorem dX12_process_43 : decode cX12_process 43 = .ok (.aload_n 0, 1) := by decide +kernel
theorem dX12_process_44 : decode cX12_process 44 = .ok (.iload_n 1, 1) := by decide +kernel
theorem dX12_process_45 : decode cX12_process 45 = .ok (.iload_n 2, 1) := by decide +kernel
theorem dX12_process_46 : decode cX12_process 46 = .ok (.invokevirtual 337, 3) := by decide +kernel
theorem dX12_process_49 : decode cX12_process 49 = .ok (.ireturn, 1) := by decide +kernel
theorem dX12_mean_0 : decode cX12_mean 0 = .ok (.aload_n 0, 1) := by decide +kernel
theorem dX12_mean_1 : decode cX12_mean 1 = .ok (.invokevirtual 324, 3) := by decide +kernel
theorem dX12_mean_4 : decode cX12_mean 4 = .ok (.aload_n 0, 1) := by decide +kernel
theorem dX12_mean_5 : decode cX12_mean 5 = .ok (.iload_n 1, 1) := by decide +kernel
theorem dX12_mean_6 : decode cX12_mean 6 = .ok (.invokevirtual 405, 3) := by decide +kernel
theorem dX12_mean_9 : decode cX12_mean 9 = .ok (.ifCond .eq 13, 3) := by decide +kernel
theorem dX12_mean_12 : decode cX12_mean 12 = .ok (.aload_n 0, 1) := by decide +kernel
theorem dX12_mean_13 : decode cX12_mean 13 = .ok (.iload_n 1, 1) := by decide +kernel
theorem dX12_mean_14 : decode cX12_mean 14 = .ok (.bipush 9, 2) := by decide +kernel
theorem dX12_mean_16 : decode cX12_mean 16 = .ok (.invokevirtual 337, 3) := by decide +kernel
theorem dX12_mean_19 : decode cX12_mean 19 = .ok (.ifCond .ne 7, 3) := by decide +kernel
theorem dX12_mean_22 : decode cX12_mean 22 = .ok (.ldc2_w 408, 3) := by decide +kernel
theorem dX12_mean_25 : decode cX12_mean 25 = .ok (.lreturn, 1) := by decide +kernel
theorem dX12_mean_26 : decode cX12_mean 26 = .ok (.aload_n 0, 1) := by decide +kernel
theorem dX12_mean_27 : decode cX12_mean 27 = .ok (.iload_n 1, 1) := by decide +kernel
theorem dX12_mean_28 : decode cX12_mean 28 = .ok (.bipush 11, 2) := by decide +kernel
theorem dX12_mean_30 : decode cX12_mean 30 = .ok (.invokevirtual 337, 3) := by decide +kernel
theorem dX12_mean_33 : decode cX12_mean 33 = .ok (.i2d, 1) := by decide +kernel
theorem dX12_mean_34 : decode cX12_mean 34 = .ok (.aload_n 0, 1) := by decide +kernel
theorem dX12_mean_35 : decode cX12_mean 35 = .ok (.iload_n 1, 1) := by decide +kernel
theorem dX12_mean_36 : decode cX12_mean 36 = .ok (.bipush 9, 2) := by decide +kernel
theorem dX12_mean_38 : decode cX12_mean 38 = .ok (.invokevirtual 337, 3) := by decide +kernel
theorem dX12_mean_41 : decode cX12_mean 41 = .ok (.i2d, 1) := by decide +kernel
theorem dX12_mean_42 : decode cX12_mean 42 = .ok (.ddiv, 1) := by decide +kernel
theorem dX12_mean_43 : decode cX12_mean 43 = .ok (.invokestatic 410, 3) := by decide +kernel
theorem dX12_mean_46 : decode cX12_mean 46 = .ok (.lreturn, 1) := by decide +kernel
theorem dX12_queue_0 : decode cX12_queue 0 = .ok (.aload_n 0, 1) := by decide +kernel
theorem dX12_queue_1 : decode cX12_queue 1 = .ok (.invokevirtual 324, 3) := by decide +kernel
theorem dX12_queue_4 : decode cX12_queue 4 = .ok (.aload_n 0, 1) := by decide +kernel
theorem dX12_queue_5 : decode cX12_queue 5 = .ok (.iload_n 1, 1) := by decide +kernel
theorem dX12_queue_6 : decode cX12_queue 6 = .ok (.invokevirtual 405, 3) := by decide +kernel
theorem dX12_queue_9 : decode cX12_queue 9 = .ok (.ifCond .ne 5, 3) := by decide +kernel
theorem dX12_queue_12 : decode cX12_queue 12 = .ok (.iconst (-1), 1) := by decide +kernel
theorem dX12_queue_13 : decode cX12_queue 13 = .ok (.ireturn, 1) := by decide +kernel
theorem dX12_queue_14 : decode cX12_queue 14 = .ok (.iload_n 2, 1) := by decide +kernel
theorem dX12_queue_15 : decode cX12_queue 15 = .ok (.tableswitch 204 0 12 #[65, 71, 78, 98, 105, 111, 126, 133, 140, 146, 169, 180, 192], 65) := by decide +kernel
theorem dX12_queue_80 : decode cX12_queue 80 = .ok (.aload_n 0, 1) := by decide +kernel
theorem dX12_queue_81 : decode cX12_queue 81 = .ok (.iload_n 1, 1) := by decide +kernel
theorem dX12_queue_82 : decode cX12_queue 82 = .ok (.invokevirtual 349, 3) := by decide +kernel
theorem dX12_queue_85 : decode cX12_queue 85 = .ok (.ireturn, 1) := by decide +kernel
theorem dX12_queue_86 : decode cX12_queue 86 = .ok (.aload_n 0, 1) := by decide +kernel
theorem dX12_queue_87 : decode cX12_queue 87 = .ok (.iload_n 1, 1) := by decide +kernel
theorem dX12_queue_88 : decode cX12_queue 88 = .ok (.iconst 0, 1) := by decide +kernel
theorem dX12_queue_89 : decode cX12_queue 89 = .ok (.invokevirtual 340, 3) := by decide +kernel
theorem dX12_queue_92 : decode cX12_queue 92 = .ok (.ireturn, 1) := by decide +kernel
theorem dX12_queue_93 : decode cX12_queue 93 = .ok (.aload_n 0, 1) := by decide +kernel
theorem dX12_queue_94 : decode cX12_queue 94 = .ok (.iconst 2, 1) := by decide +kernel
theorem dX12_queue_95 : decode cX12_queue 95 = .ok (.invokevirtual 321, 3) := by decide +kernel
theorem dX12_queue_98 : decode cX12_queue 98 = .ok (.iload_n 1, 1) := by decide +kernel
theorem dX12_queue_99 : decode cX12_queue 99 = .ok (.if_icmp .ne 12, 3) := by decide +kernel
theorem dX12_queue_102 : decode cX12_queue 102 = .ok (.aload_n 0, 1) := by decide +kernel
theorem dX12_queue_103 : decode cX12_queue 103 = .ok (.iload_n 1, 1) := by decide +kernel
theorem dX12_queue_104 : decode cX12_queue 104 = .ok (.iconst 1, 1) := by decide +kernel
theorem dX12_queue_105 : decode cX12_queue 105 = .ok (.invokevirtual 340, 3) := by decide +kernel
theorem dX12_queue_108 : decode cX12_queue 108 = .ok (.goto 4, 3) := by decide +kernel
theorem dX12_queue_111 : decode cX12_queue 111 = .ok (.iconst 0, 1) := by decide +kernel
theorem dX12_queue_112 : decode cX12_queue 112 = .ok (.ireturn, 1) := by decide +kernel
theorem dX12_queue_113 : decode cX12_queue 113 = .ok (.aload_n 0, 1) := by decide +kernel
theorem dX12_queue_114 : decode cX12_queue 114 = .ok (.iload_n 1, 1) := by decide +kernel
theorem dX12_queue_115 : decode cX12_queue 115 = .ok (.iconst 2, 1) := by decide +kernel
theorem dX12_queue_116 : decode cX12_queue 116 = .ok (.invokevirtual 340, 3) := by decide +kernel
theorem dX12_queue_119 : decode cX12_queue 119 = .ok (.ireturn, 1) := by decide +kernel
theorem dX12_queue_120 : decode cX12_queue 120 = .ok (.aload_n 0, 1) := by decide +kernel
theorem dX12_queue_121 : decode cX12_queue 121 = .ok (.iload_n 1, 1) := by decide +kernel
theorem dX12_queue_122 : decode cX12_queue 122 = .ok (.invokevirtual 387, 3) := by decide +kernel
theorem dX12_queue_125 : decode cX12_queue 125 = .ok (.ireturn, 1) := by decide +kernel
theorem dX12_queue_126 : decode cX12_queue 126 = .ok (.aload_n 0, 1) := by decide +kernel
theorem dX12_queue_127 : decode cX12_queue 127 = .ok (.iload_n 1, 1) := by decide +kernel
theorem dX12_queue_128 : decode cX12_queue 128 = .ok (.invokevirtual 387, 3) := by decide +kernel
theorem dX12_queue_131 : decode cX12_queue 131 = .ok (.iconst 5, 1) := by decide +kernel
theorem dX12_queue_132 : decode cX12_queue 132 = .ok (.if_icmp .lt 7, 3) := by decide +kernel
theorem dX12_queue_135 : decode cX12_queue 135 = .ok (.iconst 1, 1) := by decide +kernel
theorem dX12_queue_136 : decode cX12_queue 136 = .ok (.goto 4, 3) := by decide +kernel
theorem dX12_queue_139 : decode cX12_queue 139 = .ok (.iconst 0, 1) := by decide +kernel
theorem dX12_queue_140 : decode cX12_queue 140 = .ok (.ireturn, 1) := by decide +kernel
theorem dX12_queue_141 : decode cX12_queue 141 = .ok (.aload_n 0, 1) := by decide +kernel
theorem dX12_queue_142 : decode cX12_queue 142 = .ok (.iload_n 1, 1) := by decide +kernel
theorem dX12_queue_143 : decode cX12_queue 143 = .ok (.iconst 4, 1) := by decide +kernel
theorem dX12_queue_144 : decode cX12_queue 144 = .ok (.invokevirtual 340, 3) := by decide +kernel
theorem dX12_queue_147 : decode cX12_queue 147 = .ok (.ireturn, 1) := by decide +kernel
theorem dX12_queue_148 : decode cX12_queue 148 = .ok (.aload_n 0, 1) := by decide +kernel
theorem dX12_queue_149 : decode cX12_queue 149 = .ok (.iload_n 1, 1) := by decide +kernel
theorem dX12_queue_150 : decode cX12_queue 150 = .ok (.iconst 5, 1) := by decide +kernel
theorem dX12_queue_151 : decode cX12_queue 151 = .ok (.invokevirtual 340, 3) := by decide +kernel
theorem dX12_queue_154 : decode cX12_queue 154 = .ok (.ireturn, 1) := by decide +kernel
theorem dX12_queue_155 : decode cX12_queue 155 = .ok (.aload_n 0, 1) := by decide +kernel
theorem dX12_queue_156 : decode cX12_queue 156 = .ok (.iload_n 1, 1) := by decide +kernel
theorem dX12_queue_157 : decode cX12_queue 157 = .ok (.invokevirtual 358, 3) := by decide +kernel
theorem dX12_queue_160 : decode cX12_queue 160 = .ok (.ireturn, 1) := by decide +kernel
theorem dX12_queue_161 : decode cX12_queue 161 = .ok (.aload_n 0, 1) := by decide +kernel
theorem dX12_queue_162 : decode cX12_queue 162 = .ok (.iconst 2, 1) := by decide +kernel
theorem dX12_queue_163 : decode cX12_queue 163 = .ok (.invokevirtual 321, 3) := by decide +kernel
theorem dX12_queue_166 : decode cX12_queue 166 = .ok (.iload_n 1, 1) := by decide +kernel
theorem dX12_queue_167 : decode cX12_queue 167 = .ok (.if_icmp .eq 15, 3) := by decide +kernel
theorem dX12_queue_170 : decode cX12_queue 170 = .ok (.aload_n 0, 1) := by decide +kernel
theorem dX12_queue_171 : decode cX12_queue 171 = .ok (.iload_n 1, 1) := by decide +kernel
theorem dX12_queue_172 : decode cX12_queue 172 = .ok (.invokevirtual 349, 3) := by decide +kernel
theorem dX12_queue_175 : decode cX12_queue 175 = .ok (.ifCond .le 7, 3) := by decide +kernel
theorem dX12_queue_178 : decode cX12_queue 178 = .ok (.iconst 1, 1) := by decide +kernel
theorem dX12_queue_179 : decode cX12_queue 179 = .ok (.goto 4, 3) := by decide +kernel
theorem dX12_queue_182 : decode cX12_queue 182 = .ok (.iconst 0, 1) := by decide +kernel
theorem dX12_queue_183 : decode cX12_queue 183 = .ok (.ireturn, 1) := by decide +kernel
theorem dX12_queue_184 : decode cX12_queue 184 = .ok (.aload_n 0, 1) := by decide +kernel
theorem dX12_queue_185 : decode cX12_queue 185 = .ok (.iconst 0, 1) := by decide +kernel
theorem dX12_queue_186 : decode cX12_queue 186 = .ok (.iload_n 1, 1) := by decide +kernel
theorem dX12_queue_187 : decode cX12_queue 187 = .ok (.iadd, 1) := by decide +kernel
theorem dX12_queue_188 : decode cX12_queue 188 = .ok (.invokevirtual 352, 3) := by decide +kernel
theorem dX12_queue_191 : decode cX12_queue 191 = .ok (.invokestatic 416, 3) := by decide +kernel
theorem dX12_queue_194 : decode cX12_queue 194 = .ok (.ireturn, 1) := by decide +kernel
theorem dX12_queue_195 : decode cX12_queue 195 = .ok (.aload_n 0, 1) := by decide +kernel
theorem dX12_queue_196 : decode cX12_queue 196 = .ok (.bipush 6, 2) := by decide +kernel
theorem dX12_queue_198 : decode cX12_queue 198 = .ok (.iload_n 1, 1) := by decide +kernel
theorem dX12_queue_199 : decode cX12_queue 199 = .ok (.iadd, 1) := by decide +kernel
theorem dX12_queue_200 : decode cX12_queue 200 = .ok (.invokevirtual 352, 3) := by decide +kernel
theorem dX12_queue_203 : decode cX12_queue 203 = .ok (.invokestatic 416, 3) := by decide +kernel
theorem dX12_queue_206 : decode cX12_queue 206 = .ok (.ireturn, 1) := by decide +kernel
theorem dX12_queue_207 : decode cX12_queue 207 = .ok (.aload_n 0, 1) := by decide +kernel
theorem dX12_queue_208 : decode cX12_queue 208 = .ok (.bipush 12, 2) := by decide +kernel
theorem dX12_queue_210 : decode cX12_queue 210 = .ok (.iload_n 1, 1) := by decide +kernel
theorem dX12_queue_211 : decode cX12_queue 211 = .ok (.iadd, 1) := by decide +kernel
theorem dX12_queue_212 : decode cX12_queue 212 = .ok (.invokevirtual 352, 3) := by decide +kernel
theorem dX12_queue_215 : decode cX12_queue 215 = .ok (.invokestatic 416, 3) := by decide +kernel
theorem dX12_queue_218 : decode cX12_queue 218 = .ok (.ireturn, 1) := by decide +kernel
theorem dX12_queue_219 : decode cX12_queue 219 = .ok (.iconst (-1), 1) := by decide +kernel
theorem dX12_queue_220 : decode cX12_queue 220 = .ok (.ireturn, 1) := by decide +kernel
theorem dX12_bits_0 : decode cX12_bits 0 = .ok (.aload_n 0, 1) := by decide +kernel
theorem dX12_bits_1 : decode cX12_bits 1 = .ok (.invokevirtual 324, 3) := by decide +kernel
theorem dX12_bits_4 : decode cX12_bits 4 = .ok (.aload_n 0, 1) := by decide +kernel
theorem dX12_bits_5 : decode cX12_bits 5 = .ok (.getfield 7, 3) := by decide +kernel
theorem dX12_bits_8 : decode cX12_bits 8 = .ok (.ifCond .eq 26, 3) := by decide +kernel
theorem dX12_bits_11 : decode cX12_bits 11 = .ok (.iload_n 1, 1) := by decide +kernel
theorem dX12_bits_12 : decode cX12_bits 12 = .ok (.iconst 0, 1) := by decide +kernel
theorem dX12_bits_13 : decode cX12_bits 13 = .ok (.iconst 1, 1) := by decide +kernel
theorem dX12_bits_14 : decode cX12_bits 14 = .ok (.invokestatic 262, 3) := by decide +kernel
theorem dX12_bits_17 : decode cX12_bits 17 = .ok (.ifCond .eq 17, 3) := by decide +kernel
theorem dX12_bits_20 : decode cX12_bits 20 = .ok (.aload_n 0, 1) := by decide +kernel
theorem dX12_bits_21 : decode cX12_bits 21 = .ok (.bipush 18, 2) := by decide +kernel
theorem dX12_bits_23 : decode cX12_bits 23 = .ok (.iload_n 1, 1) := by decide +kernel
theorem dX12_bits_24 : decode cX12_bits 24 = .ok (.iadd, 1) := by decide +kernel
theorem dX12_bits_25 : decode cX12_bits 25 = .ok (.invokevirtual 352, 3) := by decide +kernel
theorem dX12_bits_28 : decode cX12_bits 28 = .ok (.invokestatic 416, 3) := by decide +kernel
theorem dX12_bits_31 : decode cX12_bits 31 = .ok (.goto 4, 3) := by decide +kernel
theorem dX12_bits_34 : decode cX12_bits 34 = .ok (.iconst (-1), 1) := by decide +kernel
theorem dX12_bits_35 : decode cX12_bits 35 = .ok (.ireturn, 1) := by decide +kernel
theorem dX12_place_0 : decode cX12_place 0 = .ok (.iconst 0, 1) := by decide +kernel
theorem dX12_place_1 : decode cX12_place 1 = .ok (.istore_n 3, 1) := by decide +kernel
theorem dX12_place_2 : decode cX12_place 2 = .ok (.iconst 0, 1) := by decide +kernel
theorem dX12_place_3 : decode cX12_place 3 = .ok (.istore 4, 2) := by decide +kernel
theorem dX12_place_5 : decode cX12_place 5 = .ok (.iload 4, 2) := by decide +kernel
theorem dX12_place_7 : decode cX12_place 7 = .ok (.aload_n 0, 1) := by decide +kernel
theorem dX12_place_8 : decode cX12_place 8 = .ok (.bipush 10, 2) := by decide +kernel
theorem dX12_place_10 : decode cX12_place 10 = .ok (.invokevirtual 321, 3) := by decide +kernel
theorem dX12_place_13 : decode cX12_place 13 = .ok (.if_icmp .ge 41, 3) := by decide +kernel
theorem dX12_place_16 : decode cX12_place 16 = .ok (.aload_n 0, 1) := by decide +kernel
theorem dX12_place_17 : decode cX12_place 17 = .ok (.iload 4, 2) := by decide +kernel
theorem dX12_place_19 : decode cX12_place 19 = .ok (.iconst 0, 1) := by decide +kernel
theorem dX12_place_20 : decode cX12_place 20 = .ok (.invokevirtual 334, 3) := by decide +kernel
theorem dX12_place_23 : decode cX12_place 23 = .ok (.iload_n 1, 1) := by decide +kernel
theorem dX12_place_24 : decode cX12_place 24 = .ok (.if_icmp .eq 6, 3) := by decide +kernel
theorem dX12_place_27 : decode cX12_place 27 = .ok (.goto 21, 3) := by decide +kernel
theorem dX12_place_30 : decode cX12_place 30 = .ok (.iload_n 3, 1) := by decide +kernel
theorem dX12_place_31 : decode cX12_place 31 = .ok (.iload_n 2, 1) := by decide +kernel
theorem dX12_place_32 : decode cX12_place 32 = .ok (.if_icmp .ne 13, 3) := by decide +kernel
theorem dX12_place_35 : decode cX12_place 35 = .ok (.sipush 150, 3) := by decide +kernel
theorem dX12_place_38 : decode cX12_place 38 = .ok (.bipush 7, 2) := by decide +kernel
theorem dX12_place_40 : decode cX12_place 40 = .ok (.iload 4, 2) := by decide +kernel
theorem dX12_place_42 : decode cX12_place 42 = .ok (.imul, 1) := by decide +kernel
theorem dX12_place_43 : decode cX12_place 43 = .ok (.iadd, 1) := by decide +kernel
theorem dX12_place_44 : decode cX12_place 44 = .ok (.ireturn, 1) := by decide +kernel
theorem dX12_place_45 : decode cX12_place 45 = .ok (.iinc 3 1, 3) := by decide +kernel
theorem dX12_place_48 : decode cX12_place 48 = .ok (.iinc 4 1, 3) := by decide +kernel
theorem dX12_place_51 : decode cX12_place 51 = .ok (.goto (-46), 3) := by decide +kernel
theorem dX12_place_54 : decode cX12_place 54 = .ok (.iconst (-1), 1) := by decide +kernel
theorem dX12_place_55 : decode cX12_place 55 = .ok (.ireturn, 1) := by decide +kernel
theorem dX12_request_0 : decode cX12_request 0 = .ok (.aload_n 0, 1) := by decide +kernel
theorem dX12_request_1 : decode cX12_request 1 = .ok (.invokevirtual 324, 3) := by decide +kernel
theorem dX12_request_4 : decode cX12_request 4 = .ok (.aload_n 0, 1) := by decide +kernel
theorem dX12_request_5 : decode cX12_request 5 = .ok (.getfield 7, 3) := by decide +kernel
theorem dX12_request_8 : decode cX12_request 8 = .ok (.ifCond .eq 12, 3) := by decide +kernel
theorem dX12_request_11 : decode cX12_request 11 = .ok (.iload_n 3, 1) := by decide +kernel
theorem dX12_request_12 : decode cX12_request 12 = .ok (.iconst 0, 1) := by decide +kernel
theorem dX12_request_13 : decode cX12_request 13 = .ok (.iconst 4, 1) := by decide +kernel
theorem dX12_request_14 : decode cX12_request 14 = .ok (.invokestatic 262, 3) := by decide +kernel
theorem dX12_request_17 : decode cX12_request 17 = .ok (.ifCond .ne 5, 3) := by decide +kernel
theorem dX12_request_20 : decode cX12_request 20 = .ok (.iconst (-1), 1) := by decide +kernel
theorem dX12_request_21 : decode cX12_request 21 = .ok (.ireturn, 1) := by decide +kernel
theorem dX12_request_22 : decode cX12_request 22 = .ok (.iload_n 1, 1) := by decide +kernel
theorem dX12_request_23 : decode cX12_request 23 = .ok (.iconst (-1), 1) := by decide +kernel
theorem dX12_request_24 : decode cX12_request 24 = .ok (.if_icmp .ne 24, 3) := by decide +kernel
theorem dX12_request_27 : decode cX12_request 27 = .ok (.iload_n 2, 1) := by decide +kernel
theorem dX12_request_28 : decode cX12_request 28 = .ok (.ifCond .ne 16, 3) := by decide +kernel
theorem dX12_request_31 : decode cX12_request 31 = .ok (.aload_n 0, 1) := by decide +kernel
theorem dX12_request_32 : decode cX12_request 32 = .ok (.iconst 5, 1) := by decide +kernel
theorem dX12_request_33 : decode cX12_request 33 = .ok (.invokevirtual 321, 3) := by decide +kernel
theorem dX12_request_36 : decode cX12_request 36 = .ok (.ifCond .le 8, 3) := by decide +kernel
theorem dX12_request_39 : decode cX12_request 39 = .ok (.bipush 11, 2) := by decide +kernel
theorem dX12_request_41 : decode cX12_request 41 = .ok (.goto 25, 3) := by decide +kernel
theorem dX12_request_44 : decode cX12_request 44 = .ok (.iconst (-1), 1) := by decide +kernel
theorem dX12_request_45 : decode cX12_request 45 = .ok (.goto 21, 3) := by decide +kernel
theorem dX12_request_48 : decode cX12_request 48 = .ok (.aload_n 0, 1) := by decide +kernel
theorem dX12_request_49 : decode cX12_request 49 = .ok (.iload_n 1, 1) := by decide +kernel
theorem dX12_request_50 : decode cX12_request 50 = .ok (.invokevirtual 405, 3) := by decide +kernel
theorem dX12_request_53 : decode cX12_request 53 = .ok (.ifCond .eq 12, 3) := by decide +kernel
theorem dX12_request_56 : decode cX12_request 56 = .ok (.aload_n 0, 1) := by decide +kernel
theorem dX12_request_57 : decode cX12_request 57 = .ok (.iload_n 1, 1) := by decide +kernel
theorem dX12_request_58 : decode cX12_request 58 = .ok (.iload_n 2, 1) := by decide +kernel
theorem dX12_request_59 : decode cX12_request 59 = .ok (.invokevirtual 422, 3) := by decide +kernel
theorem dX12_request_62 : decode cX12_request 62 = .ok (.goto 4, 3) := by decide +kernel
theorem dX12_request_65 : decode cX12_request 65 = .ok (.iconst (-1), 1) := by decide +kernel
theorem dX12_request_66 : decode cX12_request 66 = .ok (.istore 4, 2) := by decide +kernel
theorem dX12_request_68 : decode cX12_request 68 = .ok (.iload 4, 2) := by decide +kernel
theorem dX12_request_70 : decode cX12_request 70 = .ok (.iconst (-1), 1) := by decide +kernel
theorem dX12_request_71 : decode cX12_request 71 = .ok (.if_icmp .ne 7, 3) := by decide +kernel
theorem dX12_request_74 : decode cX12_request 74 = .ok (.iconst (-1), 1) := by decide +kernel
theorem dX12_request_75 : decode cX12_request 75 = .ok (.goto 13, 3) := by decide +kernel
theorem dX12_request_78 : decode cX12_request 78 = .ok (.aload_n 0, 1) := by decide +kernel
theorem dX12_request_79 : decode cX12_request 79 = .ok (.iload 4, 2) := by decide +kernel
theorem dX12_request_81 : decode cX12_request 81 = .ok (.iconst 1, 1) := by decide +kernel
theorem dX12_request_82 : decode cX12_request 82 = .ok (.iadd, 1) := by decide +kernel
theorem dX12_request_83 : decode cX12_request 83 = .ok (.iload_n 3, 1) := by decide +kernel
theorem dX12_request_84 : decode cX12_request 84 = .ok (.iadd, 1) := by decide +kernel
theorem dX12_request_85 : decode cX12_request 85 = .ok (.invokevirtual 321, 3) := by decide +kernel
theorem dX12_request_88 : decode cX12_request 88 = .ok (.ireturn, 1) := by decide +kernel
theorem dX12_next_0 : decode cX12_next 0 = .ok (.aload_n 0, 1) := by decide +kernel
theorem dX12_next_1 : decode cX12_next 1 = .ok (.invokevirtual 324, 3) := by decide +kernel
theorem dX12_next_4 : decode cX12_next 4 = .ok (.aload_n 0, 1) := by decide +kernel
theorem dX12_next_5 : decode cX12_next 5 = .ok (.iload_n 1, 1) := by decide +kernel
theorem dX12_next_6 : decode cX12_next 6 = .ok (.invokevirtual 405, 3) := by decide +kernel
theorem dX12_next_9 : decode cX12_next 9 = .ok (.ifCond .ne 5, 3) := by decide +kernel
theorem dX12_next_12 : decode cX12_next 12 = .ok (.iconst (-1), 1) := by decide +kernel
theorem dX12_next_13 : decode cX12_next 13 = .ok (.ireturn, 1) := by decide +kernel
theorem dX12_next_14 : decode cX12_next 14 = .ok (.aload_n 0, 1) := by decide +kernel
theorem dX12_next_15 : decode cX12_next 15 = .ok (.iload_n 1, 1) := by decide +kernel
theorem dX12_next_16 : decode cX12_next 16 = .ok (.invokevirtual 372, 3) := by decide +kernel
theorem dX12_next_19 : decode cX12_next 19 = .ok (.istore_n 2, 1) := by decide +kernel
theorem dX12_next_20 : decode cX12_next 20 = .ok (.iload_n 2, 1) := by decide +kernel
theorem dX12_next_21 : decode cX12_next 21 = .ok (.iconst (-1), 1) := by decide +kernel
theorem dX12_next_22 : decode cX12_next 22 = .ok (.if_icmp .ne 5, 3) := by decide +kernel
theorem dX12_next_25 : decode cX12_next 25 = .ok (.iconst (-1), 1) := by decide +kernel
theorem dX12_next_26 : decode cX12_next 26 = .ok (.ireturn, 1) := by decide +kernel
theorem dX12_next_27 : decode cX12_next 27 = .ok (.iconst 0, 1) := by decide +kernel
theorem dX12_next_28 : decode cX12_next 28 = .ok (.istore_n 3, 1) := by decide +kernel
theorem dX12_next_29 : decode cX12_next 29 = .ok (.iconst 0, 1) := by decide +kernel
theorem dX12_next_30 : decode cX12_next 30 = .ok (.istore 4, 2) := by decide +kernel
theorem dX12_next_32 : decode cX12_next 32 = .ok (.iload 4, 2) := by decide +kernel
theorem dX12_next_34 : decode cX12_next 34 = .ok (.iload_n 2, 1) := by decide +kernel
theorem dX12_next_35 : decode cX12_next 35 = .ok (.if_icmp .ge 28, 3) := by decide +kernel
theorem dX12_next_38 : decode cX12_next 38 = .ok (.iload_n 3, 1) := by decide +kernel
theorem dX12_next_39 : decode cX12_next 39 = .ok (.aload_n 0, 1) := by decide +kernel
theorem dX12_next_40 : decode cX12_next 40 = .ok (.iload 4, 2) := by decide +kernel
theorem dX12_next_42 : decode cX12_next 42 = .ok (.iconst 0, 1) := by decide +kernel
theorem dX12_next_43 : decode cX12_next 43 = .ok (.invokevirtual 334, 3) := by decide +kernel
theorem dX12_next_46 : decode cX12_next 46 = .ok (.iload_n 1, 1) := by decide +kernel
theorem dX12_next_47 : decode cX12_next 47 = .ok (.if_icmp .ne 7, 3) := by decide +kernel
theorem dX12_next_50 : decode cX12_next 50 = .ok (.iconst 1, 1) := by decide +kernel
theorem dX12_next_51 : decode cX12_next 51 = .ok (.goto 4, 3) := by decide +kernel
theorem dX12_next_54 : decode cX12_next 54 = .ok (.iconst 0, 1) := by decide +kernel
theorem dX12_next_55 : decode cX12_next 55 = .ok (.iadd, 1) := by decide +kernel
theorem dX12_next_56 : decode cX12_next 56 = .ok (.istore_n 3, 1) := by decide +kernel
theorem dX12_next_57 : decode cX12_next 57 = .ok (.iinc 4 1, 3) := by decide +kernel
theorem dX12_next_60 : decode cX12_next 60 = .ok (.goto (-28), 3) := by decide +kernel
theorem dX12_next_63 : decode cX12_next 63 = .ok (.iload_n 3, 1) := by decide +kernel
theorem dX12_next_64 : decode cX12_next 64 = .ok (.ireturn, 1) := by decide +kernel
theorem dX12_kept_0 : decode cX12_kept 0 = .ok (.aload_n 0, 1) := by decide +kernel
theorem dX12_kept_1 : decode cX12_kept 1 = .ok (.invokevirtual 324, 3) := by decide +kernel
theorem dX12_kept_4 : decode cX12_kept 4 = .ok (.iload_n 1, 1) := by decide +kernel
theorem dX12_kept_5 : decode cX12_kept 5 = .ok (.iconst 0, 1) := by decide +kernel
theorem dX12_kept_6 : decode cX12_kept 6 = .ok (.aload_n 0, 1) := by decide +kernel
theorem dX12_kept_7 : decode cX12_kept 7 = .ok (.bipush 9, 2) := by decide +kernel
theorem dX12_kept_9 : decode cX12_kept 9 = .ok (.invokevirtual 321, 3) := by decide +kernel
theorem dX12_kept_12 : decode cX12_kept 12 = .ok (.iconst 1, 1) := by decide +kernel
theorem dX12_kept_13 : decode cX12_kept 13 = .ok (.isub, 1) := by decide +kernel
theorem dX12_kept_14 : decode cX12_kept 14 = .ok (.invokestatic 262, 3) := by decide +kernel
theorem dX12_kept_17 : decode cX12_kept 17 = .ok (.ifCond .eq 28, 3) := by decide +kernel
theorem dX12_kept_20 : decode cX12_kept 20 = .ok (.iload_n 2, 1) := by decide +kernel
theorem dX12_kept_21 : decode cX12_kept 21 = .ok (.iconst 0, 1) := by decide +kernel
theorem dX12_kept_22 : decode cX12_kept 22 = .ok (.iconst 3, 1) := by decide +kernel
theorem dX12_kept_23 : decode cX12_kept 23 = .ok (.invokestatic 262, 3) := by decide +kernel
theorem dX12_kept_26 : decode cX12_kept 26 = .ok (.ifCond .eq 19, 3) := by decide +kernel
theorem dX12_kept_29 : decode cX12_kept 29 = .ok (.aload_n 0, 1) := by decide +kernel
theorem dX12_kept_30 : decode cX12_kept 30 = .ok (.sipush 598, 3) := by decide +kernel
theorem dX12_kept_33 : decode cX12_kept 33 = .ok (.iconst 4, 1) := by decide +kernel
theorem dX12_kept_34 : decode cX12_kept 34 = .ok (.iload_n 1, 1) := by decide +kernel
theorem dX12_kept_35 : decode cX12_kept 35 = .ok (.imul, 1) := by decide +kernel
theorem dX12_kept_36 : decode cX12_kept 36 = .ok (.iadd, 1) := by decide +kernel
theorem dX12_kept_37 : decode cX12_kept 37 = .ok (.iload_n 2, 1) := by decide +kernel
theorem dX12_kept_38 : decode cX12_kept 38 = .ok (.iadd, 1) := by decide +kernel
theorem dX12_kept_39 : decode cX12_kept 39 = .ok (.invokevirtual 321, 3) := by decide +kernel
theorem dX12_kept_42 : decode cX12_kept 42 = .ok (.goto 4, 3) := by decide +kernel
theorem dX12_kept_45 : decode cX12_kept 45 = .ok (.iconst (-1), 1) := by decide +kernel
theorem dX12_kept_46 : decode cX12_kept 46 = .ok (.ireturn, 1) := by decide +kernel
theorem dX12_ofEvents_0 : decode cX12_ofEvents 0 = .ok (.iconst 0, 1) := by decide +kernel
theorem dX12_ofEvents_1 : decode cX12_ofEvents 1 = .ok (.istore_n 3, 1) := by decide +kernel
theorem dX12_ofEvents_2 : decode cX12_ofEvents 2 = .ok (.iconst 0, 1) := by decide +kernel
theorem dX12_ofEvents_3 : decode cX12_ofEvents 3 = .ok (.istore 4, 2) := by decide +kernel
theorem dX12_ofEvents_5 : decode cX12_ofEvents 5 = .ok (.iload 4, 2) := by decide +kernel
theorem dX12_ofEvents_7 : decode cX12_ofEvents 7 = .ok (.aload_n 0, 1) := by decide +kernel
theorem dX12_ofEvents_8 : decode cX12_ofEvents 8 = .ok (.getfield 184, 3) := by decide +kernel
theorem dX12_ofEvents_11 : decode cX12_ofEvents 11 = .ok (.if_icmp .ge 97, 3) := by decide +kernel
theorem dX12_ofEvents_14 : decode cX12_ofEvents 14 = .ok (.iload_n 1, 1) := by decide +kernel
theorem dX12_ofEvents_15 : decode cX12_ofEvents 15 = .ok (.iconst (-1), 1) := by decide +kernel
theorem dX12_ofEvents_16 : decode cX12_ofEvents 16 = .ok (.if_icmp .eq 21, 3) := by decide +kernel
theorem dX12_ofEvents_19 : decode cX12_ofEvents 19 = .ok (.aload_n 0, 1) := by decide +kernel
theorem dX12_ofEvents_20 : decode cX12_ofEvents 20 = .ok (.getfield 190, 3) := by decide +kernel
theorem dX12_ofEvents_23 : decode cX12_ofEvents 23 = .ok (.iconst 4, 1) := by decide +kernel
theorem dX12_ofEvents_24 : decode cX12_ofEvents 24 = .ok (.iload 4, 2) := by decide +kernel
theorem dX12_ofEvents_26 : decode cX12_ofEvents 26 = .ok (.imul, 1) := by decide +kernel
theorem dX12_ofEvents_27 : decode cX12_ofEvents 27 = .ok (.iconst 1, 1) := by decide +kernel
theorem dX12_ofEvents_28 : decode cX12_ofEvents 28 = .ok (.iadd, 1) := by decide +kernel
theorem dX12_ofEvents_29 : decode cX12_ofEvents 29 = .ok (.iaload, 1) := by decide +kernel
theorem dX12_ofEvents_30 : decode cX12_ofEvents 30 = .ok (.iload_n 1, 1) := by decide +kernel
theorem dX12_ofEvents_31 : decode cX12_ofEvents 31 = .ok (.if_icmp .eq 6, 3) := by decide +kernel
theorem dX12_ofEvents_34 : decode cX12_ofEvents 34 = .ok (.goto 68, 3) := by decide +kernel
theorem dX12_ofEvents_37 : decode cX12_ofEvents 37 = .ok (.iload_n 2, 1) := by decide +kernel
theorem dX12_ofEvents_38 : decode cX12_ofEvents 38 = .ok (.iconst 3, 1) := by decide +kernel
theorem dX12_ofEvents_39 : decode cX12_ofEvents 39 = .ok (.if_icmp .ne 22, 3) := by decide +kernel
theorem dX12_ofEvents_42 : decode cX12_ofEvents 42 = .ok (.iload_n 3, 1) := by decide +kernel
theorem dX12_ofEvents_43 : decode cX12_ofEvents 43 = .ok (.aload_n 0, 1) := by decide +kernel
theorem dX12_ofEvents_44 : decode cX12_ofEvents 44 = .ok (.getfield 190, 3) := by decide +kernel
theorem dX12_ofEvents_47 : decode cX12_ofEvents 47 = .ok (.iconst 4, 1) := by decide +kernel
theorem dX12_ofEvents_48 : decode cX12_ofEvents 48 = .ok (.iload 4, 2) := by decide +kernel
theorem dX12_ofEvents_50 : decode cX12_ofEvents 50 = .ok (.imul, 1) := by decide +kernel
theorem dX12_ofEvents_51 : decode cX12_ofEvents 51 = .ok (.iconst 2, 1) := by decide +kernel
theorem dX12_ofEvents_52 : decode cX12_ofEvents 52 = .ok (.iadd, 1) := by decide +kernel
theorem dX12_ofEvents_53 : decode cX12_ofEvents 53 = .ok (.iaload, 1) := by decide +kernel
theorem dX12_ofEvents_54 : decode cX12_ofEvents 54 = .ok (.invokestatic 384, 3) := by decide +kernel
theorem dX12_ofEvents_57 : decode cX12_ofEvents 57 = .ok (.istore_n 3, 1) := by decide +kernel
theorem dX12_ofEvents_58 : decode cX12_ofEvents 58 = .ok (.goto 44, 3) := by decide +kernel
theorem dX12_ofEvents_61 : decode cX12_ofEvents 61 = .ok (.iload_n 3, 1) := by decide +kernel
theorem dX12_ofEvents_62 : decode cX12_ofEvents 62 = .ok (.iload_n 2, 1) := by decide +kernel
theorem dX12_ofEvents_63 : decode cX12_ofEvents 63 = .ok (.ifCond .ne 7, 3) := by decide +kernel
theorem dX12_ofEvents_66 : decode cX12_ofEvents 66 = .ok (.iconst 1, 1) := by decide +kernel
theorem dX12_ofEvents_67 : decode cX12_ofEvents 67 = .ok (.goto 33, 3) := by decide +kernel
theorem dX12_ofEvents_70 : decode cX12_ofEvents 70 = .ok (.iload_n 2, 1) := by decide +kernel
theorem dX12_ofEvents_71 : decode cX12_ofEvents 71 = .ok (.iconst 1, 1) := by decide +kernel
theorem dX12_ofEvents_72 : decode cX12_ofEvents 72 = .ok (.if_icmp .ne 17, 3) := by decide +kernel
theorem dX12_ofEvents_75 : decode cX12_ofEvents 75 = .ok (.aload_n 0, 1) := by decide +kernel
theorem dX12_ofEvents_76 : decode cX12_ofEvents 76 = .ok (.getfield 190, 3) := by decide +kernel
theorem dX12_ofEvents_79 : decode cX12_ofEvents 79 = .ok (.iconst 4, 1) := by decide +kernel
theorem dX12_ofEvents_80 : decode cX12_ofEvents 80 = .ok (.iload 4, 2) := by decide +kernel
theorem dX12_ofEvents_82 : decode cX12_ofEvents 82 = .ok (.imul, 1) := by decide +kernel
theorem dX12_ofEvents_83 : decode cX12_ofEvents 83 = .ok (.iconst 3, 1) := by decide +kernel
theorem dX12_ofEvents_84 : decode cX12_ofEvents 84 = .ok (.iadd, 1) := by decide +kernel
theorem dX12_ofEvents_85 : decode cX12_ofEvents 85 = .ok (.iaload, 1) := by decide +kernel
theorem dX12_ofEvents_86 : decode cX12_ofEvents 86 = .ok (.goto 14, 3) := by decide +kernel
theorem dX12_ofEvents_89 : decode cX12_ofEvents 89 = .ok (.aload_n 0, 1) := by decide +kernel
theorem dX12_ofEvents_90 : decode cX12_ofEvents 90 = .ok (.getfield 190, 3) := by decide +kernel
theorem dX12_ofEvents_93 : decode cX12_ofEvents 93 = .ok (.iconst 4, 1) := by decide +kernel
theorem dX12_ofEvents_94 : decode cX12_ofEvents 94 = .ok (.iload 4, 2) := by decide +kernel
theorem dX12_ofEvents_96 : decode cX12_ofEvents 96 = .ok (.imul, 1) := by decide +kernel
theorem dX12_ofEvents_97 : decode cX12_ofEvents 97 = .ok (.iconst 2, 1) := by decide +kernel
theorem dX12_ofEvents_98 : decode cX12_ofEvents 98 = .ok (.iadd, 1) := by decide +kernel
theorem dX12_ofEvents_99 : decode cX12_ofEvents 99 = .ok (.iaload, 1) := by decide +kernel
theorem dX12_ofEvents_100 : decode cX12_ofEvents 100 = .ok (.iadd, 1) := by decide +kernel
theorem dX12_ofEvents_101 : decode cX12_ofEvents 101 = .ok (.istore_n 3, 1) := by decide +kernel
theorem dX12_ofEvents_102 : decode cX12_ofEvents 102 = .ok (.iinc 4 1, 3) := by decide +kernel
theorem dX12_ofEvents_105 : decode cX12_ofEvents 105 = .ok (.goto (-100), 3) := by decide +kernel
theorem dX12_ofEvents_108 : decode cX12_ofEvents 108 = .ok (.iload_n 3, 1) := by decide +kernel
theorem dX12_ofEvents_109 : decode cX12_ofEvents 109 = .ok (.ireturn, 1) := by decide +kernel
theorem dX12_later_0 : decode cX12_later 0 = .ok (.iload_n 1, 1) := by decide +kernel
theorem dX12_later_1 : decode cX12_later 1 = .ok (.iconst 0, 1) := by decide +kernel
theorem dX12_later_2 : decode cX12_later 2 = .ok (.sipush 400, 3) := by decide +kernel
theorem dX12_later_5 : decode cX12_later 5 = .ok (.invokestatic 262, 3) := by decide +kernel
theorem dX12_later_8 : decode cX12_later 8 = .ok (.ifCond .eq 20, 3) := by decide +kernel
theorem dX12_later_11 : decode cX12_later 11 = .ok (.aload_n 0, 1) := by decide +kernel
theorem dX12_later_12 : decode cX12_later 12 = .ok (.iload_n 2, 1) := by decide +kernel
theorem dX12_later_13 : decode cX12_later 13 = .ok (.invokevirtual 405, 3) := by decide +kernel
theorem dX12_later_16 : decode cX12_later 16 = .ok (.ifCond .eq 12, 3) := by decide +kernel
theorem dX12_later_19 : decode cX12_later 19 = .ok (.iload_n 3, 1) := by decide +kernel
theorem dX12_later_20 : decode cX12_later 20 = .ok (.iconst 0, 1) := by decide +kernel
theorem dX12_later_21 : decode cX12_later 21 = .ok (.iconst 3, 1) := by decide +kernel
theorem dX12_later_22 : decode cX12_later 22 = .ok (.invokestatic 262, 3) := by decide +kernel
theorem dX12_later_25 : decode cX12_later 25 = .ok (.ifCond .ne 5, 3) := by decide +kernel
theorem dX12_later_28 : decode cX12_later 28 = .ok (.iconst (-1), 1) := by decide +kernel
theorem dX12_later_29 : decode cX12_later 29 = .ok (.ireturn, 1) := by decide +kernel
theorem dX12_later_30 : decode cX12_later 30 = .ok (.aload_n 0, 1) := by decide +kernel
theorem dX12_later_31 : decode cX12_later 31 = .ok (.invokevirtual 425, 3) := by decide +kernel
theorem dX12_later_34 : decode cX12_later 34 = .ok (.aload_n 0, 1) := by decide +kernel
theorem dX12_later_35 : decode cX12_later 35 = .ok (.iload_n 1, 1) := by decide +kernel
theorem dX12_later_36 : decode cX12_later 36 = .ok (.invokevirtual 428, 3) := by decide +kernel
theorem dX12_later_39 : decode cX12_later 39 = .ok (.aload_n 0, 1) := by decide +kernel
theorem dX12_later_40 : decode cX12_later 40 = .ok (.iload_n 2, 1) := by decide +kernel
theorem dX12_later_41 : decode cX12_later 41 = .ok (.iload_n 3, 1) := by decide +kernel
theorem dX12_later_42 : decode cX12_later 42 = .ok (.invokevirtual 431, 3) := by decide +kernel
theorem dX12_later_45 : decode cX12_later 45 = .ok (.ireturn, 1) := by decide +kernel
theorem dX12_share_0 : decode cX12_share 0 = .ok (.iload_n 1, 1) := by decide +kernel
theorem dX12_share_1 : decode cX12_share 1 = .ok (.iconst 1, 1) := by decide +kernel
theorem dX12_share_2 : decode cX12_share 2 = .ok (.sipush 400, 3) := by decide +kernel
theorem dX12_share_5 : decode cX12_share 5 = .ok (.invokestatic 262, 3) := by decide +kernel
theorem dX12_share_8 : decode cX12_share 8 = .ok (.ifCond .eq 11, 3) := by decide +kernel
theorem dX12_share_11 : decode cX12_share 11 = .ok (.aload_n 0, 1) := by decide +kernel
theorem dX12_share_12 : decode cX12_share 12 = .ok (.iload_n 2, 1) := by decide +kernel
theorem dX12_share_13 : decode cX12_share 13 = .ok (.invokevirtual 405, 3) := by decide +kernel
theorem dX12_share_16 : decode cX12_share 16 = .ok (.ifCond .ne 5, 3) := by decide +kernel
theorem dX12_share_19 : decode cX12_share 19 = .ok (.iconst (-1), 1) := by decide +kernel
theorem dX12_share_20 : decode cX12_share 20 = .ok (.ireturn, 1) := by decide +kernel
theorem dX12_share_21 : decode cX12_share 21 = .ok (.aload_n 0, 1) := by decide +kernel
theorem dX12_share_22 : decode cX12_share 22 = .ok (.invokevirtual 425, 3) := by decide +kernel
theorem dX12_share_25 : decode cX12_share 25 = .ok (.aload_n 0, 1) := by decide +kernel
theorem dX12_share_26 : decode cX12_share 26 = .ok (.iload_n 1, 1) := by decide +kernel
theorem dX12_share_27 : decode cX12_share 27 = .ok (.invokevirtual 428, 3) := by decide +kernel
theorem dX12_share_30 : decode cX12_share 30 = .ok (.aload_n 0, 1) := by decide +kernel
theorem dX12_share_31 : decode cX12_share 31 = .ok (.iconst (-1), 1) := by decide +kernel
theorem dX12_share_32 : decode cX12_share 32 = .ok (.iconst 1, 1) := by decide +kernel
theorem dX12_share_33 : decode cX12_share 33 = .ok (.invokevirtual 431, 3) := by decide +kernel
theorem dX12_share_36 : decode cX12_share 36 = .ok (.istore_n 3, 1) := by decide +kernel
theorem dX12_share_37 : decode cX12_share 37 = .ok (.iload_n 3, 1) := by decide +kernel
theorem dX12_share_38 : decode cX12_share 38 = .ok (.ifCond .ne 7, 3) := by decide +kernel
theorem dX12_share_41 : decode cX12_share 41 = .ok (.iconst (-1), 1) := by decide +kernel
theorem dX12_share_42 : decode cX12_share 42 = .ok (.goto 14, 3) := by decide +kernel
theorem dX12_share_45 : decode cX12_share 45 = .ok (.bipush 100, 2) := by decide +kernel
theorem dX12_share_47 : decode cX12_share 47 = .ok (.aload_n 0, 1) := by decide +kernel
theorem dX12_share_48 : decode cX12_share 48 = .ok (.iload_n 2, 1) := by decide +kernel
theorem dX12_share_49 : decode cX12_share 49 = .ok (.iconst 1, 1) := by decide +kernel
theorem dX12_share_50 : decode cX12_share 50 = .ok (.invokevirtual 431, 3) := by decide +kernel
theorem dX12_share_53 : decode cX12_share 53 = .ok (.imul, 1) := by decide +kernel
theorem dX12_share_54 : decode cX12_share 54 = .ok (.iload_n 3, 1) := by decide +kernel
theorem dX12_share_55 : decode cX12_share 55 = .ok (.idiv, 1) := by decide +kernel
theorem dX12_share_56 : decode cX12_share 56 = .ok (.ireturn, 1) := by decide +kernel
theorem dX12_when_0 : decode cX12_when 0 = .ok (.iload_n 2, 1) := by decide +kernel
theorem dX12_when_1 : decode cX12_when 1 = .ok (.iconst 1, 1) := by decide +kernel
theorem dX12_when_2 : decode cX12_when 2 = .ok (.bipush 40, 2) := by decide +kernel
theorem dX12_when_4 : decode cX12_when 4 = .ok (.invokestatic 262, 3) := by decide +kernel
theorem dX12_when_7 : decode cX12_when 7 = .ok (.ifCond .eq 11, 3) := by decide +kernel
theorem dX12_when_10 : decode cX12_when 10 = .ok (.aload_n 0, 1) := by decide +kernel
theorem dX12_when_11 : decode cX12_when 11 = .ok (.iload_n 1, 1) := by decide +kernel
theorem dX12_when_12 : decode cX12_when 12 = .ok (.invokevirtual 405, 3) := by decide +kernel
theorem dX12_when_15 : decode cX12_when 15 = .ok (.ifCond .ne 5, 3) := by decide +kernel
theorem dX12_when_18 : decode cX12_when 18 = .ok (.iconst (-1), 1) := by decide +kernel
theorem dX12_when_19 : decode cX12_when 19 = .ok (.ireturn, 1) := by decide +kernel
theorem dX12_when_20 : decode cX12_when 20 = .ok (.aload_n 0, 1) := by decide +kernel
theorem dX12_when_21 : decode cX12_when 21 = .ok (.invokevirtual 425, 3) := by decide +kernel
theorem dX12_when_24 : decode cX12_when 24 = .ok (.aload_n 0, 1) := by decide +kernel
theorem dX12_when_25 : decode cX12_when 25 = .ok (.sipush 400, 3) := by decide +kernel
theorem dX12_when_28 : decode cX12_when 28 = .ok (.invokevirtual 428, 3) := by decide +kernel
theorem dX12_when_31 : decode cX12_when 31 = .ok (.iconst 0, 1) := by decide +kernel
theorem dX12_when_32 : decode cX12_when 32 = .ok (.istore_n 3, 1) := by decide +kernel
theorem dX12_when_33 : decode cX12_when 33 = .ok (.iconst 0, 1) := by decide +kernel
theorem dX12_when_34 : decode cX12_when 34 = .ok (.istore 4, 2) := by decide +kernel
theorem dX12_when_36 : decode cX12_when 36 = .ok (.iload 4, 2) := by decide +kernel
theorem dX12_when_38 : decode cX12_when 38 = .ok (.aload_n 0, 1) := by decide +kernel
theorem dX12_when_39 : decode cX12_when 39 = .ok (.getfield 184, 3) := by decide +kernel
theorem dX12_when_42 : decode cX12_when 42 = .ok (.if_icmp .ge 47, 3) := by decide +kernel
theorem dX12_when_45 : decode cX12_when 45 = .ok (.iload_n 3, 1) := by decide +kernel
theorem dX12_when_46 : decode cX12_when 46 = .ok (.aload_n 0, 1) := by decide +kernel
theorem dX12_when_47 : decode cX12_when 47 = .ok (.getfield 190, 3) := by decide +kernel
theorem dX12_when_50 : decode cX12_when 50 = .ok (.iconst 4, 1) := by decide +kernel
theorem dX12_when_51 : decode cX12_when 51 = .ok (.iload 4, 2) := by decide +kernel
theorem dX12_when_53 : decode cX12_when 53 = .ok (.imul, 1) := by decide +kernel
theorem dX12_when_54 : decode cX12_when 54 = .ok (.iconst 1, 1) := by decide +kernel
theorem dX12_when_55 : decode cX12_when 55 = .ok (.iadd, 1) := by decide +kernel
theorem dX12_when_56 : decode cX12_when 56 = .ok (.iaload, 1) := by decide +kernel
theorem dX12_when_57 : decode cX12_when 57 = .ok (.iload_n 1, 1) := by decide +kernel
theorem dX12_when_58 : decode cX12_when 58 = .ok (.if_icmp .ne 7, 3) := by decide +kernel
theorem dX12_when_61 : decode cX12_when 61 = .ok (.iconst 1, 1) := by decide +kernel
theorem dX12_when_62 : decode cX12_when 62 = .ok (.goto 4, 3) := by decide +kernel
theorem dX12_when_65 : decode cX12_when 65 = .ok (.iconst 0, 1) := by decide +kernel
theorem dX12_when_66 : decode cX12_when 66 = .ok (.iadd, 1) := by decide +kernel
theorem dX12_when_67 : decode cX12_when 67 = .ok (.istore_n 3, 1) := by decide +kernel
theorem dX12_when_68 : decode cX12_when 68 = .ok (.iload_n 3, 1) := by decide +kernel
theorem dX12_when_69 : decode cX12_when 69 = .ok (.iload_n 2, 1) := by decide +kernel
theorem dX12_when_70 : decode cX12_when 70 = .ok (.if_icmp .ne 13, 3) := by decide +kernel
theorem dX12_when_73 : decode cX12_when 73 = .ok (.aload_n 0, 1) := by decide +kernel
theorem dX12_when_74 : decode cX12_when 74 = .ok (.getfield 190, 3) := by decide +kernel
theorem dX12_when_77 : decode cX12_when 77 = .ok (.iconst 4, 1) := by decide +kernel
theorem dX12_when_78 : decode cX12_when 78 = .ok (.iload 4, 2) := by decide +kernel
theorem dX12_when_80 : decode cX12_when 80 = .ok (.imul, 1) := by decide +kernel
theorem dX12_when_81 : decode cX12_when 81 = .ok (.iaload, 1) := by decide +kernel
theorem dX12_when_82 : decode cX12_when 82 = .ok (.ireturn, 1) := by decide +kernel
theorem dX12_when_83 : decode cX12_when 83 = .ok (.iinc 4 1, 3) := by decide +kernel
theorem dX12_when_86 : decode cX12_when 86 = .ok (.goto (-50), 3) := by decide +kernel
theorem dX12_when_89 : decode cX12_when 89 = .ok (.iconst (-1), 1) := by decide +kernel
theorem dX12_when_90 : decode cX12_when 90 = .ok (.ireturn, 1) := by decide +kernel
theorem dX12_late_0 : decode cX12_late 0 = .ok (.iload_n 1, 1) := by decide +kernel
theorem dX12_late_1 : decode cX12_late 1 = .ok (.iconst 0, 1) := by decide +kernel
theorem dX12_late_2 : decode cX12_late 2 = .ok (.sipush 400, 3) := by decide +kernel
theorem dX12_late_5 : decode cX12_late 5 = .ok (.invokestatic 262, 3) := by decide +kernel
theorem dX12_late_8 : decode cX12_late 8 = .ok (.ifCond .eq 15, 3) := by decide +kernel
theorem dX12_late_11 : decode cX12_late 11 = .ok (.aload_n 0, 1) := by decide +kernel
theorem dX12_late_12 : decode cX12_late 12 = .ok (.iload_n 2, 1) := by decide +kernel
theorem dX12_late_13 : decode cX12_late 13 = .ok (.invokevirtual 405, 3) := by decide +kernel
theorem dX12_late_16 : decode cX12_late 16 = .ok (.ifCond .eq 7, 3) := by decide +kernel
theorem dX12_late_19 : decode cX12_late 19 = .ok (.iload_n 3, 1) := by decide +kernel
theorem dX12_late_20 : decode cX12_late 20 = .ok (.ifCond .ge 5, 3) := by decide +kernel
theorem dX12_late_23 : decode cX12_late 23 = .ok (.iconst (-1), 1) := by decide +kernel
theorem dX12_late_24 : decode cX12_late 24 = .ok (.ireturn, 1) := by decide +kernel
theorem dX12_late_25 : decode cX12_late 25 = .ok (.aload_n 0, 1) := by decide +kernel
theorem dX12_late_26 : decode cX12_late 26 = .ok (.invokevirtual 425, 3) := by decide +kernel
theorem dX12_late_29 : decode cX12_late 29 = .ok (.aload_n 0, 1) := by decide +kernel
theorem dX12_late_30 : decode cX12_late 30 = .ok (.iload_n 1, 1) := by decide +kernel
theorem dX12_late_31 : decode cX12_late 31 = .ok (.invokevirtual 428, 3) := by decide +kernel
theorem dX12_late_34 : decode cX12_late 34 = .ok (.iconst 0, 1) := by decide +kernel
theorem dX12_late_35 : decode cX12_late 35 = .ok (.istore 4, 2) := by decide +kernel
theorem dX12_late_37 : decode cX12_late 37 = .ok (.iconst 0, 1) := by decide +kernel
theorem dX12_late_38 : decode cX12_late 38 = .ok (.istore 5, 2) := by decide +kernel
theorem dX12_late_40 : decode cX12_late 40 = .ok (.iload 5, 2) := by decide +kernel
theorem dX12_late_42 : decode cX12_late 42 = .ok (.aload_n 0, 1) := by decide +kernel
theorem dX12_late_43 : decode cX12_late 43 = .ok (.getfield 184, 3) := by decide +kernel
theorem dX12_late_46 : decode cX12_late 46 = .ok (.if_icmp .ge 49, 3) := by decide +kernel
theorem dX12_late_49 : decode cX12_late 49 = .ok (.iload 4, 2) := by decide +kernel
theorem dX12_late_51 : decode cX12_late 51 = .ok (.aload_n 0, 1) := by decide +kernel
theorem dX12_late_52 : decode cX12_late 52 = .ok (.getfield 190, 3) := by decide +kernel
theorem dX12_late_55 : decode cX12_late 55 = .ok (.iconst 4, 1) := by decide +kernel
theorem dX12_late_56 : decode cX12_late 56 = .ok (.iload 5, 2) := by decide +kernel
theorem dX12_late_58 : decode cX12_late 58 = .ok (.imul, 1) := by decide +kernel
theorem dX12_late_59 : decode cX12_late 59 = .ok (.iconst 1, 1) := by decide +kernel
theorem dX12_late_60 : decode cX12_late 60 = .ok (.iadd, 1) := by decide +kernel
theorem dX12_late_61 : decode cX12_late 61 = .ok (.iaload, 1) := by decide +kernel
theorem dX12_late_62 : decode cX12_late 62 = .ok (.iload_n 2, 1) := by decide +kernel
theorem dX12_late_63 : decode cX12_late 63 = .ok (.if_icmp .ne 22, 3) := by decide +kernel
theorem dX12_late_66 : decode cX12_late 66 = .ok (.aload_n 0, 1) := by decide +kernel
theorem dX12_late_67 : decode cX12_late 67 = .ok (.getfield 190, 3) := by decide +kernel
theorem dX12_late_70 : decode cX12_late 70 = .ok (.iconst 4, 1) := by decide +kernel
theorem dX12_late_71 : decode cX12_late 71 = .ok (.iload 5, 2) := by decide +kernel
theorem dX12_late_73 : decode cX12_late 73 = .ok (.imul, 1) := by decide +kernel
theorem dX12_late_74 : decode cX12_late 74 = .ok (.iconst 2, 1) := by decide +kernel
theorem dX12_late_75 : decode cX12_late 75 = .ok (.iadd, 1) := by decide +kernel
theorem dX12_late_76 : decode cX12_late 76 = .ok (.iaload, 1) := by decide +kernel
theorem dX12_late_77 : decode cX12_late 77 = .ok (.iload_n 3, 1) := by decide +kernel
theorem dX12_late_78 : decode cX12_late 78 = .ok (.if_icmp .le 7, 3) := by decide +kernel
theorem dX12_late_81 : decode cX12_late 81 = .ok (.iconst 1, 1) := by decide +kernel
theorem dX12_late_82 : decode cX12_late 82 = .ok (.goto 4, 3) := by decide +kernel
theorem dX12_late_85 : decode cX12_late 85 = .ok (.iconst 0, 1) := by decide +kernel
theorem dX12_late_86 : decode cX12_late 86 = .ok (.iadd, 1) := by decide +kernel
theorem dX12_late_87 : decode cX12_late 87 = .ok (.istore 4, 2) := by decide +kernel
theorem dX12_late_89 : decode cX12_late 89 = .ok (.iinc 5 1, 3) := by decide +kernel
theorem dX12_late_92 : decode cX12_late 92 = .ok (.goto (-52), 3) := by decide +kernel
theorem dX12_late_95 : decode cX12_late 95 = .ok (.iload 4, 2) := by decide +kernel
theorem dX12_late_97 : decode cX12_late 97 = .ok (.ireturn, 1) := by decide +kernel
theorem dX12_alone_0 : decode cX12_alone 0 = .ok (.iload_n 1, 1) := by decide +kernel
theorem dX12_alone_1 : decode cX12_alone 1 = .ok (.iconst 0, 1) := by decide +kernel
theorem dX12_alone_2 : decode cX12_alone 2 = .ok (.sipush 400, 3) := by decide +kernel
theorem dX12_alone_5 : decode cX12_alone 5 = .ok (.invokestatic 262, 3) := by decide +kernel
theorem dX12_alone_8 : decode cX12_alone 8 = .ok (.ifCond .eq 11, 3) := by decide +kernel
theorem dX12_alone_11 : decode cX12_alone 11 = .ok (.aload_n 0, 1) := by decide +kernel
theorem dX12_alone_12 : decode cX12_alone 12 = .ok (.iload_n 2, 1) := by decide +kernel
theorem dX12_alone_13 : decode cX12_alone 13 = .ok (.invokevirtual 405, 3) := by decide +kernel
theorem dX12_alone_16 : decode cX12_alone 16 = .ok (.ifCond .ne 5, 3) := by decide +kernel
theorem dX12_alone_19 : decode cX12_alone 19 = .ok (.iconst (-1), 1) := by decide +kernel
theorem dX12_alone_20 : decode cX12_alone 20 = .ok (.ireturn, 1) := by decide +kernel
theorem dX12_alone_21 : decode cX12_alone 21 = .ok (.aload_n 0, 1) := by decide +kernel
theorem dX12_alone_22 : decode cX12_alone 22 = .ok (.invokevirtual 425, 3) := by decide +kernel
theorem dX12_alone_25 : decode cX12_alone 25 = .ok (.iconst 0, 1) := by decide +kernel
theorem dX12_alone_26 : decode cX12_alone 26 = .ok (.istore_n 3, 1) := by decide +kernel
theorem dX12_alone_27 : decode cX12_alone 27 = .ok (.iload_n 3, 1) := by decide +kernel
theorem dX12_alone_28 : decode cX12_alone 28 = .ok (.aload_n 0, 1) := by decide +kernel
theorem dX12_alone_29 : decode cX12_alone 29 = .ok (.getfield 13, 3) := by decide +kernel
theorem dX12_alone_32 : decode cX12_alone 32 = .ok (.if_icmp .ge 26, 3) := by decide +kernel
theorem dX12_alone_35 : decode cX12_alone 35 = .ok (.aload_n 0, 1) := by decide +kernel
theorem dX12_alone_36 : decode cX12_alone 36 = .ok (.iload_n 3, 1) := by decide +kernel
theorem dX12_alone_37 : decode cX12_alone 37 = .ok (.bipush 8, 2) := by decide +kernel
theorem dX12_alone_39 : decode cX12_alone 39 = .ok (.iload_n 3, 1) := by decide +kernel
theorem dX12_alone_40 : decode cX12_alone 40 = .ok (.iload_n 2, 1) := by decide +kernel
theorem dX12_alone_41 : decode cX12_alone 41 = .ok (.if_icmp .ne 7, 3) := by decide +kernel
theorem dX12_alone_44 : decode cX12_alone 44 = .ok (.iconst 1, 1) := by decide +kernel
theorem dX12_alone_45 : decode cX12_alone 45 = .ok (.goto 4, 3) := by decide +kernel
theorem dX12_alone_48 : decode cX12_alone 48 = .ok (.iconst 0, 1) := by decide +kernel
theorem dX12_alone_49 : decode cX12_alone 49 = .ok (.invokevirtual 314, 3) := by decide +kernel
theorem dX12_alone_52 : decode cX12_alone 52 = .ok (.iinc 3 1, 3) := by decide +kernel
theorem dX12_alone_55 : decode cX12_alone 55 = .ok (.goto (-28), 3) := by decide +kernel
theorem dX12_alone_58 : decode cX12_alone 58 = .ok (.aload_n 0, 1) := by decide +kernel
theorem dX12_alone_59 : decode cX12_alone 59 = .ok (.iload_n 1, 1) := by decide +kernel
theorem dX12_alone_60 : decode cX12_alone 60 = .ok (.invokevirtual 428, 3) := by decide +kernel
theorem dX12_alone_63 : decode cX12_alone 63 = .ok (.aload_n 0, 1) := by decide +kernel
theorem dX12_alone_64 : decode cX12_alone 64 = .ok (.iload_n 2, 1) := by decide +kernel
theorem dX12_alone_65 : decode cX12_alone 65 = .ok (.iconst 1, 1) := by decide +kernel
theorem dX12_alone_66 : decode cX12_alone 66 = .ok (.invokevirtual 431, 3) := by decide +kernel
theorem dX12_alone_69 : decode cX12_alone 69 = .ok (.ireturn, 1) := by decide +kernel
theorem dX12_idling_0 : decode cX12_idling 0 = .ok (.iload_n 1, 1) := by decide +kernel
theorem dX12_idling_1 : decode cX12_idling 1 = .ok (.iconst 1, 1) := by decide +kernel
theorem dX12_idling_2 : decode cX12_idling 2 = .ok (.sipush 200, 3) := by decide +kernel
theorem dX12_idling_5 : decode cX12_idling 5 = .ok (.invokestatic 262, 3) := by decide +kernel
theorem dX12_idling_8 : decode cX12_idling 8 = .ok (.ifCond .eq 19, 3) := by decide +kernel
theorem dX12_idling_11 : decode cX12_idling 11 = .ok (.aload_n 0, 1) := by decide +kernel
theorem dX12_idling_12 : decode cX12_idling 12 = .ok (.getfield 13, 3) := by decide +kernel
theorem dX12_idling_15 : decode cX12_idling 15 = .ok (.ifCond .eq 12, 3) := by decide +kernel
theorem dX12_idling_18 : decode cX12_idling 18 = .ok (.iload_n 2, 1) := by decide +kernel
theorem dX12_idling_19 : decode cX12_idling 19 = .ok (.iconst 0, 1) := by decide +kernel
theorem dX12_idling_20 : decode cX12_idling 20 = .ok (.iconst 1, 1) := by decide +kernel
theorem dX12_idling_21 : decode cX12_idling 21 = .ok (.invokestatic 262, 3) := by decide +kernel
theorem dX12_idling_24 : decode cX12_idling 24 = .ok (.ifCond .ne 5, 3) := by decide +kernel
theorem dX12_idling_27 : decode cX12_idling 27 = .ok (.iconst (-1), 1) := by decide +kernel
theorem dX12_idling_28 : decode cX12_idling 28 = .ok (.ireturn, 1) := by decide +kernel
theorem dX12_idling_29 : decode cX12_idling 29 = .ok (.iconst (-1), 1) := by decide +kernel
theorem dX12_idling_30 : decode cX12_idling 30 = .ok (.istore_n 3, 1) := by decide +kernel
theorem dX12_idling_31 : decode cX12_idling 31 = .ok (.iconst (-1), 1) := by decide +kernel
theorem dX12_idling_32 : decode cX12_idling 32 = .ok (.istore 4, 2) := by decide +kernel
theorem dX12_idling_34 : decode cX12_idling 34 = .ok (.iconst 0, 1) := by decide +kernel
theorem dX12_idling_35 : decode cX12_idling 35 = .ok (.istore 5, 2) := by decide +kernel
theorem dX12_idling_37 : decode cX12_idling 37 = .ok (.iload 5, 2) := by decide +kernel
theorem dX12_idling_39 : decode cX12_idling 39 = .ok (.bipush 20, 2) := by decide +kernel
theorem dX12_idling_41 : decode cX12_idling 41 = .ok (.if_icmp .gt 51, 3) := by decide +kernel
theorem dX12_idling_44 : decode cX12_idling 44 = .ok (.aload_n 0, 1) := by decide +kernel
theorem dX12_idling_45 : decode cX12_idling 45 = .ok (.invokevirtual 425, 3) := by decide +kernel
theorem dX12_idling_48 : decode cX12_idling 48 = .ok (.aload_n 0, 1) := by decide +kernel
theorem dX12_idling_49 : decode cX12_idling 49 = .ok (.bipush 6, 2) := by decide +kernel
theorem dX12_idling_51 : decode cX12_idling 51 = .ok (.iload 5, 2) := by decide +kernel
theorem dX12_idling_53 : decode cX12_idling 53 = .ok (.invokevirtual 318, 3) := by decide +kernel
theorem dX12_idling_56 : decode cX12_idling 56 = .ok (.aload_n 0, 1) := by decide +kernel
theorem dX12_idling_57 : decode cX12_idling 57 = .ok (.iload_n 1, 1) := by decide +kernel
theorem dX12_idling_58 : decode cX12_idling 58 = .ok (.invokevirtual 428, 3) := by decide +kernel
theorem dX12_idling_61 : decode cX12_idling 61 = .ok (.aload_n 0, 1) := by decide +kernel
theorem dX12_idling_62 : decode cX12_idling 62 = .ok (.iconst (-1), 1) := by decide +kernel
theorem dX12_idling_63 : decode cX12_idling 63 = .ok (.iconst 1, 1) := by decide +kernel
theorem dX12_idling_64 : decode cX12_idling 64 = .ok (.invokevirtual 431, 3) := by decide +kernel
theorem dX12_idling_67 : decode cX12_idling 67 = .ok (.istore 6, 2) := by decide +kernel
theorem dX12_idling_69 : decode cX12_idling 69 = .ok (.iload 6, 2) := by decide +kernel
theorem dX12_idling_71 : decode cX12_idling 71 = .ok (.iload 4, 2) := by decide +kernel
theorem dX12_idling_73 : decode cX12_idling 73 = .ok (.if_icmp .gt 6, 3) := by decide +kernel
theorem dX12_idling_76 : decode cX12_idling 76 = .ok (.goto 10, 3) := by decide +kernel
theorem dX12_idling_79 : decode cX12_idling 79 = .ok (.iload 5, 2) := by decide +kernel
theorem dX12_idling_81 : decode cX12_idling 81 = .ok (.istore_n 3, 1) := by decide +kernel
theorem dX12_idling_82 : decode cX12_idling 82 = .ok (.iload 6, 2) := by decide +kernel
theorem dX12_idling_84 : decode cX12_idling 84 = .ok (.istore 4, 2) := by decide +kernel
theorem dX12_idling_86 : decode cX12_idling 86 = .ok (.iinc 5 1, 3) := by decide +kernel
theorem dX12_idling_89 : decode cX12_idling 89 = .ok (.goto (-52), 3) := by decide +kernel
theorem dX12_idling_92 : decode cX12_idling 92 = .ok (.iload_n 2, 1) := by decide +kernel
theorem dX12_idling_93 : decode cX12_idling 93 = .ok (.ifCond .ne 7, 3) := by decide +kernel
theorem dX12_idling_96 : decode cX12_idling 96 = .ok (.iload_n 3, 1) := by decide +kernel
theorem dX12_idling_97 : decode cX12_idling 97 = .ok (.goto 5, 3) := by decide +kernel
theorem dX12_idling_100 : decode cX12_idling 100 = .ok (.iload 4, 2) := by decide +kernel
theorem dX12_idling_102 : decode cX12_idling 102 = .ok (.ireturn, 1) := by decide +kernel
theorem dX12_least_0 : decode cX12_least 0 = .ok (.iload_n 1, 1) := by decide +kernel
theorem dX12_least_1 : decode cX12_least 1 = .ok (.iconst 1, 1) := by decide +kernel
theorem dX12_least_2 : decode cX12_least 2 = .ok (.bipush 100, 2) := by decide +kernel
theorem dX12_least_4 : decode cX12_least 4 = .ok (.invokestatic 262, 3) := by decide +kernel
theorem dX12_least_7 : decode cX12_least 7 = .ok (.ifCond .eq 16, 3) := by decide +kernel
theorem dX12_least_10 : decode cX12_least 10 = .ok (.aload_n 0, 1) := by decide +kernel
theorem dX12_least_11 : decode cX12_least 11 = .ok (.iload_n 2, 1) := by decide +kernel
theorem dX12_least_12 : decode cX12_least 12 = .ok (.invokevirtual 405, 3) := by decide +kernel
theorem dX12_least_15 : decode cX12_least 15 = .ok (.ifCond .eq 8, 3) := by decide +kernel
theorem dX12_least_18 : decode cX12_least 18 = .ok (.iload_n 3, 1) := by decide +kernel
theorem dX12_least_19 : decode cX12_least 19 = .ok (.iconst 1, 1) := by decide +kernel
theorem dX12_least_20 : decode cX12_least 20 = .ok (.if_icmp .ge 5, 3) := by decide +kernel
theorem dX12_least_23 : decode cX12_least 23 = .ok (.iconst (-1), 1) := by decide +kernel
theorem dX12_least_24 : decode cX12_least 24 = .ok (.ireturn, 1) := by decide +kernel
theorem dX12_least_25 : decode cX12_least 25 = .ok (.iconst 1, 1) := by decide +kernel
theorem dX12_least_26 : decode cX12_least 26 = .ok (.istore 4, 2) := by decide +kernel
theorem dX12_least_28 : decode cX12_least 28 = .ok (.iload 4, 2) := by decide +kernel
theorem dX12_least_30 : decode cX12_least 30 = .ok (.bipush 100, 2) := by decide +kernel
theorem dX12_least_32 : decode cX12_least 32 = .ok (.if_icmp .gt 39, 3) := by decide +kernel
theorem dX12_least_35 : decode cX12_least 35 = .ok (.aload_n 0, 1) := by decide +kernel
theorem dX12_least_36 : decode cX12_least 36 = .ok (.invokevirtual 425, 3) := by decide +kernel
theorem dX12_least_39 : decode cX12_least 39 = .ok (.aload_n 0, 1) := by decide +kernel
theorem dX12_least_40 : decode cX12_least 40 = .ok (.iload_n 2, 1) := by decide +kernel
theorem dX12_least_41 : decode cX12_least 41 = .ok (.iconst 0, 1) := by decide +kernel
theorem dX12_least_42 : decode cX12_least 42 = .ok (.iload 4, 2) := by decide +kernel
theorem dX12_least_44 : decode cX12_least 44 = .ok (.invokevirtual 314, 3) := by decide +kernel
theorem dX12_least_47 : decode cX12_least 47 = .ok (.aload_n 0, 1) := by decide +kernel
theorem dX12_least_48 : decode cX12_least 48 = .ok (.iload_n 1, 1) := by decide +kernel
theorem dX12_least_49 : decode cX12_least 49 = .ok (.invokevirtual 428, 3) := by decide +kernel
theorem dX12_least_52 : decode cX12_least 52 = .ok (.aload_n 0, 1) := by decide +kernel
theorem dX12_least_53 : decode cX12_least 53 = .ok (.iload_n 2, 1) := by decide +kernel
theorem dX12_least_54 : decode cX12_least 54 = .ok (.iconst 1, 1) := by decide +kernel
theorem dX12_least_55 : decode cX12_least 55 = .ok (.invokevirtual 431, 3) := by decide +kernel
theorem dX12_least_58 : decode cX12_least 58 = .ok (.iload_n 3, 1) := by decide +kernel
theorem dX12_least_59 : decode cX12_least 59 = .ok (.if_icmp .lt 6, 3) := by decide +kernel
theorem dX12_least_62 : decode cX12_least 62 = .ok (.iload 4, 2) := by decide +kernel
theorem dX12_least_64 : decode cX12_least 64 = .ok (.ireturn, 1) := by decide +kernel
theorem dX12_least_65 : decode cX12_least 65 = .ok (.iinc 4 1, 3) := by decide +kernel
theorem dX12_least_68 : decode cX12_least 68 = .ok (.goto (-40), 3) := by decide +kernel
theorem dX12_least_71 : decode cX12_least 71 = .ok (.iconst (-1), 1) := by decide +kernel
theorem dX12_least_72 : decode cX12_least 72 = .ok (.ireturn, 1) := by decide +kernel
theorem dX12_expiry_0 : decode cX12_expiry 0 = .ok (.aload_n 0, 1) := by decide +kernel
theorem dX12_expiry_1 : decode cX12_expiry 1 = .ok (.getfield 7, 3) := by decide +kernel
theorem dX12_expiry_4 : decode cX12_expiry 4 = .ok (.ifCond .eq 16, 3) := by decide +kernel
theorem dX12_expiry_7 : decode cX12_expiry 7 = .ok (.iload_n 2, 1) := by decide +kernel
theorem dX12_expiry_8 : decode cX12_expiry 8 = .ok (.iconst 0, 1) := by decide +kernel
theorem dX12_expiry_9 : decode cX12_expiry 9 = .ok (.iconst 3, 1) := by decide +kernel
theorem dX12_expiry_10 : decode cX12_expiry 10 = .ok (.invokestatic 262, 3) := by decide +kernel
theorem dX12_expiry_13 : decode cX12_expiry 13 = .ok (.ifCond .eq 7, 3) := by decide +kernel
theorem dX12_expiry_16 : decode cX12_expiry 16 = .ok (.iload_n 1, 1) := by decide +kernel
theorem dX12_expiry_17 : decode cX12_expiry 17 = .ok (.ifCond .ge 5, 3) := by decide +kernel
theorem dX12_expiry_20 : decode cX12_expiry 20 = .ok (.iconst (-1), 1) := by decide +kernel
theorem dX12_expiry_21 : decode cX12_expiry 21 = .ok (.ireturn, 1) := by decide +kernel
theorem dX12_expiry_22 : decode cX12_expiry 22 = .ok (.aload_n 0, 1) := by decide +kernel
theorem dX12_expiry_23 : decode cX12_expiry 23 = .ok (.invokevirtual 425, 3) := by decide +kernel
theorem dX12_expiry_26 : decode cX12_expiry 26 = .ok (.aload_n 0, 1) := by decide +kernel
theorem dX12_expiry_27 : decode cX12_expiry 27 = .ok (.sipush 400, 3) := by decide +kernel
theorem dX12_expiry_30 : decode cX12_expiry 30 = .ok (.invokevirtual 428, 3) := by decide +kernel
theorem dX12_expiry_33 : decode cX12_expiry 33 = .ok (.iload_n 1, 1) := by decide +kernel
theorem dX12_expiry_34 : decode cX12_expiry 34 = .ok (.aload_n 0, 1) := by decide +kernel
theorem dX12_expiry_35 : decode cX12_expiry 35 = .ok (.getfield 187, 3) := by decide +kernel
theorem dX12_expiry_38 : decode cX12_expiry 38 = .ok (.if_icmp .ge 16, 3) := by decide +kernel
theorem dX12_expiry_41 : decode cX12_expiry 41 = .ok (.aload_n 0, 1) := by decide +kernel
theorem dX12_expiry_42 : decode cX12_expiry 42 = .ok (.getfield 193, 3) := by decide +kernel
theorem dX12_expiry_45 : decode cX12_expiry 45 = .ok (.iconst 4, 1) := by decide +kernel
theorem dX12_expiry_46 : decode cX12_expiry 46 = .ok (.iload_n 1, 1) := by decide +kernel
theorem dX12_expiry_47 : decode cX12_expiry 47 = .ok (.imul, 1) := by decide +kernel
theorem dX12_expiry_48 : decode cX12_expiry 48 = .ok (.iload_n 2, 1) := by decide +kernel
theorem dX12_expiry_49 : decode cX12_expiry 49 = .ok (.iadd, 1) := by decide +kernel
theorem dX12_expiry_50 : decode cX12_expiry 50 = .ok (.iaload, 1) := by decide +kernel
theorem dX12_expiry_51 : decode cX12_expiry 51 = .ok (.goto 4, 3) := by decide +kernel
theorem dX12_expiry_54 : decode cX12_expiry 54 = .ok (.iconst (-1), 1) := by decide +kernel
theorem dX12_expiry_55 : decode cX12_expiry 55 = .ok (.ireturn, 1) := by decide +kernel
theorem dX12_worst_0 : decode cX12_worst 0 = .ok (.aload_n 0, 1) := by decide +kernel
theorem dX12_worst_1 : decode cX12_worst 1 = .ok (.getfield 7, 3) := by decide +kernel
theorem dX12_worst_4 : decode cX12_worst 4 = .ok (.ifCond .eq 23, 3) := by decide +kernel
theorem dX12_worst_7 : decode cX12_worst 7 = .ok (.iload_n 1, 1) := by decide +kernel
theorem dX12_worst_8 : decode cX12_worst 8 = .ok (.iconst 1, 1) := by decide +kernel
theorem dX12_worst_9 : decode cX12_worst 9 = .ok (.sipush 400, 3) := by decide +kernel
theorem dX12_worst_12 : decode cX12_worst 12 = .ok (.invokestatic 262, 3) := by decide +kernel
theorem dX12_worst_15 : decode cX12_worst 15 = .ok (.ifCond .eq 12, 3) := by decide +kernel
theorem dX12_worst_18 : decode cX12_worst 18 = .ok (.iload_n 2, 1) := by decide +kernel
theorem dX12_worst_19 : decode cX12_worst 19 = .ok (.iconst 0, 1) := by decide +kernel
theorem dX12_worst_20 : decode cX12_worst 20 = .ok (.iconst 1, 1) := by decide +kernel
theorem dX12_worst_21 : decode cX12_worst 21 = .ok (.invokestatic 262, 3) := by decide +kernel
theorem dX12_worst_24 : decode cX12_worst 24 = .ok (.ifCond .ne 5, 3) := by decide +kernel
theorem dX12_worst_27 : decode cX12_worst 27 = .ok (.iconst (-1), 1) := by decide +kernel
theorem dX12_worst_28 : decode cX12_worst 28 = .ok (.ireturn, 1) := by decide +kernel
theorem dX12_worst_29 : decode cX12_worst 29 = .ok (.aload_n 0, 1) := by decide +kernel
theorem dX12_worst_30 : decode cX12_worst 30 = .ok (.invokevirtual 425, 3) := by decide +kernel
theorem dX12_worst_33 : decode cX12_worst 33 = .ok (.aload_n 0, 1) := by decide +kernel
theorem dX12_worst_34 : decode cX12_worst 34 = .ok (.iload_n 1, 1) := by decide +kernel
theorem dX12_worst_35 : decode cX12_worst 35 = .ok (.invokevirtual 428, 3) := by decide +kernel
theorem dX12_worst_38 : decode cX12_worst 38 = .ok (.aload_n 0, 1) := by decide +kernel
theorem dX12_worst_39 : decode cX12_worst 39 = .ok (.getfield 184, 3) := by decide +kernel
theorem dX12_worst_42 : decode cX12_worst 42 = .ok (.ifCond .ne 5, 3) := by decide +kernel
theorem dX12_worst_45 : decode cX12_worst 45 = .ok (.iconst (-1), 1) := by decide +kernel
theorem dX12_worst_46 : decode cX12_worst 46 = .ok (.ireturn, 1) := by decide +kernel
theorem dX12_worst_47 : decode cX12_worst 47 = .ok (.aload_n 0, 1) := by decide +kernel
theorem dX12_worst_48 : decode cX12_worst 48 = .ok (.iconst (-1), 1) := by decide +kernel
theorem dX12_worst_49 : decode cX12_worst 49 = .ok (.iconst 3, 1) := by decide +kernel
theorem dX12_worst_50 : decode cX12_worst 50 = .ok (.invokevirtual 431, 3) := by decide +kernel
theorem dX12_worst_53 : decode cX12_worst 53 = .ok (.istore_n 3, 1) := by decide +kernel
theorem dX12_worst_54 : decode cX12_worst 54 = .ok (.iload_n 2, 1) := by decide +kernel
theorem dX12_worst_55 : decode cX12_worst 55 = .ok (.iconst 1, 1) := by decide +kernel
theorem dX12_worst_56 : decode cX12_worst 56 = .ok (.if_icmp .ne 5, 3) := by decide +kernel
theorem dX12_worst_59 : decode cX12_worst 59 = .ok (.iload_n 3, 1) := by decide +kernel
theorem dX12_worst_60 : decode cX12_worst 60 = .ok (.ireturn, 1) := by decide +kernel
theorem dX12_worst_61 : decode cX12_worst 61 = .ok (.bipush 6, 2) := by decide +kernel
theorem dX12_worst_63 : decode cX12_worst 63 = .ok (.istore 4, 2) := by decide +kernel
theorem dX12_worst_65 : decode cX12_worst 65 = .ok (.iconst 0, 1) := by decide +kernel
theorem dX12_worst_66 : decode cX12_worst 66 = .ok (.istore 5, 2) := by decide +kernel
theorem dX12_worst_68 : decode cX12_worst 68 = .ok (.iload 5, 2) := by decide +kernel
theorem dX12_worst_70 : decode cX12_worst 70 = .ok (.aload_n 0, 1) := by decide +kernel
theorem dX12_worst_71 : decode cX12_worst 71 = .ok (.getfield 184, 3) := by decide +kernel
theorem dX12_worst_74 : decode cX12_worst 74 = .ok (.if_icmp .ge 47, 3) := by decide +kernel
theorem dX12_worst_77 : decode cX12_worst 77 = .ok (.aload_n 0, 1) := by decide +kernel
theorem dX12_worst_78 : decode cX12_worst 78 = .ok (.getfield 190, 3) := by decide +kernel
theorem dX12_worst_81 : decode cX12_worst 81 = .ok (.iconst 4, 1) := by decide +kernel
theorem dX12_worst_82 : decode cX12_worst 82 = .ok (.iload 5, 2) := by decide +kernel
theorem dX12_worst_84 : decode cX12_worst 84 = .ok (.imul, 1) := by decide +kernel
theorem dX12_worst_85 : decode cX12_worst 85 = .ok (.iconst 2, 1) := by decide +kernel
theorem dX12_worst_86 : decode cX12_worst 86 = .ok (.iadd, 1) := by decide +kernel
theorem dX12_worst_87 : decode cX12_worst 87 = .ok (.iaload, 1) := by decide +kernel
theorem dX12_worst_88 : decode cX12_worst 88 = .ok (.iload_n 3, 1) := by decide +kernel
theorem dX12_worst_89 : decode cX12_worst 89 = .ok (.if_icmp .ne 22, 3) := by decide +kernel
theorem dX12_worst_92 : decode cX12_worst 92 = .ok (.iload 4, 2) := by decide +kernel
theorem dX12_worst_94 : decode cX12_worst 94 = .ok (.aload_n 0, 1) := by decide +kernel
theorem dX12_worst_95 : decode cX12_worst 95 = .ok (.getfield 190, 3) := by decide +kernel
theorem dX12_worst_98 : decode cX12_worst 98 = .ok (.iconst 4, 1) := by decide +kernel
theorem dX12_worst_99 : decode cX12_worst 99 = .ok (.iload 5, 2) := by decide +kernel
theorem dX12_worst_101 : decode cX12_worst 101 = .ok (.imul, 1) := by decide +kernel
theorem dX12_worst_102 : decode cX12_worst 102 = .ok (.iconst 1, 1) := by decide +kernel
theorem dX12_worst_103 : decode cX12_worst 103 = .ok (.iadd, 1) := by decide +kernel
theorem dX12_worst_104 : decode cX12_worst 104 = .ok (.iaload, 1) := by decide +kernel
theorem dX12_worst_105 : decode cX12_worst 105 = .ok (.invokestatic 276, 3) := by decide +kernel
theorem dX12_worst_108 : decode cX12_worst 108 = .ok (.goto 5, 3) := by decide +kernel
theorem dX12_worst_111 : decode cX12_worst 111 = .ok (.iload 4, 2) := by decide +kernel
theorem dX12_worst_113 : decode cX12_worst 113 = .ok (.istore 4, 2) := by decide +kernel
theorem dX12_worst_115 : decode cX12_worst 115 = .ok (.iinc 5 1, 3) := by decide +kernel
theorem dX12_worst_118 : decode cX12_worst 118 = .ok (.goto (-50), 3) := by decide +kernel
theorem dX12_worst_121 : decode cX12_worst 121 = .ok (.iload 4, 2) := by decide +kernel
theorem dX12_worst_123 : decode cX12_worst 123 = .ok (.ireturn, 1) := by decide +kernel
theorem dX12_slicing_0 : decode cX12_slicing 0 = .ok (.iload_n 1, 1) := by decide +kernel
theorem dX12_slicing_1 : decode cX12_slicing 1 = .ok (.iconst 1, 1) := by decide +kernel
theorem dX12_slicing_2 : decode cX12_slicing 2 = .ok (.bipush 100, 2) := by decide +kernel
theorem dX12_slicing_4 : decode cX12_slicing 4 = .ok (.invokestatic 262, 3) := by decide +kernel
theorem dX12_slicing_7 : decode cX12_slicing 7 = .ok (.ifCond .eq 19, 3) := by decide +kernel
theorem dX12_slicing_10 : decode cX12_slicing 10 = .ok (.aload_n 0, 1) := by decide +kernel
theorem dX12_slicing_11 : decode cX12_slicing 11 = .ok (.getfield 13, 3) := by decide +kernel
theorem dX12_slicing_14 : decode cX12_slicing 14 = .ok (.ifCond .eq 12, 3) := by decide +kernel
theorem dX12_slicing_17 : decode cX12_slicing 17 = .ok (.iload_n 2, 1) := by decide +kernel
