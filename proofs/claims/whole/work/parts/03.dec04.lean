theorem dX12_init_0 : decode cX12_init 0 = .ok (.aload_n 0, 1) := by decide +kernel
theorem dX12_init_1 : decode cX12_init 1 = .ok (.invokespecial 1, 3) := by decide +kernel
theorem dX12_init_4 : decode cX12_init 4 = .ok (.aload_n 0, 1) := by decide +kernel
theorem dX12_init_5 : decode cX12_init 5 = .ok (.iconst 0, 1) := by decide +kernel
theorem dX12_init_6 : decode cX12_init 6 = .ok (.putfield 7, 3) := by decide +kernel
theorem dX12_init_9 : decode cX12_init 9 = .ok (.aload_n 0, 1) := by decide +kernel
theorem dX12_init_10 : decode cX12_init 10 = .ok (.iconst 0, 1) := by decide +kernel
theorem dX12_init_11 : decode cX12_init 11 = .ok (.putfield 13, 3) := by decide +kernel
theorem dX12_init_14 : decode cX12_init 14 = .ok (.aload_n 0, 1) := by decide +kernel
theorem dX12_init_15 : decode cX12_init 15 = .ok (.iconst 0, 1) := by decide +kernel
theorem dX12_init_16 : decode cX12_init 16 = .ok (.putfield 17, 3) := by decide +kernel
theorem dX12_init_19 : decode cX12_init 19 = .ok (.aload_n 0, 1) := by decide +kernel
theorem dX12_init_20 : decode cX12_init 20 = .ok (.iconst 0, 1) := by decide +kernel
theorem dX12_init_21 : decode cX12_init 21 = .ok (.putfield 20, 3) := by decide +kernel
theorem dX12_init_24 : decode cX12_init 24 = .ok (.aload_n 0, 1) := by decide +kernel
theorem dX12_init_25 : decode cX12_init 25 = .ok (.iconst 0, 1) := by decide +kernel
theorem dX12_init_26 : decode cX12_init 26 = .ok (.putfield 23, 3) := by decide +kernel
theorem dX12_init_29 : decode cX12_init 29 = .ok (.aload_n 0, 1) := by decide +kernel
theorem dX12_init_30 : decode cX12_init 30 = .ok (.iconst 0, 1) := by decide +kernel
theorem dX12_init_31 : decode cX12_init 31 = .ok (.putfield 26, 3) := by decide +kernel
theorem dX12_init_34 : decode cX12_init 34 = .ok (.aload_n 0, 1) := by decide +kernel
theorem dX12_init_35 : decode cX12_init 35 = .ok (.iconst 0, 1) := by decide +kernel
theorem dX12_init_36 : decode cX12_init 36 = .ok (.putfield 29, 3) := by decide +kernel
theorem dX12_init_39 : decode cX12_init 39 = .ok (.aload_n 0, 1) := by decide +kernel
theorem dX12_init_40 : decode cX12_init 40 = .ok (.iconst 0, 1) := by decide +kernel
theorem dX12_init_41 : decode cX12_init 41 = .ok (.putfield 32, 3) := by decide +kernel
theorem dX12_init_44 : decode cX12_init 44 = .ok (.aload_n 0, 1) := by decide +kernel
theorem dX12_init_45 : decode cX12_init 45 = .ok (.iconst 0, 1) := by decide +kernel
theorem dX12_init_46 : decode cX12_init 46 = .ok (.putfield 35, 3) := by decide +kernel
theorem dX12_init_49 : decode cX12_init 49 = .ok (.aload_n 0, 1) := by decide +kernel
theorem dX12_init_50 : decode cX12_init 50 = .ok (.iconst 0, 1) := by decide +kernel
theorem dX12_init_51 : decode cX12_init 51 = .ok (.putfield 38, 3) := by decide +kernel
theorem dX12_init_54 : decode cX12_init 54 = .ok (.aload_n 0, 1) := by decide +kernel
theorem dX12_init_55 : decode cX12_init 55 = .ok (.iconst 0, 1) := by decide +kernel
theorem dX12_init_56 : decode cX12_init 56 = .ok (.putfield 41, 3) := by decide +kernel
theorem dX12_init_59 : decode cX12_init 59 = .ok (.aload_n 0, 1) := by decide +kernel
theorem dX12_init_60 : decode cX12_init 60 = .ok (.iconst 0, 1) := by decide +kernel
theorem dX12_init_61 : decode cX12_init 61 = .ok (.putfield 44, 3) := by decide +kernel
theorem dX12_init_64 : decode cX12_init 64 = .ok (.aload_n 0, 1) := by decide +kernel
theorem dX12_init_65 : decode cX12_init 65 = .ok (.iconst 0, 1) := by decide +kernel
theorem dX12_init_66 : decode cX12_init 66 = .ok (.putfield 47, 3) := by decide +kernel
theorem dX12_init_69 : decode cX12_init 69 = .ok (.aload_n 0, 1) := by decide +kernel
theorem dX12_init_70 : decode cX12_init 70 = .ok (.bipush 6, 2) := by decide +kernel
theorem dX12_init_72 : decode cX12_init 72 = .ok (.newarray .int, 2) := by decide +kernel
theorem dX12_init_74 : decode cX12_init 74 = .ok (.putfield 50, 3) := by decide +kernel
theorem dX12_init_77 : decode cX12_init 77 = .ok (.aload_n 0, 1) := by decide +kernel
theorem dX12_init_78 : decode cX12_init 78 = .ok (.bipush 6, 2) := by decide +kernel
theorem dX12_init_80 : decode cX12_init 80 = .ok (.newarray .int, 2) := by decide +kernel
theorem dX12_init_82 : decode cX12_init 82 = .ok (.putfield 54, 3) := by decide +kernel
theorem dX12_init_85 : decode cX12_init 85 = .ok (.aload_n 0, 1) := by decide +kernel
theorem dX12_init_86 : decode cX12_init 86 = .ok (.bipush 6, 2) := by decide +kernel
theorem dX12_init_88 : decode cX12_init 88 = .ok (.newarray .int, 2) := by decide +kernel
theorem dX12_init_90 : decode cX12_init 90 = .ok (.putfield 57, 3) := by decide +kernel
theorem dX12_init_93 : decode cX12_init 93 = .ok (.aload_n 0, 1) := by decide +kernel
theorem dX12_init_94 : decode cX12_init 94 = .ok (.bipush 6, 2) := by decide +kernel
theorem dX12_init_96 : decode cX12_init 96 = .ok (.newarray .int, 2) := by decide +kernel
theorem dX12_init_98 : decode cX12_init 98 = .ok (.putfield 60, 3) := by decide +kernel
theorem dX12_init_101 : decode cX12_init 101 = .ok (.aload_n 0, 1) := by decide +kernel
theorem dX12_init_102 : decode cX12_init 102 = .ok (.bipush 108, 2) := by decide +kernel
theorem dX12_init_104 : decode cX12_init 104 = .ok (.newarray .int, 2) := by decide +kernel
theorem dX12_init_106 : decode cX12_init 106 = .ok (.putfield 63, 3) := by decide +kernel
theorem dX12_init_109 : decode cX12_init 109 = .ok (.aload_n 0, 1) := by decide +kernel
theorem dX12_init_110 : decode cX12_init 110 = .ok (.bipush 36, 2) := by decide +kernel
theorem dX12_init_112 : decode cX12_init 112 = .ok (.newarray .int, 2) := by decide +kernel
theorem dX12_init_114 : decode cX12_init 114 = .ok (.putfield 66, 3) := by decide +kernel
theorem dX12_init_117 : decode cX12_init 117 = .ok (.aload_n 0, 1) := by decide +kernel
theorem dX12_init_118 : decode cX12_init 118 = .ok (.iconst 0, 1) := by decide +kernel
theorem dX12_init_119 : decode cX12_init 119 = .ok (.putfield 69, 3) := by decide +kernel
theorem dX12_init_122 : decode cX12_init 122 = .ok (.aload_n 0, 1) := by decide +kernel
theorem dX12_init_123 : decode cX12_init 123 = .ok (.iconst 0, 1) := by decide +kernel
theorem dX12_init_124 : decode cX12_init 124 = .ok (.putfield 72, 3) := by decide +kernel
theorem dX12_init_127 : decode cX12_init 127 = .ok (.aload_n 0, 1) := by decide +kernel
theorem dX12_init_128 : decode cX12_init 128 = .ok (.iconst 0, 1) := by decide +kernel
theorem dX12_init_129 : decode cX12_init 129 = .ok (.putfield 75, 3) := by decide +kernel
theorem dX12_init_132 : decode cX12_init 132 = .ok (.aload_n 0, 1) := by decide +kernel
theorem dX12_init_133 : decode cX12_init 133 = .ok (.iconst 0, 1) := by decide +kernel
theorem dX12_init_134 : decode cX12_init 134 = .ok (.putfield 78, 3) := by decide +kernel
theorem dX12_init_137 : decode cX12_init 137 = .ok (.aload_n 0, 1) := by decide +kernel
theorem dX12_init_138 : decode cX12_init 138 = .ok (.iconst 0, 1) := by decide +kernel
theorem dX12_init_139 : decode cX12_init 139 = .ok (.putfield 81, 3) := by decide +kernel
theorem dX12_init_142 : decode cX12_init 142 = .ok (.aload_n 0, 1) := by decide +kernel
theorem dX12_init_143 : decode cX12_init 143 = .ok (.iconst 0, 1) := by decide +kernel
theorem dX12_init_144 : decode cX12_init 144 = .ok (.putfield 84, 3) := by decide +kernel
theorem dX12_init_147 : decode cX12_init 147 = .ok (.aload_n 0, 1) := by decide +kernel
theorem dX12_init_148 : decode cX12_init 148 = .ok (.iconst 0, 1) := by decide +kernel
theorem dX12_init_149 : decode cX12_init 149 = .ok (.putfield 87, 3) := by decide +kernel
theorem dX12_init_152 : decode cX12_init 152 = .ok (.aload_n 0, 1) := by decide +kernel
theorem dX12_init_153 : decode cX12_init 153 = .ok (.iconst 0, 1) := by decide +kernel
theorem dX12_init_154 : decode cX12_init 154 = .ok (.putfield 90, 3) := by decide +kernel
theorem dX12_init_157 : decode cX12_init 157 = .ok (.aload_n 0, 1) := by decide +kernel
theorem dX12_init_158 : decode cX12_init 158 = .ok (.iconst 0, 1) := by decide +kernel
theorem dX12_init_159 : decode cX12_init 159 = .ok (.putfield 93, 3) := by decide +kernel
theorem dX12_init_162 : decode cX12_init 162 = .ok (.aload_n 0, 1) := by decide +kernel
theorem dX12_init_163 : decode cX12_init 163 = .ok (.iconst 0, 1) := by decide +kernel
theorem dX12_init_164 : decode cX12_init 164 = .ok (.putfield 96, 3) := by decide +kernel
theorem dX12_init_167 : decode cX12_init 167 = .ok (.aload_n 0, 1) := by decide +kernel
theorem dX12_init_168 : decode cX12_init 168 = .ok (.iconst 0, 1) := by decide +kernel
theorem dX12_init_169 : decode cX12_init 169 = .ok (.putfield 99, 3) := by decide +kernel
theorem dX12_init_172 : decode cX12_init 172 = .ok (.aload_n 0, 1) := by decide +kernel
theorem dX12_init_173 : decode cX12_init 173 = .ok (.iconst 0, 1) := by decide +kernel
theorem dX12_init_174 : decode cX12_init 174 = .ok (.putfield 102, 3) := by decide +kernel
theorem dX12_init_177 : decode cX12_init 177 = .ok (.aload_n 0, 1) := by decide +kernel
theorem dX12_init_178 : decode cX12_init 178 = .ok (.iconst 0, 1) := by decide +kernel
theorem dX12_init_179 : decode cX12_init 179 = .ok (.putfield 105, 3) := by decide +kernel
theorem dX12_init_182 : decode cX12_init 182 = .ok (.aload_n 0, 1) := by decide +kernel
theorem dX12_init_183 : decode cX12_init 183 = .ok (.bipush 6, 2) := by decide +kernel
theorem dX12_init_185 : decode cX12_init 185 = .ok (.newarray .int, 2) := by decide +kernel
theorem dX12_init_187 : decode cX12_init 187 = .ok (.putfield 108, 3) := by decide +kernel
theorem dX12_init_190 : decode cX12_init 190 = .ok (.aload_n 0, 1) := by decide +kernel
theorem dX12_init_191 : decode cX12_init 191 = .ok (.bipush 6, 2) := by decide +kernel
theorem dX12_init_193 : decode cX12_init 193 = .ok (.newarray .int, 2) := by decide +kernel
theorem dX12_init_195 : decode cX12_init 195 = .ok (.putfield 111, 3) := by decide +kernel
theorem dX12_init_198 : decode cX12_init 198 = .ok (.aload_n 0, 1) := by decide +kernel
theorem dX12_init_199 : decode cX12_init 199 = .ok (.bipush 6, 2) := by decide +kernel
theorem dX12_init_201 : decode cX12_init 201 = .ok (.newarray .int, 2) := by decide +kernel
theorem dX12_init_203 : decode cX12_init 203 = .ok (.putfield 114, 3) := by decide +kernel
theorem dX12_init_206 : decode cX12_init 206 = .ok (.aload_n 0, 1) := by decide +kernel
theorem dX12_init_207 : decode cX12_init 207 = .ok (.bipush 6, 2) := by decide +kernel
theorem dX12_init_209 : decode cX12_init 209 = .ok (.newarray .int, 2) := by decide +kernel
theorem dX12_init_211 : decode cX12_init 211 = .ok (.putfield 117, 3) := by decide +kernel
theorem dX12_init_214 : decode cX12_init 214 = .ok (.aload_n 0, 1) := by decide +kernel
theorem dX12_init_215 : decode cX12_init 215 = .ok (.bipush 108, 2) := by decide +kernel
theorem dX12_init_217 : decode cX12_init 217 = .ok (.newarray .int, 2) := by decide +kernel
theorem dX12_init_219 : decode cX12_init 219 = .ok (.putfield 120, 3) := by decide +kernel
theorem dX12_init_222 : decode cX12_init 222 = .ok (.aload_n 0, 1) := by decide +kernel
theorem dX12_init_223 : decode cX12_init 223 = .ok (.bipush 36, 2) := by decide +kernel
theorem dX12_init_225 : decode cX12_init 225 = .ok (.newarray .int, 2) := by decide +kernel
theorem dX12_init_227 : decode cX12_init 227 = .ok (.putfield 123, 3) := by decide +kernel
theorem dX12_init_230 : decode cX12_init 230 = .ok (.aload_n 0, 1) := by decide +kernel
theorem dX12_init_231 : decode cX12_init 231 = .ok (.sipush 1600, 3) := by decide +kernel
theorem dX12_init_234 : decode cX12_init 234 = .ok (.newarray .int, 2) := by decide +kernel
theorem dX12_init_236 : decode cX12_init 236 = .ok (.putfield 126, 3) := by decide +kernel
theorem dX12_init_239 : decode cX12_init 239 = .ok (.aload_n 0, 1) := by decide +kernel
theorem dX12_init_240 : decode cX12_init 240 = .ok (.iconst 0, 1) := by decide +kernel
theorem dX12_init_241 : decode cX12_init 241 = .ok (.putfield 129, 3) := by decide +kernel
theorem dX12_init_244 : decode cX12_init 244 = .ok (.aload_n 0, 1) := by decide +kernel
theorem dX12_init_245 : decode cX12_init 245 = .ok (.bipush 6, 2) := by decide +kernel
theorem dX12_init_247 : decode cX12_init 247 = .ok (.newarray .int, 2) := by decide +kernel
theorem dX12_init_249 : decode cX12_init 249 = .ok (.putfield 132, 3) := by decide +kernel
theorem dX12_init_252 : decode cX12_init 252 = .ok (.aload_n 0, 1) := by decide +kernel
theorem dX12_init_253 : decode cX12_init 253 = .ok (.iconst 0, 1) := by decide +kernel
theorem dX12_init_254 : decode cX12_init 254 = .ok (.putfield 135, 3) := by decide +kernel
theorem dX12_init_257 : decode cX12_init 257 = .ok (.aload_n 0, 1) := by decide +kernel
theorem dX12_init_258 : decode cX12_init 258 = .ok (.iconst (-1), 1) := by decide +kernel
theorem dX12_init_259 : decode cX12_init 259 = .ok (.putfield 138, 3) := by decide +kernel
theorem dX12_init_262 : decode cX12_init 262 = .ok (.aload_n 0, 1) := by decide +kernel
theorem dX12_init_263 : decode cX12_init 263 = .ok (.iconst 0, 1) := by decide +kernel
theorem dX12_init_264 : decode cX12_init 264 = .ok (.putfield 141, 3) := by decide +kernel
theorem dX12_init_267 : decode cX12_init 267 = .ok (.aload_n 0, 1) := by decide +kernel
theorem dX12_init_268 : decode cX12_init 268 = .ok (.iconst 0, 1) := by decide +kernel
theorem dX12_init_269 : decode cX12_init 269 = .ok (.putfield 144, 3) := by decide +kernel
theorem dX12_init_272 : decode cX12_init 272 = .ok (.aload_n 0, 1) := by decide +kernel
theorem dX12_init_273 : decode cX12_init 273 = .ok (.iconst 0, 1) := by decide +kernel
theorem dX12_init_274 : decode cX12_init 274 = .ok (.putfield 147, 3) := by decide +kernel
theorem dX12_init_277 : decode cX12_init 277 = .ok (.aload_n 0, 1) := by decide +kernel
theorem dX12_init_278 : decode cX12_init 278 = .ok (.iconst 0, 1) := by decide +kernel
theorem dX12_init_279 : decode cX12_init 279 = .ok (.putfield 150, 3) := by decide +kernel
theorem dX12_init_282 : decode cX12_init 282 = .ok (.aload_n 0, 1) := by decide +kernel
theorem dX12_init_283 : decode cX12_init 283 = .ok (.iconst (-1), 1) := by decide +kernel
theorem dX12_init_284 : decode cX12_init 284 = .ok (.putfield 153, 3) := by decide +kernel
theorem dX12_init_287 : decode cX12_init 287 = .ok (.aload_n 0, 1) := by decide +kernel
theorem dX12_init_288 : decode cX12_init 288 = .ok (.bipush 105, 2) := by decide +kernel
theorem dX12_init_290 : decode cX12_init 290 = .ok (.newarray .int, 2) := by decide +kernel
theorem dX12_init_292 : decode cX12_init 292 = .ok (.dup, 1) := by decide +kernel
theorem dX12_init_293 : decode cX12_init 293 = .ok (.iconst 0, 1) := by decide +kernel
theorem dX12_init_294 : decode cX12_init 294 = .ok (.iconst 4, 1) := by decide +kernel
theorem dX12_init_295 : decode cX12_init 295 = .ok (.iastore, 1) := by decide +kernel
theorem dX12_init_296 : decode cX12_init 296 = .ok (.dup, 1) := by decide +kernel
theorem dX12_init_297 : decode cX12_init 297 = .ok (.iconst 1, 1) := by decide +kernel
theorem dX12_init_298 : decode cX12_init 298 = .ok (.bipush 9, 2) := by decide +kernel
theorem dX12_init_300 : decode cX12_init 300 = .ok (.iastore, 1) := by decide +kernel
theorem dX12_init_301 : decode cX12_init 301 = .ok (.dup, 1) := by decide +kernel
theorem dX12_init_302 : decode cX12_init 302 = .ok (.iconst 2, 1) := by decide +kernel
theorem dX12_init_303 : decode cX12_init 303 = .ok (.bipush 19, 2) := by decide +kernel
theorem dX12_init_305 : decode cX12_init 305 = .ok (.iastore, 1) := by decide +kernel
theorem dX12_init_306 : decode cX12_init 306 = .ok (.dup, 1) := by decide +kernel
theorem dX12_init_307 : decode cX12_init 307 = .ok (.iconst 3, 1) := by decide +kernel
theorem dX12_init_308 : decode cX12_init 308 = .ok (.bipush 11, 2) := by decide +kernel
theorem dX12_init_310 : decode cX12_init 310 = .ok (.iastore, 1) := by decide +kernel
theorem dX12_init_311 : decode cX12_init 311 = .ok (.dup, 1) := by decide +kernel
theorem dX12_init_312 : decode cX12_init 312 = .ok (.iconst 4, 1) := by decide +kernel
theorem dX12_init_313 : decode cX12_init 313 = .ok (.iconst 0, 1) := by decide +kernel
theorem dX12_init_314 : decode cX12_init 314 = .ok (.iastore, 1) := by decide +kernel
theorem dX12_init_315 : decode cX12_init 315 = .ok (.dup, 1) := by decide +kernel
theorem dX12_init_316 : decode cX12_init 316 = .ok (.iconst 5, 1) := by decide +kernel
theorem dX12_init_317 : decode cX12_init 317 = .ok (.bipush 19, 2) := by decide +kernel
theorem dX12_init_319 : decode cX12_init 319 = .ok (.iastore, 1) := by decide +kernel
theorem dX12_init_320 : decode cX12_init 320 = .ok (.dup, 1) := by decide +kernel
theorem dX12_init_321 : decode cX12_init 321 = .ok (.bipush 6, 2) := by decide +kernel
theorem dX12_init_323 : decode cX12_init 323 = .ok (.iconst 5, 1) := by decide +kernel
theorem dX12_init_324 : decode cX12_init 324 = .ok (.iastore, 1) := by decide +kernel
theorem dX12_init_325 : decode cX12_init 325 = .ok (.dup, 1) := by decide +kernel
theorem dX12_init_326 : decode cX12_init 326 = .ok (.bipush 7, 2) := by decide +kernel
theorem dX12_init_328 : decode cX12_init 328 = .ok (.iconst 5, 1) := by decide +kernel
theorem dX12_init_329 : decode cX12_init 329 = .ok (.iastore, 1) := by decide +kernel
theorem dX12_init_330 : decode cX12_init 330 = .ok (.dup, 1) := by decide +kernel
theorem dX12_init_331 : decode cX12_init 331 = .ok (.bipush 8, 2) := by decide +kernel
theorem dX12_init_333 : decode cX12_init 333 = .ok (.bipush 11, 2) := by decide +kernel
theorem dX12_init_335 : decode cX12_init 335 = .ok (.iastore, 1) := by decide +kernel
theorem dX12_init_336 : decode cX12_init 336 = .ok (.dup, 1) := by decide +kernel
theorem dX12_init_337 : decode cX12_init 337 = .ok (.bipush 9, 2) := by decide +kernel
theorem dX12_init_339 : decode cX12_init 339 = .ok (.iconst 0, 1) := by decide +kernel
theorem dX12_init_340 : decode cX12_init 340 = .ok (.iastore, 1) := by decide +kernel
theorem dX12_init_341 : decode cX12_init 341 = .ok (.dup, 1) := by decide +kernel
theorem dX12_init_342 : decode cX12_init 342 = .ok (.bipush 10, 2) := by decide +kernel
theorem dX12_init_344 : decode cX12_init 344 = .ok (.bipush 18, 2) := by decide +kernel
theorem dX12_init_346 : decode cX12_init 346 = .ok (.iastore, 1) := by decide +kernel
theorem dX12_init_347 : decode cX12_init 347 = .ok (.dup, 1) := by decide +kernel
theorem dX12_init_348 : decode cX12_init 348 = .ok (.bipush 11, 2) := by decide +kernel
theorem dX12_init_350 : decode cX12_init 350 = .ok (.iconst 1, 1) := by decide +kernel
theorem dX12_init_351 : decode cX12_init 351 = .ok (.iastore, 1) := by decide +kernel
theorem dX12_init_352 : decode cX12_init 352 = .ok (.dup, 1) := by decide +kernel
theorem dX12_init_353 : decode cX12_init 353 = .ok (.bipush 12, 2) := by decide +kernel
theorem dX12_init_355 : decode cX12_init 355 = .ok (.bipush 20, 2) := by decide +kernel
theorem dX12_init_357 : decode cX12_init 357 = .ok (.iastore, 1) := by decide +kernel
theorem dX12_init_358 : decode cX12_init 358 = .ok (.dup, 1) := by decide +kernel
theorem dX12_init_359 : decode cX12_init 359 = .ok (.bipush 13, 2) := by decide +kernel
theorem dX12_init_361 : decode cX12_init 361 = .ok (.iconst 5, 1) := by decide +kernel
theorem dX12_init_362 : decode cX12_init 362 = .ok (.iastore, 1) := by decide +kernel
theorem dX12_init_363 : decode cX12_init 363 = .ok (.dup, 1) := by decide +kernel
theorem dX12_init_364 : decode cX12_init 364 = .ok (.bipush 14, 2) := by decide +kernel
theorem dX12_init_366 : decode cX12_init 366 = .ok (.iconst 0, 1) := by decide +kernel
theorem dX12_init_367 : decode cX12_init 367 = .ok (.iastore, 1) := by decide +kernel
theorem dX12_init_368 : decode cX12_init 368 = .ok (.dup, 1) := by decide +kernel
theorem dX12_init_369 : decode cX12_init 369 = .ok (.bipush 15, 2) := by decide +kernel
theorem dX12_init_371 : decode cX12_init 371 = .ok (.iconst 2, 1) := by decide +kernel
theorem dX12_init_372 : decode cX12_init 372 = .ok (.iastore, 1) := by decide +kernel
theorem dX12_init_373 : decode cX12_init 373 = .ok (.dup, 1) := by decide +kernel
theorem dX12_init_374 : decode cX12_init 374 = .ok (.bipush 16, 2) := by decide +kernel
theorem dX12_init_376 : decode cX12_init 376 = .ok (.bipush 21, 2) := by decide +kernel
theorem dX12_init_378 : decode cX12_init 378 = .ok (.iastore, 1) := by decide +kernel
theorem dX12_init_379 : decode cX12_init 379 = .ok (.dup, 1) := by decide +kernel
theorem dX12_init_380 : decode cX12_init 380 = .ok (.bipush 17, 2) := by decide +kernel
theorem dX12_init_382 : decode cX12_init 382 = .ok (.iconst 4, 1) := by decide +kernel
theorem dX12_init_383 : decode cX12_init 383 = .ok (.iastore, 1) := by decide +kernel
theorem dX12_init_384 : decode cX12_init 384 = .ok (.dup, 1) := by decide +kernel
theorem dX12_init_385 : decode cX12_init 385 = .ok (.bipush 18, 2) := by decide +kernel
theorem dX12_init_387 : decode cX12_init 387 = .ok (.bipush 7, 2) := by decide +kernel
theorem dX12_init_389 : decode cX12_init 389 = .ok (.iastore, 1) := by decide +kernel
theorem dX12_init_390 : decode cX12_init 390 = .ok (.dup, 1) := by decide +kernel
theorem dX12_init_391 : decode cX12_init 391 = .ok (.bipush 19, 2) := by decide +kernel
theorem dX12_init_393 : decode cX12_init 393 = .ok (.iconst 5, 1) := by decide +kernel
theorem dX12_init_394 : decode cX12_init 394 = .ok (.iastore, 1) := by decide +kernel
theorem dX12_init_395 : decode cX12_init 395 = .ok (.dup, 1) := by decide +kernel
theorem dX12_init_396 : decode cX12_init 396 = .ok (.bipush 20, 2) := by decide +kernel
theorem dX12_init_398 : decode cX12_init 398 = .ok (.bipush 20, 2) := by decide +kernel
theorem dX12_init_400 : decode cX12_init 400 = .ok (.iastore, 1) := by decide +kernel
theorem dX12_init_401 : decode cX12_init 401 = .ok (.dup, 1) := by decide +kernel
theorem dX12_init_402 : decode cX12_init 402 = .ok (.bipush 21, 2) := by decide +kernel
theorem dX12_init_404 : decode cX12_init 404 = .ok (.iconst 0, 1) := by decide +kernel
theorem dX12_init_405 : decode cX12_init 405 = .ok (.iastore, 1) := by decide +kernel
theorem dX12_init_406 : decode cX12_init 406 = .ok (.dup, 1) := by decide +kernel
theorem dX12_init_407 : decode cX12_init 407 = .ok (.bipush 22, 2) := by decide +kernel
theorem dX12_init_409 : decode cX12_init 409 = .ok (.bipush 20, 2) := by decide +kernel
theorem dX12_init_411 : decode cX12_init 411 = .ok (.iastore, 1) := by decide +kernel
theorem dX12_init_412 : decode cX12_init 412 = .ok (.dup, 1) := by decide +kernel
theorem dX12_init_413 : decode cX12_init 413 = .ok (.bipush 23, 2) := by decide +kernel
theorem dX12_init_415 : decode cX12_init 415 = .ok (.bipush 15, 2) := by decide +kernel
theorem dX12_init_417 : decode cX12_init 417 = .ok (.iastore, 1) := by decide +kernel
theorem dX12_init_418 : decode cX12_init 418 = .ok (.dup, 1) := by decide +kernel
theorem dX12_init_419 : decode cX12_init 419 = .ok (.bipush 24, 2) := by decide +kernel
theorem dX12_init_421 : decode cX12_init 421 = .ok (.iconst 0, 1) := by decide +kernel
theorem dX12_init_422 : decode cX12_init 422 = .ok (.iastore, 1) := by decide +kernel
theorem dX12_init_423 : decode cX12_init 423 = .ok (.dup, 1) := by decide +kernel
theorem dX12_init_424 : decode cX12_init 424 = .ok (.bipush 25, 2) := by decide +kernel
theorem dX12_init_426 : decode cX12_init 426 = .ok (.bipush 9, 2) := by decide +kernel
theorem dX12_init_428 : decode cX12_init 428 = .ok (.iastore, 1) := by decide +kernel
theorem dX12_init_429 : decode cX12_init 429 = .ok (.dup, 1) := by decide +kernel
theorem dX12_init_430 : decode cX12_init 430 = .ok (.bipush 26, 2) := by decide +kernel
theorem dX12_init_432 : decode cX12_init 432 = .ok (.iconst 4, 1) := by decide +kernel
theorem dX12_init_433 : decode cX12_init 433 = .ok (.iastore, 1) := by decide +kernel
theorem dX12_init_434 : decode cX12_init 434 = .ok (.dup, 1) := by decide +kernel
theorem dX12_init_435 : decode cX12_init 435 = .ok (.bipush 27, 2) := by decide +kernel
theorem dX12_init_437 : decode cX12_init 437 = .ok (.bipush 12, 2) := by decide +kernel
theorem dX12_init_439 : decode cX12_init 439 = .ok (.iastore, 1) := by decide +kernel
theorem dX12_init_440 : decode cX12_init 440 = .ok (.dup, 1) := by decide +kernel
theorem dX12_init_441 : decode cX12_init 441 = .ok (.bipush 28, 2) := by decide +kernel
theorem dX12_init_443 : decode cX12_init 443 = .ok (.iconst 5, 1) := by decide +kernel
theorem dX12_init_444 : decode cX12_init 444 = .ok (.iastore, 1) := by decide +kernel
theorem dX12_init_445 : decode cX12_init 445 = .ok (.dup, 1) := by decide +kernel
theorem dX12_init_446 : decode cX12_init 446 = .ok (.bipush 29, 2) := by decide +kernel
theorem dX12_init_448 : decode cX12_init 448 = .ok (.iconst 0, 1) := by decide +kernel
theorem dX12_init_449 : decode cX12_init 449 = .ok (.iastore, 1) := by decide +kernel
theorem dX12_init_450 : decode cX12_init 450 = .ok (.dup, 1) := by decide +kernel
theorem dX12_init_451 : decode cX12_init 451 = .ok (.bipush 30, 2) := by decide +kernel
theorem dX12_init_453 : decode cX12_init 453 = .ok (.bipush 19, 2) := by decide +kernel
theorem dX12_init_455 : decode cX12_init 455 = .ok (.iastore, 1) := by decide +kernel
theorem dX12_init_456 : decode cX12_init 456 = .ok (.dup, 1) := by decide +kernel
theorem dX12_init_457 : decode cX12_init 457 = .ok (.bipush 31, 2) := by decide +kernel
theorem dX12_init_459 : decode cX12_init 459 = .ok (.bipush 12, 2) := by decide +kernel
theorem dX12_init_461 : decode cX12_init 461 = .ok (.iastore, 1) := by decide +kernel
theorem dX12_init_462 : decode cX12_init 462 = .ok (.dup, 1) := by decide +kernel
theorem dX12_init_463 : decode cX12_init 463 = .ok (.bipush 32, 2) := by decide +kernel
theorem dX12_init_465 : decode cX12_init 465 = .ok (.bipush 9, 2) := by decide +kernel
theorem dX12_init_467 : decode cX12_init 467 = .ok (.iastore, 1) := by decide +kernel
theorem dX12_init_468 : decode cX12_init 468 = .ok (.dup, 1) := by decide +kernel
theorem dX12_init_469 : decode cX12_init 469 = .ok (.bipush 33, 2) := by decide +kernel
theorem dX12_init_471 : decode cX12_init 471 = .ok (.iconst 3, 1) := by decide +kernel
theorem dX12_init_472 : decode cX12_init 472 = .ok (.iastore, 1) := by decide +kernel
theorem dX12_init_473 : decode cX12_init 473 = .ok (.dup, 1) := by decide +kernel
theorem dX12_init_474 : decode cX12_init 474 = .ok (.bipush 34, 2) := by decide +kernel
theorem dX12_init_476 : decode cX12_init 476 = .ok (.iconst 5, 1) := by decide +kernel
theorem dX12_init_477 : decode cX12_init 477 = .ok (.iastore, 1) := by decide +kernel
theorem dX12_init_478 : decode cX12_init 478 = .ok (.dup, 1) := by decide +kernel
theorem dX12_init_479 : decode cX12_init 479 = .ok (.bipush 35, 2) := by decide +kernel
theorem dX12_init_481 : decode cX12_init 481 = .ok (.iconst 0, 1) := by decide +kernel
theorem dX12_init_482 : decode cX12_init 482 = .ok (.iastore, 1) := by decide +kernel
theorem dX12_init_483 : decode cX12_init 483 = .ok (.dup, 1) := by decide +kernel
theorem dX12_init_484 : decode cX12_init 484 = .ok (.bipush 36, 2) := by decide +kernel
theorem dX12_init_486 : decode cX12_init 486 = .ok (.bipush 14, 2) := by decide +kernel
theorem dX12_init_488 : decode cX12_init 488 = .ok (.iastore, 1) := by decide +kernel
theorem dX12_init_489 : decode cX12_init 489 = .ok (.dup, 1) := by decide +kernel
theorem dX12_init_490 : decode cX12_init 490 = .ok (.bipush 37, 2) := by decide +kernel
theorem dX12_init_492 : decode cX12_init 492 = .ok (.iconst 5, 1) := by decide +kernel
theorem dX12_init_493 : decode cX12_init 493 = .ok (.iastore, 1) := by decide +kernel
theorem dX12_init_494 : decode cX12_init 494 = .ok (.dup, 1) := by decide +kernel
theorem dX12_init_495 : decode cX12_init 495 = .ok (.bipush 38, 2) := by decide +kernel
theorem dX12_init_497 : decode cX12_init 497 = .ok (.iconst 1, 1) := by decide +kernel
theorem dX12_init_498 : decode cX12_init 498 = .ok (.iastore, 1) := by decide +kernel
theorem dX12_init_499 : decode cX12_init 499 = .ok (.dup, 1) := by decide +kernel
theorem dX12_init_500 : decode cX12_init 500 = .ok (.bipush 39, 2) := by decide +kernel
theorem dX12_init_502 : decode cX12_init 502 = .ok (.bipush 18, 2) := by decide +kernel
theorem dX12_init_504 : decode cX12_init 504 = .ok (.iastore, 1) := by decide +kernel
theorem dX12_init_505 : decode cX12_init 505 = .ok (.dup, 1) := by decide +kernel
theorem dX12_init_506 : decode cX12_init 506 = .ok (.bipush 40, 2) := by decide +kernel
theorem dX12_init_508 : decode cX12_init 508 = .ok (.iconst 0, 1) := by decide +kernel
theorem dX12_init_509 : decode cX12_init 509 = .ok (.iastore, 1) := by decide +kernel
theorem dX12_init_510 : decode cX12_init 510 = .ok (.dup, 1) := by decide +kernel
theorem dX12_init_511 : decode cX12_init 511 = .ok (.bipush 41, 2) := by decide +kernel
theorem dX12_init_513 : decode cX12_init 513 = .ok (.bipush 18, 2) := by decide +kernel
theorem dX12_init_515 : decode cX12_init 515 = .ok (.iastore, 1) := by decide +kernel
theorem dX12_init_516 : decode cX12_init 516 = .ok (.dup, 1) := by decide +kernel
theorem dX12_init_517 : decode cX12_init 517 = .ok (.bipush 42, 2) := by decide +kernel
theorem dX12_init_519 : decode cX12_init 519 = .ok (.iconst 1, 1) := by decide +kernel
theorem dX12_init_520 : decode cX12_init 520 = .ok (.iastore, 1) := by decide +kernel
theorem dX12_init_521 : decode cX12_init 521 = .ok (.dup, 1) := by decide +kernel
theorem dX12_init_522 : decode cX12_init 522 = .ok (.bipush 43, 2) := by decide +kernel
theorem dX12_init_524 : decode cX12_init 524 = .ok (.bipush 9, 2) := by decide +kernel
theorem dX12_init_526 : decode cX12_init 526 = .ok (.iastore, 1) := by decide +kernel
theorem dX12_init_527 : decode cX12_init 527 = .ok (.dup, 1) := by decide +kernel
theorem dX12_init_528 : decode cX12_init 528 = .ok (.bipush 44, 2) := by decide +kernel
theorem dX12_init_530 : decode cX12_init 530 = .ok (.bipush 19, 2) := by decide +kernel
theorem dX12_init_532 : decode cX12_init 532 = .ok (.iastore, 1) := by decide +kernel
theorem dX12_init_533 : decode cX12_init 533 = .ok (.dup, 1) := by decide +kernel
theorem dX12_init_534 : decode cX12_init 534 = .ok (.bipush 45, 2) := by decide +kernel
theorem dX12_init_536 : decode cX12_init 536 = .ok (.iconst 5, 1) := by decide +kernel
theorem dX12_init_537 : decode cX12_init 537 = .ok (.iastore, 1) := by decide +kernel
theorem dX12_init_538 : decode cX12_init 538 = .ok (.dup, 1) := by decide +kernel
theorem dX12_init_539 : decode cX12_init 539 = .ok (.bipush 46, 2) := by decide +kernel
theorem dX12_init_541 : decode cX12_init 541 = .ok (.iconst 0, 1) := by decide +kernel
theorem dX12_init_542 : decode cX12_init 542 = .ok (.iastore, 1) := by decide +kernel
theorem dX12_init_543 : decode cX12_init 543 = .ok (.dup, 1) := by decide +kernel
theorem dX12_init_544 : decode cX12_init 544 = .ok (.bipush 47, 2) := by decide +kernel
theorem dX12_init_546 : decode cX12_init 546 = .ok (.bipush 6, 2) := by decide +kernel
theorem dX12_init_548 : decode cX12_init 548 = .ok (.iastore, 1) := by decide +kernel
theorem dX12_init_549 : decode cX12_init 549 = .ok (.dup, 1) := by decide +kernel
theorem dX12_init_550 : decode cX12_init 550 = .ok (.bipush 48, 2) := by decide +kernel
theorem dX12_init_552 : decode cX12_init 552 = .ok (.bipush 15, 2) := by decide +kernel
theorem dX12_init_554 : decode cX12_init 554 = .ok (.iastore, 1) := by decide +kernel
theorem dX12_init_555 : decode cX12_init 555 = .ok (.dup, 1) := by decide +kernel
theorem dX12_init_556 : decode cX12_init 556 = .ok (.bipush 49, 2) := by decide +kernel
theorem dX12_init_558 : decode cX12_init 558 = .ok (.bipush 18, 2) := by decide +kernel
theorem dX12_init_560 : decode cX12_init 560 = .ok (.iastore, 1) := by decide +kernel
theorem dX12_init_561 : decode cX12_init 561 = .ok (.dup, 1) := by decide +kernel
theorem dX12_init_562 : decode cX12_init 562 = .ok (.bipush 50, 2) := by decide +kernel
theorem dX12_init_564 : decode cX12_init 564 = .ok (.iconst 0, 1) := by decide +kernel
theorem dX12_init_565 : decode cX12_init 565 = .ok (.iastore, 1) := by decide +kernel
theorem dX12_init_566 : decode cX12_init 566 = .ok (.dup, 1) := by decide +kernel
theorem dX12_init_567 : decode cX12_init 567 = .ok (.bipush 51, 2) := by decide +kernel
theorem dX12_init_569 : decode cX12_init 569 = .ok (.bipush 18, 2) := by decide +kernel
theorem dX12_init_571 : decode cX12_init 571 = .ok (.iastore, 1) := by decide +kernel
theorem dX12_init_572 : decode cX12_init 572 = .ok (.dup, 1) := by decide +kernel
theorem dX12_init_573 : decode cX12_init 573 = .ok (.bipush 52, 2) := by decide +kernel
theorem dX12_init_575 : decode cX12_init 575 = .ok (.iconst 5, 1) := by decide +kernel
theorem dX12_init_576 : decode cX12_init 576 = .ok (.iastore, 1) := by decide +kernel
theorem dX12_init_577 : decode cX12_init 577 = .ok (.dup, 1) := by decide +kernel
theorem dX12_init_578 : decode cX12_init 578 = .ok (.bipush 53, 2) := by decide +kernel
theorem dX12_init_580 : decode cX12_init 580 = .ok (.bipush 19, 2) := by decide +kernel
theorem dX12_init_582 : decode cX12_init 582 = .ok (.iastore, 1) := by decide +kernel
theorem dX12_init_583 : decode cX12_init 583 = .ok (.dup, 1) := by decide +kernel
theorem dX12_init_584 : decode cX12_init 584 = .ok (.bipush 54, 2) := by decide +kernel
theorem dX12_init_586 : decode cX12_init 586 = .ok (.bipush 20, 2) := by decide +kernel
theorem dX12_init_588 : decode cX12_init 588 = .ok (.iastore, 1) := by decide +kernel
theorem dX12_init_589 : decode cX12_init 589 = .ok (.dup, 1) := by decide +kernel
theorem dX12_init_590 : decode cX12_init 590 = .ok (.bipush 55, 2) := by decide +kernel
theorem dX12_init_592 : decode cX12_init 592 = .ok (.iconst 0, 1) := by decide +kernel
theorem dX12_init_593 : decode cX12_init 593 = .ok (.iastore, 1) := by decide +kernel
theorem dX12_init_594 : decode cX12_init 594 = .ok (.dup, 1) := by decide +kernel
theorem dX12_init_595 : decode cX12_init 595 = .ok (.bipush 56, 2) := by decide +kernel
theorem dX12_init_597 : decode cX12_init 597 = .ok (.bipush 23, 2) := by decide +kernel
theorem dX12_init_599 : decode cX12_init 599 = .ok (.iastore, 1) := by decide +kernel
theorem dX12_init_600 : decode cX12_init 600 = .ok (.dup, 1) := by decide +kernel
theorem dX12_init_601 : decode cX12_init 601 = .ok (.bipush 57, 2) := by decide +kernel
theorem dX12_init_603 : decode cX12_init 603 = .ok (.iconst 5, 1) := by decide +kernel
theorem dX12_init_604 : decode cX12_init 604 = .ok (.iastore, 1) := by decide +kernel
theorem dX12_init_605 : decode cX12_init 605 = .ok (.dup, 1) := by decide +kernel
theorem dX12_init_606 : decode cX12_init 606 = .ok (.bipush 58, 2) := by decide +kernel
theorem dX12_init_608 : decode cX12_init 608 = .ok (.bipush 9, 2) := by decide +kernel
theorem dX12_init_610 : decode cX12_init 610 = .ok (.iastore, 1) := by decide +kernel
theorem dX12_init_611 : decode cX12_init 611 = .ok (.dup, 1) := by decide +kernel
theorem dX12_init_612 : decode cX12_init 612 = .ok (.bipush 59, 2) := by decide +kernel
theorem dX12_init_614 : decode cX12_init 614 = .ok (.bipush 7, 2) := by decide +kernel
theorem dX12_init_616 : decode cX12_init 616 = .ok (.iastore, 1) := by decide +kernel
theorem dX12_init_617 : decode cX12_init 617 = .ok (.dup, 1) := by decide +kernel
theorem dX12_init_618 : decode cX12_init 618 = .ok (.bipush 60, 2) := by decide +kernel
theorem dX12_init_620 : decode cX12_init 620 = .ok (.bipush 8, 2) := by decide +kernel
theorem dX12_init_622 : decode cX12_init 622 = .ok (.iastore, 1) := by decide +kernel
theorem dX12_init_623 : decode cX12_init 623 = .ok (.dup, 1) := by decide +kernel
theorem dX12_init_624 : decode cX12_init 624 = .ok (.bipush 61, 2) := by decide +kernel
theorem dX12_init_626 : decode cX12_init 626 = .ok (.bipush 20, 2) := by decide +kernel
theorem dX12_init_628 : decode cX12_init 628 = .ok (.iastore, 1) := by decide +kernel
theorem dX12_init_629 : decode cX12_init 629 = .ok (.dup, 1) := by decide +kernel
theorem dX12_init_630 : decode cX12_init 630 = .ok (.bipush 62, 2) := by decide +kernel
theorem dX12_init_632 : decode cX12_init 632 = .ok (.iconst 0, 1) := by decide +kernel
theorem dX12_init_633 : decode cX12_init 633 = .ok (.iastore, 1) := by decide +kernel
theorem dX12_init_634 : decode cX12_init 634 = .ok (.dup, 1) := by decide +kernel
theorem dX12_init_635 : decode cX12_init 635 = .ok (.bipush 63, 2) := by decide +kernel
theorem dX12_init_637 : decode cX12_init 637 = .ok (.bipush 6, 2) := by decide +kernel
theorem dX12_init_639 : decode cX12_init 639 = .ok (.iastore, 1) := by decide +kernel
theorem dX12_init_640 : decode cX12_init 640 = .ok (.dup, 1) := by decide +kernel
theorem dX12_init_641 : decode cX12_init 641 = .ok (.bipush 64, 2) := by decide +kernel
theorem dX12_init_643 : decode cX12_init 643 = .ok (.bipush 18, 2) := by decide +kernel
theorem dX12_init_645 : decode cX12_init 645 = .ok (.iastore, 1) := by decide +kernel
theorem dX12_init_646 : decode cX12_init 646 = .ok (.dup, 1) := by decide +kernel
theorem dX12_init_647 : decode cX12_init 647 = .ok (.bipush 65, 2) := by decide +kernel
theorem dX12_init_649 : decode cX12_init 649 = .ok (.bipush 15, 2) := by decide +kernel
theorem dX12_init_651 : decode cX12_init 651 = .ok (.iastore, 1) := by decide +kernel
theorem dX12_init_652 : decode cX12_init 652 = .ok (.dup, 1) := by decide +kernel
theorem dX12_init_653 : decode cX12_init 653 = .ok (.bipush 66, 2) := by decide +kernel
theorem dX12_init_655 : decode cX12_init 655 = .ok (.bipush 13, 2) := by decide +kernel
theorem dX12_init_657 : decode cX12_init 657 = .ok (.iastore, 1) := by decide +kernel
theorem dX12_init_658 : decode cX12_init 658 = .ok (.dup, 1) := by decide +kernel
theorem dX12_init_659 : decode cX12_init 659 = .ok (.bipush 67, 2) := by decide +kernel
theorem dX12_init_661 : decode cX12_init 661 = .ok (.iconst 0, 1) := by decide +kernel
theorem dX12_init_662 : decode cX12_init 662 = .ok (.iastore, 1) := by decide +kernel
theorem dX12_init_663 : decode cX12_init 663 = .ok (.dup, 1) := by decide +kernel
theorem dX12_init_664 : decode cX12_init 664 = .ok (.bipush 68, 2) := by decide +kernel
theorem dX12_init_666 : decode cX12_init 666 = .ok (.iconst 4, 1) := by decide +kernel
theorem dX12_init_667 : decode cX12_init 667 = .ok (.iastore, 1) := by decide +kernel
theorem dX12_init_668 : decode cX12_init 668 = .ok (.dup, 1) := by decide +kernel
theorem dX12_init_669 : decode cX12_init 669 = .ok (.bipush 69, 2) := by decide +kernel
theorem dX12_init_671 : decode cX12_init 671 = .ok (.bipush 15, 2) := by decide +kernel
theorem dX12_init_673 : decode cX12_init 673 = .ok (.iastore, 1) := by decide +kernel
theorem dX12_init_674 : decode cX12_init 674 = .ok (.dup, 1) := by decide +kernel
theorem dX12_init_675 : decode cX12_init 675 = .ok (.bipush 70, 2) := by decide +kernel
theorem dX12_init_677 : decode cX12_init 677 = .ok (.iconst 5, 1) := by decide +kernel
theorem dX12_init_678 : decode cX12_init 678 = .ok (.iastore, 1) := by decide +kernel
theorem dX12_init_679 : decode cX12_init 679 = .ok (.dup, 1) := by decide +kernel
theorem dX12_init_680 : decode cX12_init 680 = .ok (.bipush 71, 2) := by decide +kernel
theorem dX12_init_682 : decode cX12_init 682 = .ok (.bipush 19, 2) := by decide +kernel
theorem dX12_init_684 : decode cX12_init 684 = .ok (.iastore, 1) := by decide +kernel
theorem dX12_init_685 : decode cX12_init 685 = .ok (.dup, 1) := by decide +kernel
theorem dX12_init_686 : decode cX12_init 686 = .ok (.bipush 72, 2) := by decide +kernel
theorem dX12_init_688 : decode cX12_init 688 = .ok (.iconst 0, 1) := by decide +kernel
theorem dX12_init_689 : decode cX12_init 689 = .ok (.iastore, 1) := by decide +kernel
theorem dX12_init_690 : decode cX12_init 690 = .ok (.dup, 1) := by decide +kernel
theorem dX12_init_691 : decode cX12_init 691 = .ok (.bipush 73, 2) := by decide +kernel
theorem dX12_init_693 : decode cX12_init 693 = .ok (.bipush 19, 2) := by decide +kernel
theorem dX12_init_695 : decode cX12_init 695 = .ok (.iastore, 1) := by decide +kernel
theorem dX12_init_696 : decode cX12_init 696 = .ok (.dup, 1) := by decide +kernel
theorem dX12_init_697 : decode cX12_init 697 = .ok (.bipush 74, 2) := by decide +kernel
theorem dX12_init_699 : decode cX12_init 699 = .ok (.bipush 20, 2) := by decide +kernel
theorem dX12_init_701 : decode cX12_init 701 = .ok (.iastore, 1) := by decide +kernel
theorem dX12_init_702 : decode cX12_init 702 = .ok (.dup, 1) := by decide +kernel
theorem dX12_init_703 : decode cX12_init 703 = .ok (.bipush 75, 2) := by decide +kernel
theorem dX12_init_705 : decode cX12_init 705 = .ok (.bipush 18, 2) := by decide +kernel
theorem dX12_init_707 : decode cX12_init 707 = .ok (.iastore, 1) := by decide +kernel
theorem dX12_init_708 : decode cX12_init 708 = .ok (.dup, 1) := by decide +kernel
theorem dX12_init_709 : decode cX12_init 709 = .ok (.bipush 76, 2) := by decide +kernel
theorem dX12_init_711 : decode cX12_init 711 = .ok (.iconst 5, 1) := by decide +kernel
theorem dX12_init_712 : decode cX12_init 712 = .ok (.iastore, 1) := by decide +kernel
theorem dX12_init_713 : decode cX12_init 713 = .ok (.dup, 1) := by decide +kernel
theorem dX12_init_714 : decode cX12_init 714 = .ok (.bipush 77, 2) := by decide +kernel
theorem dX12_init_716 : decode cX12_init 716 = .ok (.iconst 1, 1) := by decide +kernel
theorem dX12_init_717 : decode cX12_init 717 = .ok (.iastore, 1) := by decide +kernel
theorem dX12_init_718 : decode cX12_init 718 = .ok (.dup, 1) := by decide +kernel
theorem dX12_init_719 : decode cX12_init 719 = .ok (.bipush 78, 2) := by decide +kernel
theorem dX12_init_721 : decode cX12_init 721 = .ok (.bipush 13, 2) := by decide +kernel
theorem dX12_init_723 : decode cX12_init 723 = .ok (.iastore, 1) := by decide +kernel
theorem dX12_init_724 : decode cX12_init 724 = .ok (.dup, 1) := by decide +kernel
theorem dX12_init_725 : decode cX12_init 725 = .ok (.bipush 79, 2) := by decide +kernel
theorem dX12_init_727 : decode cX12_init 727 = .ok (.iconst 0, 1) := by decide +kernel
theorem dX12_init_728 : decode cX12_init 728 = .ok (.iastore, 1) := by decide +kernel
theorem dX12_init_729 : decode cX12_init 729 = .ok (.dup, 1) := by decide +kernel
theorem dX12_init_730 : decode cX12_init 730 = .ok (.bipush 80, 2) := by decide +kernel
theorem dX12_init_732 : decode cX12_init 732 = .ok (.iconst 1, 1) := by decide +kernel
theorem dX12_init_733 : decode cX12_init 733 = .ok (.iastore, 1) := by decide +kernel
theorem dX12_init_734 : decode cX12_init 734 = .ok (.dup, 1) := by decide +kernel
theorem dX12_init_735 : decode cX12_init 735 = .ok (.bipush 81, 2) := by decide +kernel
theorem dX12_init_737 : decode cX12_init 737 = .ok (.bipush 20, 2) := by decide +kernel
theorem dX12_init_739 : decode cX12_init 739 = .ok (.iastore, 1) := by decide +kernel
theorem dX12_init_740 : decode cX12_init 740 = .ok (.dup, 1) := by decide +kernel
theorem dX12_init_741 : decode cX12_init 741 = .ok (.bipush 82, 2) := by decide +kernel
theorem dX12_init_743 : decode cX12_init 743 = .ok (.iconst 0, 1) := by decide +kernel
theorem dX12_init_744 : decode cX12_init 744 = .ok (.iastore, 1) := by decide +kernel
theorem dX12_init_745 : decode cX12_init 745 = .ok (.dup, 1) := by decide +kernel
theorem dX12_init_746 : decode cX12_init 746 = .ok (.bipush 83, 2) := by decide +kernel
theorem dX12_init_748 : decode cX12_init 748 = .ok (.bipush 15, 2) := by decide +kernel
theorem dX12_init_750 : decode cX12_init 750 = .ok (.iastore, 1) := by decide +kernel
theorem dX12_init_751 : decode cX12_init 751 = .ok (.dup, 1) := by decide +kernel
theorem dX12_init_752 : decode cX12_init 752 = .ok (.bipush 84, 2) := by decide +kernel
theorem dX12_init_754 : decode cX12_init 754 = .ok (.bipush 14, 2) := by decide +kernel
theorem dX12_init_756 : decode cX12_init 756 = .ok (.iastore, 1) := by decide +kernel
theorem dX12_init_757 : decode cX12_init 757 = .ok (.dup, 1) := by decide +kernel
theorem dX12_init_758 : decode cX12_init 758 = .ok (.bipush 85, 2) := by decide +kernel
theorem dX12_init_760 : decode cX12_init 760 = .ok (.iconst 0, 1) := by decide +kernel
theorem dX12_init_761 : decode cX12_init 761 = .ok (.iastore, 1) := by decide +kernel
theorem dX12_init_762 : decode cX12_init 762 = .ok (.dup, 1) := by decide +kernel
theorem dX12_init_763 : decode cX12_init 763 = .ok (.bipush 86, 2) := by decide +kernel
theorem dX12_init_765 : decode cX12_init 765 = .ok (.bipush 20, 2) := by decide +kernel
theorem dX12_init_767 : decode cX12_init 767 = .ok (.iastore, 1) := by decide +kernel
theorem dX12_init_768 : decode cX12_init 768 = .ok (.dup, 1) := by decide +kernel
theorem dX12_init_769 : decode cX12_init 769 = .ok (.bipush 87, 2) := by decide +kernel
theorem dX12_init_771 : decode cX12_init 771 = .ok (.iconst 1, 1) := by decide +kernel
theorem dX12_init_772 : decode cX12_init 772 = .ok (.iastore, 1) := by decide +kernel
theorem dX12_init_773 : decode cX12_init 773 = .ok (.dup, 1) := by decide +kernel
theorem dX12_init_774 : decode cX12_init 774 = .ok (.bipush 88, 2) := by decide +kernel
theorem dX12_init_776 : decode cX12_init 776 = .ok (.bipush 11, 2) := by decide +kernel
theorem dX12_init_778 : decode cX12_init 778 = .ok (.iastore, 1) := by decide +kernel
theorem dX12_init_779 : decode cX12_init 779 = .ok (.dup, 1) := by decide +kernel
theorem dX12_init_780 : decode cX12_init 780 = .ok (.bipush 89, 2) := by decide +kernel
theorem dX12_init_782 : decode cX12_init 782 = .ok (.iconst 5, 1) := by decide +kernel
theorem dX12_init_783 : decode cX12_init 783 = .ok (.iastore, 1) := by decide +kernel
theorem dX12_init_784 : decode cX12_init 784 = .ok (.dup, 1) := by decide +kernel
theorem dX12_init_785 : decode cX12_init 785 = .ok (.bipush 90, 2) := by decide +kernel
theorem dX12_init_787 : decode cX12_init 787 = .ok (.iconst 0, 1) := by decide +kernel
theorem dX12_init_788 : decode cX12_init 788 = .ok (.iastore, 1) := by decide +kernel
theorem dX12_init_789 : decode cX12_init 789 = .ok (.dup, 1) := by decide +kernel
theorem dX12_init_790 : decode cX12_init 790 = .ok (.bipush 91, 2) := by decide +kernel
theorem dX12_init_792 : decode cX12_init 792 = .ok (.bipush 20, 2) := by decide +kernel
theorem dX12_init_794 : decode cX12_init 794 = .ok (.iastore, 1) := by decide +kernel
theorem dX12_init_795 : decode cX12_init 795 = .ok (.dup, 1) := by decide +kernel
theorem dX12_init_796 : decode cX12_init 796 = .ok (.bipush 92, 2) := by decide +kernel
theorem dX12_init_798 : decode cX12_init 798 = .ok (.bipush 8, 2) := by decide +kernel
theorem dX12_init_800 : decode cX12_init 800 = .ok (.iastore, 1) := by decide +kernel
theorem dX12_init_801 : decode cX12_init 801 = .ok (.dup, 1) := by decide +kernel
theorem dX12_init_802 : decode cX12_init 802 = .ok (.bipush 93, 2) := by decide +kernel
theorem dX12_init_804 : decode cX12_init 804 = .ok (.bipush 9, 2) := by decide +kernel
theorem dX12_init_806 : decode cX12_init 806 = .ok (.iastore, 1) := by decide +kernel
theorem dX12_init_807 : decode cX12_init 807 = .ok (.dup, 1) := by decide +kernel
theorem dX12_init_808 : decode cX12_init 808 = .ok (.bipush 94, 2) := by decide +kernel
theorem dX12_init_810 : decode cX12_init 810 = .ok (.bipush 14, 2) := by decide +kernel
theorem dX12_init_812 : decode cX12_init 812 = .ok (.iastore, 1) := by decide +kernel
theorem dX12_init_813 : decode cX12_init 813 = .ok (.dup, 1) := by decide +kernel
theorem dX12_init_814 : decode cX12_init 814 = .ok (.bipush 95, 2) := by decide +kernel
theorem dX12_init_816 : decode cX12_init 816 = .ok (.bipush 11, 2) := by decide +kernel
theorem dX12_init_818 : decode cX12_init 818 = .ok (.iastore, 1) := by decide +kernel
theorem dX12_init_819 : decode cX12_init 819 = .ok (.dup, 1) := by decide +kernel
theorem dX12_init_820 : decode cX12_init 820 = .ok (.bipush 96, 2) := by decide +kernel
theorem dX12_init_822 : decode cX12_init 822 = .ok (.iconst 0, 1) := by decide +kernel
theorem dX12_init_823 : decode cX12_init 823 = .ok (.iastore, 1) := by decide +kernel
theorem dX12_init_824 : decode cX12_init 824 = .ok (.dup, 1) := by decide +kernel
theorem dX12_init_825 : decode cX12_init 825 = .ok (.bipush 97, 2) := by decide +kernel
theorem dX12_init_827 : decode cX12_init 827 = .ok (.bipush 16, 2) := by decide +kernel
theorem dX12_init_829 : decode cX12_init 829 = .ok (.iastore, 1) := by decide +kernel
theorem dX12_init_830 : decode cX12_init 830 = .ok (.dup, 1) := by decide +kernel
theorem dX12_init_831 : decode cX12_init 831 = .ok (.bipush 98, 2) := by decide +kernel
theorem dX12_init_833 : decode cX12_init 833 = .ok (.bipush 18, 2) := by decide +kernel
theorem dX12_init_835 : decode cX12_init 835 = .ok (.iastore, 1) := by decide +kernel
theorem dX12_init_836 : decode cX12_init 836 = .ok (.dup, 1) := by decide +kernel
theorem dX12_init_837 : decode cX12_init 837 = .ok (.bipush 99, 2) := by decide +kernel
theorem dX12_init_839 : decode cX12_init 839 = .ok (.bipush 15, 2) := by decide +kernel
theorem dX12_init_841 : decode cX12_init 841 = .ok (.iastore, 1) := by decide +kernel
theorem dX12_init_842 : decode cX12_init 842 = .ok (.dup, 1) := by decide +kernel
theorem dX12_init_843 : decode cX12_init 843 = .ok (.bipush 100, 2) := by decide +kernel
theorem dX12_init_845 : decode cX12_init 845 = .ok (.iconst 3, 1) := by decide +kernel
theorem dX12_init_846 : decode cX12_init 846 = .ok (.iastore, 1) := by decide +kernel
theorem dX12_init_847 : decode cX12_init 847 = .ok (.dup, 1) := by decide +kernel
theorem dX12_init_848 : decode cX12_init 848 = .ok (.bipush 101, 2) := by decide +kernel
theorem dX12_init_850 : decode cX12_init 850 = .ok (.iconst 5, 1) := by decide +kernel
theorem dX12_init_851 : decode cX12_init 851 = .ok (.iastore, 1) := by decide +kernel
theorem dX12_init_852 : decode cX12_init 852 = .ok (.dup, 1) := by decide +kernel
theorem dX12_init_853 : decode cX12_init 853 = .ok (.bipush 102, 2) := by decide +kernel
theorem dX12_init_855 : decode cX12_init 855 = .ok (.bipush 19, 2) := by decide +kernel
theorem dX12_init_857 : decode cX12_init 857 = .ok (.iastore, 1) := by decide +kernel
theorem dX12_init_858 : decode cX12_init 858 = .ok (.dup, 1) := by decide +kernel
theorem dX12_init_859 : decode cX12_init 859 = .ok (.bipush 103, 2) := by decide +kernel
theorem dX12_init_861 : decode cX12_init 861 = .ok (.bipush 19, 2) := by decide +kernel
theorem dX12_init_863 : decode cX12_init 863 = .ok (.iastore, 1) := by decide +kernel
theorem dX12_init_864 : decode cX12_init 864 = .ok (.dup, 1) := by decide +kernel
theorem dX12_init_865 : decode cX12_init 865 = .ok (.bipush 104, 2) := by decide +kernel
theorem dX12_init_867 : decode cX12_init 867 = .ok (.iconst 0, 1) := by decide +kernel
theorem dX12_init_868 : decode cX12_init 868 = .ok (.iastore, 1) := by decide +kernel
theorem dX12_init_869 : decode cX12_init 869 = .ok (.putfield 156, 3) := by decide +kernel
theorem dX12_init_872 : decode cX12_init 872 = .ok (.aload_n 0, 1) := by decide +kernel
theorem dX12_init_873 : decode cX12_init 873 = .ok (.sipush 1516, 3) := by decide +kernel
theorem dX12_init_876 : decode cX12_init 876 = .ok (.newarray .int, 2) := by decide +kernel
theorem dX12_init_878 : decode cX12_init 878 = .ok (.putfield 159, 3) := by decide +kernel
theorem dX12_init_881 : decode cX12_init 881 = .ok (.aload_n 0, 1) := by decide +kernel
theorem dX12_init_882 : decode cX12_init 882 = .ok (.bipush 40, 2) := by decide +kernel
theorem dX12_init_884 : decode cX12_init 884 = .ok (.newarray .float, 2) := by decide +kernel
theorem dX12_init_886 : decode cX12_init 886 = .ok (.putfield 162, 3) := by decide +kernel
theorem dX12_init_889 : decode cX12_init 889 = .ok (.aload_n 0, 1) := by decide +kernel
theorem dX12_init_890 : decode cX12_init 890 = .ok (.sipush 15160, 3) := by decide +kernel
theorem dX12_init_893 : decode cX12_init 893 = .ok (.newarray .int, 2) := by decide +kernel
theorem dX12_init_895 : decode cX12_init 895 = .ok (.putfield 166, 3) := by decide +kernel
theorem dX12_init_898 : decode cX12_init 898 = .ok (.aload_n 0, 1) := by decide +kernel
theorem dX12_init_899 : decode cX12_init 899 = .ok (.sipush 400, 3) := by decide +kernel
theorem dX12_init_902 : decode cX12_init 902 = .ok (.newarray .float, 2) := by decide +kernel
theorem dX12_init_904 : decode cX12_init 904 = .ok (.putfield 169, 3) := by decide +kernel
theorem dX12_init_907 : decode cX12_init 907 = .ok (.aload_n 0, 1) := by decide +kernel
theorem dX12_init_908 : decode cX12_init 908 = .ok (.iconst 0, 1) := by decide +kernel
theorem dX12_init_909 : decode cX12_init 909 = .ok (.putfield 172, 3) := by decide +kernel
theorem dX12_init_912 : decode cX12_init 912 = .ok (.aload_n 0, 1) := by decide +kernel
theorem dX12_init_913 : decode cX12_init 913 = .ok (.iconst 0, 1) := by decide +kernel
theorem dX12_init_914 : decode cX12_init 914 = .ok (.putfield 175, 3) := by decide +kernel
theorem dX12_init_917 : decode cX12_init 917 = .ok (.aload_n 0, 1) := by decide +kernel
theorem dX12_init_918 : decode cX12_init 918 = .ok (.iconst 0, 1) := by decide +kernel
theorem dX12_init_919 : decode cX12_init 919 = .ok (.putfield 178, 3) := by decide +kernel
theorem dX12_init_922 : decode cX12_init 922 = .ok (.aload_n 0, 1) := by decide +kernel
theorem dX12_init_923 : decode cX12_init 923 = .ok (.iconst 0, 1) := by decide +kernel
theorem dX12_init_924 : decode cX12_init 924 = .ok (.putfield 181, 3) := by decide +kernel
theorem dX12_init_927 : decode cX12_init 927 = .ok (.aload_n 0, 1) := by decide +kernel
theorem dX12_init_928 : decode cX12_init 928 = .ok (.iconst 0, 1) := by decide +kernel
theorem dX12_init_929 : decode cX12_init 929 = .ok (.putfield 184, 3) := by decide +kernel
theorem dX12_init_932 : decode cX12_init 932 = .ok (.aload_n 0, 1) := by decide +kernel
theorem dX12_init_933 : decode cX12_init 933 = .ok (.iconst 0, 1) := by decide +kernel
theorem dX12_init_934 : decode cX12_init 934 = .ok (.putfield 187, 3) := by decide +kernel
theorem dX12_init_937 : decode cX12_init 937 = .ok (.aload_n 0, 1) := by decide +kernel
theorem dX12_init_938 : decode cX12_init 938 = .ok (.sipush 1604, 3) := by decide +kernel
theorem dX12_init_941 : decode cX12_init 941 = .ok (.newarray .int, 2) := by decide +kernel
theorem dX12_init_943 : decode cX12_init 943 = .ok (.putfield 190, 3) := by decide +kernel
theorem dX12_init_946 : decode cX12_init 946 = .ok (.aload_n 0, 1) := by decide +kernel
theorem dX12_init_947 : decode cX12_init 947 = .ok (.sipush 1604, 3) := by decide +kernel
theorem dX12_init_950 : decode cX12_init 950 = .ok (.newarray .int, 2) := by decide +kernel
theorem dX12_init_952 : decode cX12_init 952 = .ok (.putfield 193, 3) := by decide +kernel
theorem dX12_init_955 : decode cX12_init 955 = .ok (.aload_n 0, 1) := by decide +kernel
theorem dX12_init_956 : decode cX12_init 956 = .ok (.iconst 0, 1) := by decide +kernel
theorem dX12_init_957 : decode cX12_init 957 = .ok (.putfield 196, 3) := by decide +kernel
theorem dX12_init_960 : decode cX12_init 960 = .ok (.aload_n 0, 1) := by decide +kernel
theorem dX12_init_961 : decode cX12_init 961 = .ok (.bipush 16, 2) := by decide +kernel
theorem dX12_init_963 : decode cX12_init 963 = .ok (.newarray .int, 2) := by decide +kernel
theorem dX12_init_965 : decode cX12_init 965 = .ok (.putfield 199, 3) := by decide +kernel
theorem dX12_init_968 : decode cX12_init 968 = .ok (.aload_n 0, 1) := by decide +kernel
theorem dX12_init_969 : decode cX12_init 969 = .ok (.bipush 16, 2) := by decide +kernel
theorem dX12_init_971 : decode cX12_init 971 = .ok (.newarray .int, 2) := by decide +kernel
theorem dX12_init_973 : decode cX12_init 973 = .ok (.putfield 202, 3) := by decide +kernel
theorem dX12_init_976 : decode cX12_init 976 = .ok (.aload_n 0, 1) := by decide +kernel
theorem dX12_init_977 : decode cX12_init 977 = .ok (.sipush 1281, 3) := by decide +kernel
theorem dX12_init_980 : decode cX12_init 980 = .ok (.newarray .int, 2) := by decide +kernel
theorem dX12_init_982 : decode cX12_init 982 = .ok (.putfield 205, 3) := by decide +kernel
theorem dX12_init_985 : decode cX12_init 985 = .ok (.aload_n 0, 1) := by decide +kernel
theorem dX12_init_986 : decode cX12_init 986 = .ok (.bipush 21, 2) := by decide +kernel
theorem dX12_init_988 : decode cX12_init 988 = .ok (.newarray .int, 2) := by decide +kernel
theorem dX12_init_990 : decode cX12_init 990 = .ok (.putfield 208, 3) := by decide +kernel
theorem dX12_init_993 : decode cX12_init 993 = .ok (.aload_n 0, 1) := by decide +kernel
theorem dX12_init_994 : decode cX12_init 994 = .ok (.iconst 1, 1) := by decide +kernel
theorem dX12_init_995 : decode cX12_init 995 = .ok (.putfield 211, 3) := by decide +kernel
theorem dX12_init_998 : decode cX12_init 998 = .ok (.aload_n 0, 1) := by decide +kernel
theorem dX12_init_999 : decode cX12_init 999 = .ok (.bipush 15, 2) := by decide +kernel
theorem dX12_init_1001 : decode cX12_init 1001 = .ok (.newarray .int, 2) := by decide +kernel
theorem dX12_init_1003 : decode cX12_init 1003 = .ok (.putfield 214, 3) := by decide +kernel
theorem dX12_init_1006 : decode cX12_init 1006 = .ok (.aload_n 0, 1) := by decide +kernel
theorem dX12_init_1007 : decode cX12_init 1007 = .ok (.iconst 0, 1) := by decide +kernel
theorem dX12_init_1008 : decode cX12_init 1008 = .ok (.putfield 217, 3) := by decide +kernel
theorem dX12_init_1011 : decode cX12_init 1011 = .ok (.return_, 1) := by decide +kernel
theorem dX12_isIn_0 : decode cX12_isIn 0 = .ok (.iload_n 0, 1) := by decide +kernel
theorem dX12_isIn_1 : decode cX12_isIn 1 = .ok (.iload_n 1, 1) := by decide +kernel
theorem dX12_isIn_2 : decode cX12_isIn 2 = .ok (.if_icmp .lt 12, 3) := by decide +kernel
theorem dX12_isIn_5 : decode cX12_isIn 5 = .ok (.iload_n 0, 1) := by decide +kernel
theorem dX12_isIn_6 : decode cX12_isIn 6 = .ok (.iload_n 2, 1) := by decide +kernel
theorem dX12_isIn_7 : decode cX12_isIn 7 = .ok (.if_icmp .gt 7, 3) := by decide +kernel
theorem dX12_isIn_10 : decode cX12_isIn 10 = .ok (.iconst 1, 1) := by decide +kernel
theorem dX12_isIn_11 : decode cX12_isIn 11 = .ok (.goto 4, 3) := by decide +kernel
theorem dX12_isIn_14 : decode cX12_isIn 14 = .ok (.iconst 0, 1) := by decide +kernel
theorem dX12_isIn_15 : decode cX12_isIn 15 = .ok (.ireturn, 1) := by decide +kernel
theorem dX12_lesser_0 : decode cX12_lesser 0 = .ok (.iload_n 0, 1) := by decide +kernel
theorem dX12_lesser_1 : decode cX12_lesser 1 = .ok (.iload_n 1, 1) := by decide +kernel
theorem dX12_lesser_2 : decode cX12_lesser 2 = .ok (.if_icmp .ge 7, 3) := by decide +kernel
theorem dX12_lesser_5 : decode cX12_lesser 5 = .ok (.iload_n 0, 1) := by decide +kernel
theorem dX12_lesser_6 : decode cX12_lesser 6 = .ok (.goto 4, 3) := by decide +kernel
theorem dX12_lesser_9 : decode cX12_lesser 9 = .ok (.iload_n 1, 1) := by decide +kernel
theorem dX12_lesser_10 : decode cX12_lesser 10 = .ok (.ireturn, 1) := by decide +kernel
theorem dX12_greatest_0 : decode cX12_greatest 0 = .ok (.iload_n 0, 1) := by decide +kernel
theorem dX12_greatest_1 : decode cX12_greatest 1 = .ok (.iload_n 1, 1) := by decide +kernel
theorem dX12_greatest_2 : decode cX12_greatest 2 = .ok (.if_icmp .le 7, 3) := by decide +kernel
theorem dX12_greatest_5 : decode cX12_greatest 5 = .ok (.iload_n 0, 1) := by decide +kernel
theorem dX12_greatest_6 : decode cX12_greatest 6 = .ok (.goto 4, 3) := by decide +kernel
theorem dX12_greatest_9 : decode cX12_greatest 9 = .ok (.iload_n 1, 1) := by decide +kernel
theorem dX12_greatest_10 : decode cX12_greatest 10 = .ok (.ireturn, 1) := by decide +kernel
theorem dX12_away_0 : decode cX12_away 0 = .ok (.iload_n 0, 1) := by decide +kernel
theorem dX12_away_1 : decode cX12_away 1 = .ok (.iload_n 1, 1) := by decide +kernel
theorem dX12_away_2 : decode cX12_away 2 = .ok (.if_icmp .ge 9, 3) := by decide +kernel
theorem dX12_away_5 : decode cX12_away 5 = .ok (.iload_n 1, 1) := by decide +kernel
theorem dX12_away_6 : decode cX12_away 6 = .ok (.iload_n 0, 1) := by decide +kernel
theorem dX12_away_7 : decode cX12_away 7 = .ok (.isub, 1) := by decide +kernel
theorem dX12_away_8 : decode cX12_away 8 = .ok (.goto 6, 3) := by decide +kernel
theorem dX12_away_11 : decode cX12_away 11 = .ok (.iload_n 0, 1) := by decide +kernel
theorem dX12_away_12 : decode cX12_away 12 = .ok (.iload_n 1, 1) := by decide +kernel
theorem dX12_away_13 : decode cX12_away 13 = .ok (.isub, 1) := by decide +kernel
theorem dX12_away_14 : decode cX12_away 14 = .ok (.ireturn, 1) := by decide +kernel
theorem dX12_refuses_0 : decode cX12_refuses 0 = .ok (.aload_n 0, 1) := by decide +kernel
theorem dX12_refuses_1 : decode cX12_refuses 1 = .ok (.getfield 132, 3) := by decide +kernel
theorem dX12_refuses_4 : decode cX12_refuses 4 = .ok (.iload_n 1, 1) := by decide +kernel
theorem dX12_refuses_5 : decode cX12_refuses 5 = .ok (.dup2, 1) := by decide +kernel
theorem dX12_refuses_6 : decode cX12_refuses 6 = .ok (.iaload, 1) := by decide +kernel
theorem dX12_refuses_7 : decode cX12_refuses 7 = .ok (.iconst 1, 1) := by decide +kernel
theorem dX12_refuses_8 : decode cX12_refuses 8 = .ok (.iadd, 1) := by decide +kernel
theorem dX12_refuses_9 : decode cX12_refuses 9 = .ok (.iastore, 1) := by decide +kernel
theorem dX12_refuses_10 : decode cX12_refuses 10 = .ok (.iconst (-1), 1) := by decide +kernel
theorem dX12_refuses_11 : decode cX12_refuses 11 = .ok (.ireturn, 1) := by decide +kernel
theorem dX12_isRefused_0 : decode cX12_isRefused 0 = .ok (.aload_n 0, 1) := by decide +kernel
theorem dX12_isRefused_1 : decode cX12_isRefused 1 = .ok (.getfield 132, 3) := by decide +kernel
theorem dX12_isRefused_4 : decode cX12_isRefused 4 = .ok (.iload_n 1, 1) := by decide +kernel
theorem dX12_isRefused_5 : decode cX12_isRefused 5 = .ok (.dup2, 1) := by decide +kernel
theorem dX12_isRefused_6 : decode cX12_isRefused 6 = .ok (.iaload, 1) := by decide +kernel
theorem dX12_isRefused_7 : decode cX12_isRefused 7 = .ok (.iconst 1, 1) := by decide +kernel
theorem dX12_isRefused_8 : decode cX12_isRefused 8 = .ok (.iadd, 1) := by decide +kernel
theorem dX12_isRefused_9 : decode cX12_isRefused 9 = .ok (.iastore, 1) := by decide +kernel
theorem dX12_isRefused_10 : decode cX12_isRefused 10 = .ok (.iconst 0, 1) := by decide +kernel
theorem dX12_isRefused_11 : decode cX12_isRefused 11 = .ok (.ireturn, 1) := by decide +kernel
theorem dX12_lays_0 : decode cX12_lays 0 = .ok (.iconst 0, 1) := by decide +kernel
theorem dX12_lays_1 : decode cX12_lays 1 = .ok (.istore_n 2, 1) := by decide +kernel
theorem dX12_lays_2 : decode cX12_lays 2 = .ok (.iload_n 2, 1) := by decide +kernel
theorem dX12_lays_3 : decode cX12_lays 3 = .ok (.iconst 4, 1) := by decide +kernel
theorem dX12_lays_4 : decode cX12_lays 4 = .ok (.if_icmp .ge 33, 3) := by decide +kernel
theorem dX12_lays_7 : decode cX12_lays 7 = .ok (.aload_n 0, 1) := by decide +kernel
theorem dX12_lays_8 : decode cX12_lays 8 = .ok (.getfield 126, 3) := by decide +kernel
theorem dX12_lays_11 : decode cX12_lays 11 = .ok (.aload_n 0, 1) := by decide +kernel
theorem dX12_lays_12 : decode cX12_lays 12 = .ok (.getfield 129, 3) := by decide +kernel
theorem dX12_lays_15 : decode cX12_lays 15 = .ok (.iload_n 2, 1) := by decide +kernel
theorem dX12_lays_16 : decode cX12_lays 16 = .ok (.iadd, 1) := by decide +kernel
theorem dX12_lays_17 : decode cX12_lays 17 = .ok (.iload_n 1, 1) := by decide +kernel
theorem dX12_lays_18 : decode cX12_lays 18 = .ok (.bipush 24, 2) := by decide +kernel
theorem dX12_lays_20 : decode cX12_lays 20 = .ok (.bipush 8, 2) := by decide +kernel
theorem dX12_lays_22 : decode cX12_lays 22 = .ok (.iload_n 2, 1) := by decide +kernel
theorem dX12_lays_23 : decode cX12_lays 23 = .ok (.imul, 1) := by decide +kernel
theorem dX12_lays_24 : decode cX12_lays 24 = .ok (.isub, 1) := by decide +kernel
theorem dX12_lays_25 : decode cX12_lays 25 = .ok (.ishr, 1) := by decide +kernel
theorem dX12_lays_26 : decode cX12_lays 26 = .ok (.sipush 255, 3) := by decide +kernel
theorem dX12_lays_29 : decode cX12_lays 29 = .ok (.iand, 1) := by decide +kernel
theorem dX12_lays_30 : decode cX12_lays 30 = .ok (.iastore, 1) := by decide +kernel
theorem dX12_lays_31 : decode cX12_lays 31 = .ok (.iinc 2 1, 3) := by decide +kernel
theorem dX12_lays_34 : decode cX12_lays 34 = .ok (.goto (-32), 3) := by decide +kernel
theorem dX12_lays_37 : decode cX12_lays 37 = .ok (.aload_n 0, 1) := by decide +kernel
theorem dX12_lays_38 : decode cX12_lays 38 = .ok (.dup, 1) := by decide +kernel
theorem dX12_lays_39 : decode cX12_lays 39 = .ok (.getfield 129, 3) := by decide +kernel
theorem dX12_lays_42 : decode cX12_lays 42 = .ok (.iconst 4, 1) := by decide +kernel
theorem dX12_lays_43 : decode cX12_lays 43 = .ok (.iadd, 1) := by decide +kernel
theorem dX12_lays_44 : decode cX12_lays 44 = .ok (.putfield 129, 3) := by decide +kernel
theorem dX12_lays_47 : decode cX12_lays 47 = .ok (.return_, 1) := by decide +kernel
theorem dX12_feed_0 : decode cX12_feed 0 = .ok (.aload_n 0, 1) := by decide +kernel
theorem dX12_feed_1 : decode cX12_feed 1 = .ok (.getfield 129, 3) := by decide +kernel
theorem dX12_feed_4 : decode cX12_feed 4 = .ok (.bipush 20, 2) := by decide +kernel
theorem dX12_feed_6 : decode cX12_feed 6 = .ok (.iadd, 1) := by decide +kernel
theorem dX12_feed_7 : decode cX12_feed 7 = .ok (.sipush 1600, 3) := by decide +kernel
theorem dX12_feed_10 : decode cX12_feed 10 = .ok (.if_icmp .le 9, 3) := by decide +kernel
theorem dX12_feed_13 : decode cX12_feed 13 = .ok (.aload_n 0, 1) := by decide +kernel
theorem dX12_feed_14 : decode cX12_feed 14 = .ok (.iconst 0, 1) := by decide +kernel
theorem dX12_feed_15 : decode cX12_feed 15 = .ok (.invokevirtual 220, 3) := by decide +kernel
theorem dX12_feed_18 : decode cX12_feed 18 = .ok (.ireturn, 1) := by decide +kernel
theorem dX12_feed_19 : decode cX12_feed 19 = .ok (.aload_n 0, 1) := by decide +kernel
theorem dX12_feed_20 : decode cX12_feed 20 = .ok (.iload_n 1, 1) := by decide +kernel
theorem dX12_feed_21 : decode cX12_feed 21 = .ok (.invokevirtual 224, 3) := by decide +kernel
theorem dX12_feed_24 : decode cX12_feed 24 = .ok (.aload_n 0, 1) := by decide +kernel
theorem dX12_feed_25 : decode cX12_feed 25 = .ok (.iload_n 2, 1) := by decide +kernel
theorem dX12_feed_26 : decode cX12_feed 26 = .ok (.invokevirtual 224, 3) := by decide +kernel
theorem dX12_feed_29 : decode cX12_feed 29 = .ok (.aload_n 0, 1) := by decide +kernel
theorem dX12_feed_30 : decode cX12_feed 30 = .ok (.iload_n 3, 1) := by decide +kernel
theorem dX12_feed_31 : decode cX12_feed 31 = .ok (.invokevirtual 224, 3) := by decide +kernel
theorem dX12_feed_34 : decode cX12_feed 34 = .ok (.aload_n 0, 1) := by decide +kernel
theorem dX12_feed_35 : decode cX12_feed 35 = .ok (.iload 4, 2) := by decide +kernel
theorem dX12_feed_37 : decode cX12_feed 37 = .ok (.invokevirtual 224, 3) := by decide +kernel
theorem dX12_feed_40 : decode cX12_feed 40 = .ok (.aload_n 0, 1) := by decide +kernel
theorem dX12_feed_41 : decode cX12_feed 41 = .ok (.iload 5, 2) := by decide +kernel
theorem dX12_feed_43 : decode cX12_feed 43 = .ok (.invokevirtual 224, 3) := by decide +kernel
theorem dX12_feed_46 : decode cX12_feed 46 = .ok (.aload_n 0, 1) := by decide +kernel
theorem dX12_feed_47 : decode cX12_feed 47 = .ok (.getfield 129, 3) := by decide +kernel
theorem dX12_feed_50 : decode cX12_feed 50 = .ok (.ireturn, 1) := by decide +kernel
theorem dX12_end_0 : decode cX12_end 0 = .ok (.iload_n 1, 1) := by decide +kernel
theorem dX12_end_1 : decode cX12_end 1 = .ok (.ifCond .lt 11, 3) := by decide +kernel
theorem dX12_end_4 : decode cX12_end 4 = .ok (.iload_n 1, 1) := by decide +kernel
theorem dX12_end_5 : decode cX12_end 5 = .ok (.aload_n 0, 1) := by decide +kernel
theorem dX12_end_6 : decode cX12_end 6 = .ok (.getfield 129, 3) := by decide +kernel
theorem dX12_end_9 : decode cX12_end 9 = .ok (.if_icmp .le 9, 3) := by decide +kernel
theorem dX12_end_12 : decode cX12_end 12 = .ok (.aload_n 0, 1) := by decide +kernel
theorem dX12_end_13 : decode cX12_end 13 = .ok (.iconst 0, 1) := by decide +kernel
theorem dX12_end_14 : decode cX12_end 14 = .ok (.invokevirtual 228, 3) := by decide +kernel
theorem dX12_end_17 : decode cX12_end 17 = .ok (.ireturn, 1) := by decide +kernel
theorem dX12_end_18 : decode cX12_end 18 = .ok (.aload_n 0, 1) := by decide +kernel
theorem dX12_end_19 : decode cX12_end 19 = .ok (.iload_n 1, 1) := by decide +kernel
theorem dX12_end_20 : decode cX12_end 20 = .ok (.putfield 129, 3) := by decide +kernel
theorem dX12_end_23 : decode cX12_end 23 = .ok (.iconst 1, 1) := by decide +kernel
theorem dX12_end_24 : decode cX12_end 24 = .ok (.ireturn, 1) := by decide +kernel
theorem dX12_taken_0 : decode cX12_taken 0 = .ok (.aload_n 0, 1) := by decide +kernel
theorem dX12_taken_1 : decode cX12_taken 1 = .ok (.getfield 129, 3) := by decide +kernel
theorem dX12_taken_4 : decode cX12_taken 4 = .ok (.istore_n 1, 1) := by decide +kernel
theorem dX12_taken_5 : decode cX12_taken 5 = .ok (.aload_n 0, 1) := by decide +kernel
theorem dX12_taken_6 : decode cX12_taken 6 = .ok (.iconst 0, 1) := by decide +kernel
theorem dX12_taken_7 : decode cX12_taken 7 = .ok (.putfield 129, 3) := by decide +kernel
theorem dX12_taken_10 : decode cX12_taken 10 = .ok (.iload_n 1, 1) := by decide +kernel
theorem dX12_taken_11 : decode cX12_taken 11 = .ok (.ireturn, 1) := by decide +kernel
theorem dX12_seen_0 : decode cX12_seen 0 = .ok (.iload_n 1, 1) := by decide +kernel
theorem dX12_seen_1 : decode cX12_seen 1 = .ok (.ifCond .lt 20, 3) := by decide +kernel
theorem dX12_seen_4 : decode cX12_seen 4 = .ok (.iload_n 1, 1) := by decide +kernel
theorem dX12_seen_5 : decode cX12_seen 5 = .ok (.aload_n 0, 1) := by decide +kernel
theorem dX12_seen_6 : decode cX12_seen 6 = .ok (.getfield 141, 3) := by decide +kernel
theorem dX12_seen_9 : decode cX12_seen 9 = .ok (.if_icmp .ge 12, 3) := by decide +kernel
theorem dX12_seen_12 : decode cX12_seen 12 = .ok (.aload_n 0, 1) := by decide +kernel
theorem dX12_seen_13 : decode cX12_seen 13 = .ok (.getfield 126, 3) := by decide +kernel
theorem dX12_seen_16 : decode cX12_seen 16 = .ok (.iload_n 1, 1) := by decide +kernel
theorem dX12_seen_17 : decode cX12_seen 17 = .ok (.iaload, 1) := by decide +kernel
theorem dX12_seen_18 : decode cX12_seen 18 = .ok (.goto 4, 3) := by decide +kernel
theorem dX12_seen_21 : decode cX12_seen 21 = .ok (.iconst (-1), 1) := by decide +kernel
theorem dX12_seen_22 : decode cX12_seen 22 = .ok (.ireturn, 1) := by decide +kernel
theorem dX12_isSmall_0 : decode cX12_isSmall 0 = .ok (.aload_n 0, 1) := by decide +kernel
theorem dX12_isSmall_1 : decode cX12_isSmall 1 = .ok (.iload_n 1, 1) := by decide +kernel
theorem dX12_isSmall_2 : decode cX12_isSmall 2 = .ok (.invokevirtual 232, 3) := by decide +kernel
theorem dX12_isSmall_5 : decode cX12_isSmall 5 = .ok (.bipush 97, 2) := by decide +kernel
theorem dX12_isSmall_7 : decode cX12_isSmall 7 = .ok (.if_icmp .lt 17, 3) := by decide +kernel
theorem dX12_isSmall_10 : decode cX12_isSmall 10 = .ok (.aload_n 0, 1) := by decide +kernel
theorem dX12_isSmall_11 : decode cX12_isSmall 11 = .ok (.iload_n 1, 1) := by decide +kernel
theorem dX12_isSmall_12 : decode cX12_isSmall 12 = .ok (.invokevirtual 232, 3) := by decide +kernel
theorem dX12_isSmall_15 : decode cX12_isSmall 15 = .ok (.bipush 122, 2) := by decide +kernel
theorem dX12_isSmall_17 : decode cX12_isSmall 17 = .ok (.if_icmp .gt 7, 3) := by decide +kernel
theorem dX12_isSmall_20 : decode cX12_isSmall 20 = .ok (.iconst 1, 1) := by decide +kernel
theorem dX12_isSmall_21 : decode cX12_isSmall 21 = .ok (.goto 4, 3) := by decide +kernel
theorem dX12_isSmall_24 : decode cX12_isSmall 24 = .ok (.iconst 0, 1) := by decide +kernel
theorem dX12_isSmall_25 : decode cX12_isSmall 25 = .ok (.ireturn, 1) := by decide +kernel
theorem dX12_isDigit_0 : decode cX12_isDigit 0 = .ok (.aload_n 0, 1) := by decide +kernel
theorem dX12_isDigit_1 : decode cX12_isDigit 1 = .ok (.iload_n 1, 1) := by decide +kernel
theorem dX12_isDigit_2 : decode cX12_isDigit 2 = .ok (.invokevirtual 232, 3) := by decide +kernel
theorem dX12_isDigit_5 : decode cX12_isDigit 5 = .ok (.bipush 48, 2) := by decide +kernel
theorem dX12_isDigit_7 : decode cX12_isDigit 7 = .ok (.if_icmp .lt 17, 3) := by decide +kernel
theorem dX12_isDigit_10 : decode cX12_isDigit 10 = .ok (.aload_n 0, 1) := by decide +kernel
theorem dX12_isDigit_11 : decode cX12_isDigit 11 = .ok (.iload_n 1, 1) := by decide +kernel
theorem dX12_isDigit_12 : decode cX12_isDigit 12 = .ok (.invokevirtual 232, 3) := by decide +kernel
theorem dX12_isDigit_15 : decode cX12_isDigit 15 = .ok (.bipush 57, 2) := by decide +kernel
theorem dX12_isDigit_17 : decode cX12_isDigit 17 = .ok (.if_icmp .gt 7, 3) := by decide +kernel
theorem dX12_isDigit_20 : decode cX12_isDigit 20 = .ok (.iconst 1, 1) := by decide +kernel
theorem dX12_isDigit_21 : decode cX12_isDigit 21 = .ok (.goto 4, 3) := by decide +kernel
theorem dX12_isDigit_24 : decode cX12_isDigit 24 = .ok (.iconst 0, 1) := by decide +kernel
theorem dX12_isDigit_25 : decode cX12_isDigit 25 = .ok (.ireturn, 1) := by decide +kernel
theorem dX12_here_0 : decode cX12_here 0 = .ok (.aload_n 0, 1) := by decide +kernel
theorem dX12_here_1 : decode cX12_here 1 = .ok (.aload_n 0, 1) := by decide +kernel
theorem dX12_here_2 : decode cX12_here 2 = .ok (.getfield 144, 3) := by decide +kernel
theorem dX12_here_5 : decode cX12_here 5 = .ok (.invokevirtual 232, 3) := by decide +kernel
theorem dX12_here_8 : decode cX12_here 8 = .ok (.bipush 10, 2) := by decide +kernel
theorem dX12_here_10 : decode cX12_here 10 = .ok (.if_icmp .eq 16, 3) := by decide +kernel
theorem dX12_here_13 : decode cX12_here 13 = .ok (.aload_n 0, 1) := by decide +kernel
theorem dX12_here_14 : decode cX12_here 14 = .ok (.aload_n 0, 1) := by decide +kernel
theorem dX12_here_15 : decode cX12_here 15 = .ok (.getfield 144, 3) := by decide +kernel
theorem dX12_here_18 : decode cX12_here 18 = .ok (.invokevirtual 232, 3) := by decide +kernel
theorem dX12_here_21 : decode cX12_here 21 = .ok (.bipush 32, 2) := by decide +kernel
theorem dX12_here_23 : decode cX12_here 23 = .ok (.if_icmp .ne 16, 3) := by decide +kernel
theorem dX12_here_26 : decode cX12_here 26 = .ok (.aload_n 0, 1) := by decide +kernel
theorem dX12_here_27 : decode cX12_here 27 = .ok (.dup, 1) := by decide +kernel
theorem dX12_here_28 : decode cX12_here 28 = .ok (.getfield 144, 3) := by decide +kernel
theorem dX12_here_31 : decode cX12_here 31 = .ok (.iconst 1, 1) := by decide +kernel
theorem dX12_here_32 : decode cX12_here 32 = .ok (.iadd, 1) := by decide +kernel
theorem dX12_here_33 : decode cX12_here 33 = .ok (.putfield 144, 3) := by decide +kernel
theorem dX12_here_36 : decode cX12_here 36 = .ok (.goto (-36), 3) := by decide +kernel
theorem dX12_here_39 : decode cX12_here 39 = .ok (.aload_n 0, 1) := by decide +kernel
theorem dX12_here_40 : decode cX12_here 40 = .ok (.aload_n 0, 1) := by decide +kernel
theorem dX12_here_41 : decode cX12_here 41 = .ok (.getfield 144, 3) := by decide +kernel
theorem dX12_here_44 : decode cX12_here 44 = .ok (.invokevirtual 232, 3) := by decide +kernel
theorem dX12_here_47 : decode cX12_here 47 = .ok (.ireturn, 1) := by decide +kernel
theorem dX12_fails_0 : decode cX12_fails 0 = .ok (.aload_n 0, 1) := by decide +kernel
theorem dX12_fails_1 : decode cX12_fails 1 = .ok (.getfield 150, 3) := by decide +kernel
theorem dX12_fails_4 : decode cX12_fails 4 = .ok (.ifCond .eq 4, 3) := by decide +kernel
theorem dX12_fails_7 : decode cX12_fails 7 = .ok (.return_, 1) := by decide +kernel
theorem dX12_fails_8 : decode cX12_fails 8 = .ok (.aload_n 0, 1) := by decide +kernel
theorem dX12_fails_9 : decode cX12_fails 9 = .ok (.iload_n 1, 1) := by decide +kernel
theorem dX12_fails_10 : decode cX12_fails 10 = .ok (.putfield 150, 3) := by decide +kernel
theorem dX12_fails_13 : decode cX12_fails 13 = .ok (.aload_n 0, 1) := by decide +kernel
theorem dX12_fails_14 : decode cX12_fails 14 = .ok (.iload_n 2, 1) := by decide +kernel
theorem dX12_fails_15 : decode cX12_fails 15 = .ok (.putfield 153, 3) := by decide +kernel
theorem dX12_fails_18 : decode cX12_fails 18 = .ok (.return_, 1) := by decide +kernel
theorem dX12_goes_0 : decode cX12_goes 0 = .ok (.aload_n 0, 1) := by decide +kernel
theorem dX12_goes_1 : decode cX12_goes 1 = .ok (.getfield 150, 3) := by decide +kernel
theorem dX12_goes_4 : decode cX12_goes 4 = .ok (.ifCond .ne 7, 3) := by decide +kernel
theorem dX12_goes_7 : decode cX12_goes 7 = .ok (.iconst 1, 1) := by decide +kernel
theorem dX12_goes_8 : decode cX12_goes 8 = .ok (.goto 4, 3) := by decide +kernel
theorem dX12_goes_11 : decode cX12_goes 11 = .ok (.iconst 0, 1) := by decide +kernel
theorem dX12_goes_12 : decode cX12_goes 12 = .ok (.ireturn, 1) := by decide +kernel
theorem dX12_word_0 : decode cX12_word 0 = .ok (.aload_n 0, 1) := by decide +kernel
theorem dX12_word_1 : decode cX12_word 1 = .ok (.invokevirtual 235, 3) := by decide +kernel
theorem dX12_word_4 : decode cX12_word 4 = .ok (.ifCond .ne 4, 3) := by decide +kernel
theorem dX12_word_7 : decode cX12_word 7 = .ok (.return_, 1) := by decide +kernel
theorem dX12_word_8 : decode cX12_word 8 = .ok (.aload_n 0, 1) := by decide +kernel
theorem dX12_word_9 : decode cX12_word 9 = .ok (.invokevirtual 239, 3) := by decide +kernel
theorem dX12_word_12 : decode cX12_word 12 = .ok (.pop, 1) := by decide +kernel
theorem dX12_word_13 : decode cX12_word 13 = .ok (.aload_n 0, 1) := by decide +kernel
theorem dX12_word_14 : decode cX12_word 14 = .ok (.aload_n 0, 1) := by decide +kernel
theorem dX12_word_15 : decode cX12_word 15 = .ok (.getfield 144, 3) := by decide +kernel
theorem dX12_word_18 : decode cX12_word 18 = .ok (.putfield 147, 3) := by decide +kernel
theorem dX12_word_21 : decode cX12_word 21 = .ok (.aload_n 0, 1) := by decide +kernel
theorem dX12_word_22 : decode cX12_word 22 = .ok (.aload_n 0, 1) := by decide +kernel
theorem dX12_word_23 : decode cX12_word 23 = .ok (.getfield 144, 3) := by decide +kernel
theorem dX12_word_26 : decode cX12_word 26 = .ok (.invokevirtual 243, 3) := by decide +kernel
theorem dX12_word_29 : decode cX12_word 29 = .ok (.ifCond .eq 29, 3) := by decide +kernel
theorem dX12_word_32 : decode cX12_word 32 = .ok (.aload_n 0, 1) := by decide +kernel
theorem dX12_word_33 : decode cX12_word 33 = .ok (.aload_n 0, 1) := by decide +kernel
theorem dX12_word_34 : decode cX12_word 34 = .ok (.getfield 144, 3) := by decide +kernel
theorem dX12_word_37 : decode cX12_word 37 = .ok (.iconst 1, 1) := by decide +kernel
theorem dX12_word_38 : decode cX12_word 38 = .ok (.isub, 1) := by decide +kernel
theorem dX12_word_39 : decode cX12_word 39 = .ok (.invokevirtual 243, 3) := by decide +kernel
theorem dX12_word_42 : decode cX12_word 42 = .ok (.ifCond .ne 16, 3) := by decide +kernel
theorem dX12_word_45 : decode cX12_word 45 = .ok (.aload_n 0, 1) := by decide +kernel
theorem dX12_word_46 : decode cX12_word 46 = .ok (.aload_n 0, 1) := by decide +kernel
theorem dX12_word_47 : decode cX12_word 47 = .ok (.getfield 144, 3) := by decide +kernel
theorem dX12_word_50 : decode cX12_word 50 = .ok (.iconst 1, 1) := by decide +kernel
theorem dX12_word_51 : decode cX12_word 51 = .ok (.isub, 1) := by decide +kernel
theorem dX12_word_52 : decode cX12_word 52 = .ok (.invokevirtual 246, 3) := by decide +kernel
theorem dX12_word_55 : decode cX12_word 55 = .ok (.ifCond .eq 13, 3) := by decide +kernel
theorem dX12_word_58 : decode cX12_word 58 = .ok (.aload_n 0, 1) := by decide +kernel
theorem dX12_word_59 : decode cX12_word 59 = .ok (.iconst 1, 1) := by decide +kernel
theorem dX12_word_60 : decode cX12_word 60 = .ok (.aload_n 0, 1) := by decide +kernel
theorem dX12_word_61 : decode cX12_word 61 = .ok (.getfield 144, 3) := by decide +kernel
theorem dX12_word_64 : decode cX12_word 64 = .ok (.invokevirtual 249, 3) := by decide +kernel
theorem dX12_word_67 : decode cX12_word 67 = .ok (.return_, 1) := by decide +kernel
theorem dX12_word_68 : decode cX12_word 68 = .ok (.aload_n 0, 1) := by decide +kernel
theorem dX12_word_69 : decode cX12_word 69 = .ok (.aload_n 0, 1) := by decide +kernel
theorem dX12_word_70 : decode cX12_word 70 = .ok (.getfield 144, 3) := by decide +kernel
theorem dX12_word_73 : decode cX12_word 73 = .ok (.invokevirtual 243, 3) := by decide +kernel
theorem dX12_word_76 : decode cX12_word 76 = .ok (.ifCond .eq 16, 3) := by decide +kernel
theorem dX12_word_79 : decode cX12_word 79 = .ok (.aload_n 0, 1) := by decide +kernel
theorem dX12_word_80 : decode cX12_word 80 = .ok (.dup, 1) := by decide +kernel
theorem dX12_word_81 : decode cX12_word 81 = .ok (.getfield 144, 3) := by decide +kernel
theorem dX12_word_84 : decode cX12_word 84 = .ok (.iconst 1, 1) := by decide +kernel
theorem dX12_word_85 : decode cX12_word 85 = .ok (.iadd, 1) := by decide +kernel
theorem dX12_word_86 : decode cX12_word 86 = .ok (.putfield 144, 3) := by decide +kernel
theorem dX12_word_89 : decode cX12_word 89 = .ok (.goto (-21), 3) := by decide +kernel
theorem dX12_word_92 : decode cX12_word 92 = .ok (.return_, 1) := by decide +kernel
theorem dX12_own_0 : decode cX12_own 0 = .ok (.iconst 0, 1) := by decide +kernel
theorem dX12_own_1 : decode cX12_own 1 = .ok (.istore_n 1, 1) := by decide +kernel
theorem dX12_own_2 : decode cX12_own 2 = .ok (.iconst 0, 1) := by decide +kernel
theorem dX12_own_3 : decode cX12_own 3 = .ok (.istore_n 2, 1) := by decide +kernel
theorem dX12_own_4 : decode cX12_own 4 = .ok (.iload_n 1, 1) := by decide +kernel
theorem dX12_own_5 : decode cX12_own 5 = .ok (.bipush 105, 2) := by decide +kernel
theorem dX12_own_7 : decode cX12_own 7 = .ok (.if_icmp .ge 110, 3) := by decide +kernel
theorem dX12_own_10 : decode cX12_own 10 = .ok (.iconst 0, 1) := by decide +kernel
theorem dX12_own_11 : decode cX12_own 11 = .ok (.istore_n 3, 1) := by decide +kernel
theorem dX12_own_12 : decode cX12_own 12 = .ok (.aload_n 0, 1) := by decide +kernel
theorem dX12_own_13 : decode cX12_own 13 = .ok (.getfield 156, 3) := by decide +kernel
theorem dX12_own_16 : decode cX12_own 16 = .ok (.iload_n 1, 1) := by decide +kernel
theorem dX12_own_17 : decode cX12_own 17 = .ok (.iload_n 3, 1) := by decide +kernel
theorem dX12_own_18 : decode cX12_own 18 = .ok (.iadd, 1) := by decide +kernel
theorem dX12_own_19 : decode cX12_own 19 = .ok (.iaload, 1) := by decide +kernel
theorem dX12_own_20 : decode cX12_own 20 = .ok (.ifCond .eq 47, 3) := by decide +kernel
theorem dX12_own_23 : decode cX12_own 23 = .ok (.aload_n 0, 1) := by decide +kernel
theorem dX12_own_24 : decode cX12_own 24 = .ok (.getfield 147, 3) := by decide +kernel
theorem dX12_own_27 : decode cX12_own 27 = .ok (.iload_n 3, 1) := by decide +kernel
theorem dX12_own_28 : decode cX12_own 28 = .ok (.iadd, 1) := by decide +kernel
theorem dX12_own_29 : decode cX12_own 29 = .ok (.aload_n 0, 1) := by decide +kernel
theorem dX12_own_30 : decode cX12_own 30 = .ok (.getfield 144, 3) := by decide +kernel
theorem dX12_own_33 : decode cX12_own 33 = .ok (.if_icmp .ge 34, 3) := by decide +kernel
theorem dX12_own_36 : decode cX12_own 36 = .ok (.aload_n 0, 1) := by decide +kernel
theorem dX12_own_37 : decode cX12_own 37 = .ok (.getfield 126, 3) := by decide +kernel
theorem dX12_own_40 : decode cX12_own 40 = .ok (.aload_n 0, 1) := by decide +kernel
theorem dX12_own_41 : decode cX12_own 41 = .ok (.getfield 147, 3) := by decide +kernel
theorem dX12_own_44 : decode cX12_own 44 = .ok (.iload_n 3, 1) := by decide +kernel
theorem dX12_own_45 : decode cX12_own 45 = .ok (.iadd, 1) := by decide +kernel
theorem dX12_own_46 : decode cX12_own 46 = .ok (.iaload, 1) := by decide +kernel
theorem dX12_own_47 : decode cX12_own 47 = .ok (.bipush 96, 2) := by decide +kernel
theorem dX12_own_49 : decode cX12_own 49 = .ok (.isub, 1) := by decide +kernel
theorem dX12_own_50 : decode cX12_own 50 = .ok (.aload_n 0, 1) := by decide +kernel
theorem dX12_own_51 : decode cX12_own 51 = .ok (.getfield 156, 3) := by decide +kernel
theorem dX12_own_54 : decode cX12_own 54 = .ok (.iload_n 1, 1) := by decide +kernel
theorem dX12_own_55 : decode cX12_own 55 = .ok (.iload_n 3, 1) := by decide +kernel
theorem dX12_own_56 : decode cX12_own 56 = .ok (.iadd, 1) := by decide +kernel
theorem dX12_own_57 : decode cX12_own 57 = .ok (.iaload, 1) := by decide +kernel
theorem dX12_own_58 : decode cX12_own 58 = .ok (.if_icmp .ne 9, 3) := by decide +kernel
theorem dX12_own_61 : decode cX12_own 61 = .ok (.iinc 3 1, 3) := by decide +kernel
theorem dX12_own_64 : decode cX12_own 64 = .ok (.goto (-52), 3) := by decide +kernel
theorem dX12_own_67 : decode cX12_own 67 = .ok (.aload_n 0, 1) := by decide +kernel
theorem dX12_own_68 : decode cX12_own 68 = .ok (.getfield 156, 3) := by decide +kernel
theorem dX12_own_71 : decode cX12_own 71 = .ok (.iload_n 1, 1) := by decide +kernel
theorem dX12_own_72 : decode cX12_own 72 = .ok (.iload_n 3, 1) := by decide +kernel
theorem dX12_own_73 : decode cX12_own 73 = .ok (.iadd, 1) := by decide +kernel
theorem dX12_own_74 : decode cX12_own 74 = .ok (.iaload, 1) := by decide +kernel
theorem dX12_own_75 : decode cX12_own 75 = .ok (.ifCond .ne 18, 3) := by decide +kernel
theorem dX12_own_78 : decode cX12_own 78 = .ok (.aload_n 0, 1) := by decide +kernel
theorem dX12_own_79 : decode cX12_own 79 = .ok (.getfield 147, 3) := by decide +kernel
theorem dX12_own_82 : decode cX12_own 82 = .ok (.iload_n 3, 1) := by decide +kernel
theorem dX12_own_83 : decode cX12_own 83 = .ok (.iadd, 1) := by decide +kernel
theorem dX12_own_84 : decode cX12_own 84 = .ok (.aload_n 0, 1) := by decide +kernel
theorem dX12_own_85 : decode cX12_own 85 = .ok (.getfield 144, 3) := by decide +kernel
theorem dX12_own_88 : decode cX12_own 88 = .ok (.if_icmp .ne 5, 3) := by decide +kernel
theorem dX12_own_91 : decode cX12_own 91 = .ok (.iload_n 2, 1) := by decide +kernel
theorem dX12_own_92 : decode cX12_own 92 = .ok (.ireturn, 1) := by decide +kernel
theorem dX12_own_93 : decode cX12_own 93 = .ok (.aload_n 0, 1) := by decide +kernel
theorem dX12_own_94 : decode cX12_own 94 = .ok (.getfield 156, 3) := by decide +kernel
theorem dX12_own_97 : decode cX12_own 97 = .ok (.iload_n 1, 1) := by decide +kernel
theorem dX12_own_98 : decode cX12_own 98 = .ok (.iaload, 1) := by decide +kernel
theorem dX12_own_99 : decode cX12_own 99 = .ok (.ifCond .eq 9, 3) := by decide +kernel
theorem dX12_own_102 : decode cX12_own 102 = .ok (.iinc 1 1, 3) := by decide +kernel
theorem dX12_own_105 : decode cX12_own 105 = .ok (.goto (-12), 3) := by decide +kernel
theorem dX12_own_108 : decode cX12_own 108 = .ok (.iinc 1 1, 3) := by decide +kernel
theorem dX12_own_111 : decode cX12_own 111 = .ok (.iinc 2 1, 3) := by decide +kernel
theorem dX12_own_114 : decode cX12_own 114 = .ok (.goto (-110), 3) := by decide +kernel
theorem dX12_own_117 : decode cX12_own 117 = .ok (.iconst (-1), 1) := by decide +kernel
theorem dX12_own_118 : decode cX12_own 118 = .ok (.ireturn, 1) := by decide +kernel
theorem dX12_must_0 : decode cX12_must 0 = .ok (.aload_n 0, 1) := by decide +kernel
theorem dX12_must_1 : decode cX12_must 1 = .ok (.invokevirtual 253, 3) := by decide +kernel
theorem dX12_must_4 : decode cX12_must 4 = .ok (.aload_n 0, 1) := by decide +kernel
theorem dX12_must_5 : decode cX12_must 5 = .ok (.invokevirtual 235, 3) := by decide +kernel
theorem dX12_must_8 : decode cX12_must 8 = .ok (.ifCond .eq 20, 3) := by decide +kernel
theorem dX12_must_11 : decode cX12_must 11 = .ok (.aload_n 0, 1) := by decide +kernel
theorem dX12_must_12 : decode cX12_must 12 = .ok (.invokevirtual 256, 3) := by decide +kernel
theorem dX12_must_15 : decode cX12_must 15 = .ok (.iload_n 1, 1) := by decide +kernel
theorem dX12_must_16 : decode cX12_must 16 = .ok (.if_icmp .eq 12, 3) := by decide +kernel
theorem dX12_must_19 : decode cX12_must 19 = .ok (.aload_n 0, 1) := by decide +kernel
theorem dX12_must_20 : decode cX12_must 20 = .ok (.iconst 1, 1) := by decide +kernel
theorem dX12_must_21 : decode cX12_must 21 = .ok (.aload_n 0, 1) := by decide +kernel
theorem dX12_must_22 : decode cX12_must 22 = .ok (.getfield 147, 3) := by decide +kernel
theorem dX12_must_25 : decode cX12_must 25 = .ok (.invokevirtual 249, 3) := by decide +kernel
theorem dX12_must_28 : decode cX12_must 28 = .ok (.return_, 1) := by decide +kernel
theorem dX12_passes_0 : decode cX12_passes 0 = .ok (.aload_n 0, 1) := by decide +kernel
theorem dX12_passes_1 : decode cX12_passes 1 = .ok (.invokevirtual 235, 3) := by decide +kernel
theorem dX12_passes_4 : decode cX12_passes 4 = .ok (.ifCond .eq 11, 3) := by decide +kernel
theorem dX12_passes_7 : decode cX12_passes 7 = .ok (.aload_n 0, 1) := by decide +kernel
theorem dX12_passes_8 : decode cX12_passes 8 = .ok (.invokevirtual 239, 3) := by decide +kernel
theorem dX12_passes_11 : decode cX12_passes 11 = .ok (.iload_n 1, 1) := by decide +kernel
theorem dX12_passes_12 : decode cX12_passes 12 = .ok (.if_icmp .eq 5, 3) := by decide +kernel
theorem dX12_passes_15 : decode cX12_passes 15 = .ok (.iconst 0, 1) := by decide +kernel
theorem dX12_passes_16 : decode cX12_passes 16 = .ok (.ireturn, 1) := by decide +kernel
theorem dX12_passes_17 : decode cX12_passes 17 = .ok (.aload_n 0, 1) := by decide +kernel
theorem dX12_passes_18 : decode cX12_passes 18 = .ok (.dup, 1) := by decide +kernel
theorem dX12_passes_19 : decode cX12_passes 19 = .ok (.getfield 144, 3) := by decide +kernel
theorem dX12_passes_22 : decode cX12_passes 22 = .ok (.iconst 1, 1) := by decide +kernel
theorem dX12_passes_23 : decode cX12_passes 23 = .ok (.iadd, 1) := by decide +kernel
theorem dX12_passes_24 : decode cX12_passes 24 = .ok (.putfield 144, 3) := by decide +kernel
theorem dX12_passes_27 : decode cX12_passes 27 = .ok (.iconst 1, 1) := by decide +kernel
theorem dX12_passes_28 : decode cX12_passes 28 = .ok (.ireturn, 1) := by decide +kernel
theorem dX12_endsWell_0 : decode cX12_endsWell 0 = .ok (.aload_n 0, 1) := by decide +kernel
theorem dX12_endsWell_1 : decode cX12_endsWell 1 = .ok (.invokevirtual 235, 3) := by decide +kernel
theorem dX12_endsWell_4 : decode cX12_endsWell 4 = .ok (.ifCond .eq 21, 3) := by decide +kernel
theorem dX12_endsWell_7 : decode cX12_endsWell 7 = .ok (.aload_n 0, 1) := by decide +kernel
theorem dX12_endsWell_8 : decode cX12_endsWell 8 = .ok (.bipush 59, 2) := by decide +kernel
theorem dX12_endsWell_10 : decode cX12_endsWell 10 = .ok (.invokevirtual 259, 3) := by decide +kernel
theorem dX12_endsWell_13 : decode cX12_endsWell 13 = .ok (.ifCond .ne 12, 3) := by decide +kernel
theorem dX12_endsWell_16 : decode cX12_endsWell 16 = .ok (.aload_n 0, 1) := by decide +kernel
theorem dX12_endsWell_17 : decode cX12_endsWell 17 = .ok (.iconst 1, 1) := by decide +kernel
theorem dX12_endsWell_18 : decode cX12_endsWell 18 = .ok (.aload_n 0, 1) := by decide +kernel
theorem dX12_endsWell_19 : decode cX12_endsWell 19 = .ok (.getfield 144, 3) := by decide +kernel
theorem dX12_endsWell_22 : decode cX12_endsWell 22 = .ok (.invokevirtual 249, 3) := by decide +kernel
theorem dX12_endsWell_25 : decode cX12_endsWell 25 = .ok (.return_, 1) := by decide +kernel
theorem dX12_number_0 : decode cX12_number 0 = .ok (.aload_n 0, 1) := by decide +kernel
theorem dX12_number_1 : decode cX12_number 1 = .ok (.invokevirtual 235, 3) := by decide +kernel
theorem dX12_number_4 : decode cX12_number 4 = .ok (.ifCond .ne 5, 3) := by decide +kernel
theorem dX12_number_7 : decode cX12_number 7 = .ok (.iconst 0, 1) := by decide +kernel
theorem dX12_number_8 : decode cX12_number 8 = .ok (.ireturn, 1) := by decide +kernel
theorem dX12_number_9 : decode cX12_number 9 = .ok (.aload_n 0, 1) := by decide +kernel
theorem dX12_number_10 : decode cX12_number 10 = .ok (.invokevirtual 239, 3) := by decide +kernel
theorem dX12_number_13 : decode cX12_number 13 = .ok (.pop, 1) := by decide +kernel
theorem dX12_number_14 : decode cX12_number 14 = .ok (.aload_n 0, 1) := by decide +kernel
theorem dX12_number_15 : decode cX12_number 15 = .ok (.aload_n 0, 1) := by decide +kernel
theorem dX12_number_16 : decode cX12_number 16 = .ok (.getfield 144, 3) := by decide +kernel
theorem dX12_number_19 : decode cX12_number 19 = .ok (.putfield 147, 3) := by decide +kernel
theorem dX12_number_22 : decode cX12_number 22 = .ok (.aload_n 0, 1) := by decide +kernel
theorem dX12_number_23 : decode cX12_number 23 = .ok (.aload_n 0, 1) := by decide +kernel
theorem dX12_number_24 : decode cX12_number 24 = .ok (.getfield 144, 3) := by decide +kernel
theorem dX12_number_27 : decode cX12_number 27 = .ok (.invokevirtual 246, 3) := by decide +kernel
theorem dX12_number_30 : decode cX12_number 30 = .ok (.ifCond .eq 29, 3) := by decide +kernel
theorem dX12_number_33 : decode cX12_number 33 = .ok (.aload_n 0, 1) := by decide +kernel
theorem dX12_number_34 : decode cX12_number 34 = .ok (.aload_n 0, 1) := by decide +kernel
theorem dX12_number_35 : decode cX12_number 35 = .ok (.getfield 144, 3) := by decide +kernel
theorem dX12_number_38 : decode cX12_number 38 = .ok (.iconst 1, 1) := by decide +kernel
theorem dX12_number_39 : decode cX12_number 39 = .ok (.isub, 1) := by decide +kernel
theorem dX12_number_40 : decode cX12_number 40 = .ok (.invokevirtual 243, 3) := by decide +kernel
theorem dX12_number_43 : decode cX12_number 43 = .ok (.ifCond .ne 16, 3) := by decide +kernel
theorem dX12_number_46 : decode cX12_number 46 = .ok (.aload_n 0, 1) := by decide +kernel
theorem dX12_number_47 : decode cX12_number 47 = .ok (.aload_n 0, 1) := by decide +kernel
theorem dX12_number_48 : decode cX12_number 48 = .ok (.getfield 144, 3) := by decide +kernel
theorem dX12_number_51 : decode cX12_number 51 = .ok (.iconst 1, 1) := by decide +kernel
theorem dX12_number_52 : decode cX12_number 52 = .ok (.isub, 1) := by decide +kernel
theorem dX12_number_53 : decode cX12_number 53 = .ok (.invokevirtual 246, 3) := by decide +kernel
theorem dX12_number_56 : decode cX12_number 56 = .ok (.ifCond .eq 14, 3) := by decide +kernel
theorem dX12_number_59 : decode cX12_number 59 = .ok (.aload_n 0, 1) := by decide +kernel
theorem dX12_number_60 : decode cX12_number 60 = .ok (.iconst 1, 1) := by decide +kernel
theorem dX12_number_61 : decode cX12_number 61 = .ok (.aload_n 0, 1) := by decide +kernel
theorem dX12_number_62 : decode cX12_number 62 = .ok (.getfield 144, 3) := by decide +kernel
theorem dX12_number_65 : decode cX12_number 65 = .ok (.invokevirtual 249, 3) := by decide +kernel
theorem dX12_number_68 : decode cX12_number 68 = .ok (.iconst 0, 1) := by decide +kernel
theorem dX12_number_69 : decode cX12_number 69 = .ok (.ireturn, 1) := by decide +kernel
theorem dX12_number_70 : decode cX12_number 70 = .ok (.iconst 0, 1) := by decide +kernel
theorem dX12_number_71 : decode cX12_number 71 = .ok (.istore_n 3, 1) := by decide +kernel
theorem dX12_number_72 : decode cX12_number 72 = .ok (.aload_n 0, 1) := by decide +kernel
theorem dX12_number_73 : decode cX12_number 73 = .ok (.aload_n 0, 1) := by decide +kernel
theorem dX12_number_74 : decode cX12_number 74 = .ok (.getfield 144, 3) := by decide +kernel
theorem dX12_number_77 : decode cX12_number 77 = .ok (.invokevirtual 246, 3) := by decide +kernel
theorem dX12_number_80 : decode cX12_number 80 = .ok (.ifCond .eq 62, 3) := by decide +kernel
theorem dX12_number_83 : decode cX12_number 83 = .ok (.aload_n 0, 1) := by decide +kernel
theorem dX12_number_84 : decode cX12_number 84 = .ok (.invokevirtual 235, 3) := by decide +kernel
theorem dX12_number_87 : decode cX12_number 87 = .ok (.ifCond .eq 55, 3) := by decide +kernel
theorem dX12_number_90 : decode cX12_number 90 = .ok (.aload_n 0, 1) := by decide +kernel
theorem dX12_number_91 : decode cX12_number 91 = .ok (.getfield 144, 3) := by decide +kernel
theorem dX12_number_94 : decode cX12_number 94 = .ok (.aload_n 0, 1) := by decide +kernel
theorem dX12_number_95 : decode cX12_number 95 = .ok (.getfield 147, 3) := by decide +kernel
theorem dX12_number_98 : decode cX12_number 98 = .ok (.isub, 1) := by decide +kernel
theorem dX12_number_99 : decode cX12_number 99 = .ok (.iconst 4, 1) := by decide +kernel
theorem dX12_number_100 : decode cX12_number 100 = .ok (.if_icmp .ne 12, 3) := by decide +kernel
theorem dX12_number_103 : decode cX12_number 103 = .ok (.aload_n 0, 1) := by decide +kernel
theorem dX12_number_104 : decode cX12_number 104 = .ok (.iconst 1, 1) := by decide +kernel
theorem dX12_number_105 : decode cX12_number 105 = .ok (.aload_n 0, 1) := by decide +kernel
theorem dX12_number_106 : decode cX12_number 106 = .ok (.getfield 144, 3) := by decide +kernel
theorem dX12_number_109 : decode cX12_number 109 = .ok (.invokevirtual 249, 3) := by decide +kernel
theorem dX12_number_112 : decode cX12_number 112 = .ok (.bipush 10, 2) := by decide +kernel
theorem dX12_number_114 : decode cX12_number 114 = .ok (.iload_n 3, 1) := by decide +kernel
theorem dX12_number_115 : decode cX12_number 115 = .ok (.imul, 1) := by decide +kernel
theorem dX12_number_116 : decode cX12_number 116 = .ok (.aload_n 0, 1) := by decide +kernel
theorem dX12_number_117 : decode cX12_number 117 = .ok (.aload_n 0, 1) := by decide +kernel
theorem dX12_number_118 : decode cX12_number 118 = .ok (.getfield 144, 3) := by decide +kernel
theorem dX12_number_121 : decode cX12_number 121 = .ok (.invokevirtual 232, 3) := by decide +kernel
theorem dX12_number_124 : decode cX12_number 124 = .ok (.iadd, 1) := by decide +kernel
theorem dX12_number_125 : decode cX12_number 125 = .ok (.bipush 48, 2) := by decide +kernel
theorem dX12_number_127 : decode cX12_number 127 = .ok (.isub, 1) := by decide +kernel
theorem dX12_number_128 : decode cX12_number 128 = .ok (.istore_n 3, 1) := by decide +kernel
theorem dX12_number_129 : decode cX12_number 129 = .ok (.aload_n 0, 1) := by decide +kernel
theorem dX12_number_130 : decode cX12_number 130 = .ok (.dup, 1) := by decide +kernel
theorem dX12_number_131 : decode cX12_number 131 = .ok (.getfield 144, 3) := by decide +kernel
theorem dX12_number_134 : decode cX12_number 134 = .ok (.iconst 1, 1) := by decide +kernel
theorem dX12_number_135 : decode cX12_number 135 = .ok (.iadd, 1) := by decide +kernel
theorem dX12_number_136 : decode cX12_number 136 = .ok (.putfield 144, 3) := by decide +kernel
theorem dX12_number_139 : decode cX12_number 139 = .ok (.goto (-67), 3) := by decide +kernel
theorem dX12_number_142 : decode cX12_number 142 = .ok (.iload_n 3, 1) := by decide +kernel
theorem dX12_number_143 : decode cX12_number 143 = .ok (.iload_n 1, 1) := by decide +kernel
theorem dX12_number_144 : decode cX12_number 144 = .ok (.iload_n 2, 1) := by decide +kernel
theorem dX12_number_145 : decode cX12_number 145 = .ok (.invokestatic 262, 3) := by decide +kernel
theorem dX12_number_148 : decode cX12_number 148 = .ok (.ifCond .ne 12, 3) := by decide +kernel
theorem dX12_number_151 : decode cX12_number 151 = .ok (.aload_n 0, 1) := by decide +kernel
theorem dX12_number_152 : decode cX12_number 152 = .ok (.iconst 2, 1) := by decide +kernel
theorem dX12_number_153 : decode cX12_number 153 = .ok (.aload_n 0, 1) := by decide +kernel
theorem dX12_number_154 : decode cX12_number 154 = .ok (.getfield 147, 3) := by decide +kernel
theorem dX12_number_157 : decode cX12_number 157 = .ok (.invokevirtual 249, 3) := by decide +kernel
theorem dX12_number_160 : decode cX12_number 160 = .ok (.aload_n 0, 1) := by decide +kernel
theorem dX12_number_161 : decode cX12_number 161 = .ok (.invokevirtual 235, 3) := by decide +kernel
theorem dX12_number_164 : decode cX12_number 164 = .ok (.ifCond .eq 7, 3) := by decide +kernel
theorem dX12_number_167 : decode cX12_number 167 = .ok (.iload_n 3, 1) := by decide +kernel
theorem dX12_number_168 : decode cX12_number 168 = .ok (.goto 4, 3) := by decide +kernel
theorem dX12_number_171 : decode cX12_number 171 = .ok (.iconst 0, 1) := by decide +kernel
theorem dX12_number_172 : decode cX12_number 172 = .ok (.ireturn, 1) := by decide +kernel
theorem dX12_told_0 : decode cX12_told 0 = .ok (.aload_n 0, 1) := by decide +kernel
theorem dX12_told_1 : decode cX12_told 1 = .ok (.iload_n 1, 1) := by decide +kernel
theorem dX12_told_2 : decode cX12_told 2 = .ok (.invokevirtual 266, 3) := by decide +kernel
theorem dX12_told_5 : decode cX12_told 5 = .ok (.aload_n 0, 1) := by decide +kernel
theorem dX12_told_6 : decode cX12_told 6 = .ok (.iload_n 2, 1) := by decide +kernel
theorem dX12_told_7 : decode cX12_told 7 = .ok (.iload_n 3, 1) := by decide +kernel
theorem dX12_told_8 : decode cX12_told 8 = .ok (.invokevirtual 269, 3) := by decide +kernel
theorem dX12_told_11 : decode cX12_told 11 = .ok (.ireturn, 1) := by decide +kernel
theorem dX12_isName_0 : decode cX12_isName 0 = .ok (.iconst 0, 1) := by decide +kernel
theorem dX12_isName_1 : decode cX12_isName 1 = .ok (.istore_n 2, 1) := by decide +kernel
theorem dX12_isName_2 : decode cX12_isName 2 = .ok (.iload_n 2, 1) := by decide +kernel
theorem dX12_isName_3 : decode cX12_isName 3 = .ok (.bipush 6, 2) := by decide +kernel
theorem dX12_isName_5 : decode cX12_isName 5 = .ok (.if_icmp .ge 58, 3) := by decide +kernel
theorem dX12_isName_8 : decode cX12_isName 8 = .ok (.aload_n 0, 1) := by decide +kernel
theorem dX12_isName_9 : decode cX12_isName 9 = .ok (.getfield 147, 3) := by decide +kernel
theorem dX12_isName_12 : decode cX12_isName 12 = .ok (.iload_n 2, 1) := by decide +kernel
theorem dX12_isName_13 : decode cX12_isName 13 = .ok (.iadd, 1) := by decide +kernel
theorem dX12_isName_14 : decode cX12_isName 14 = .ok (.aload_n 0, 1) := by decide +kernel
theorem dX12_isName_15 : decode cX12_isName 15 = .ok (.getfield 144, 3) := by decide +kernel
theorem dX12_isName_18 : decode cX12_isName 18 = .ok (.if_icmp .ge 20, 3) := by decide +kernel
theorem dX12_isName_21 : decode cX12_isName 21 = .ok (.aload_n 0, 1) := by decide +kernel
theorem dX12_isName_22 : decode cX12_isName 22 = .ok (.getfield 126, 3) := by decide +kernel
theorem dX12_isName_25 : decode cX12_isName 25 = .ok (.aload_n 0, 1) := by decide +kernel
theorem dX12_isName_26 : decode cX12_isName 26 = .ok (.getfield 147, 3) := by decide +kernel
theorem dX12_isName_29 : decode cX12_isName 29 = .ok (.iload_n 2, 1) := by decide +kernel
theorem dX12_isName_30 : decode cX12_isName 30 = .ok (.iadd, 1) := by decide +kernel
theorem dX12_isName_31 : decode cX12_isName 31 = .ok (.iaload, 1) := by decide +kernel
theorem dX12_isName_32 : decode cX12_isName 32 = .ok (.bipush 96, 2) := by decide +kernel
theorem dX12_isName_34 : decode cX12_isName 34 = .ok (.isub, 1) := by decide +kernel
theorem dX12_isName_35 : decode cX12_isName 35 = .ok (.goto 4, 3) := by decide +kernel
theorem dX12_isName_38 : decode cX12_isName 38 = .ok (.iconst 0, 1) := by decide +kernel
theorem dX12_isName_39 : decode cX12_isName 39 = .ok (.istore_n 3, 1) := by decide +kernel
theorem dX12_isName_40 : decode cX12_isName 40 = .ok (.aload_n 0, 1) := by decide +kernel
theorem dX12_isName_41 : decode cX12_isName 41 = .ok (.getfield 123, 3) := by decide +kernel
theorem dX12_isName_44 : decode cX12_isName 44 = .ok (.bipush 6, 2) := by decide +kernel
theorem dX12_isName_46 : decode cX12_isName 46 = .ok (.iload_n 1, 1) := by decide +kernel
theorem dX12_isName_47 : decode cX12_isName 47 = .ok (.imul, 1) := by decide +kernel
theorem dX12_isName_48 : decode cX12_isName 48 = .ok (.iload_n 2, 1) := by decide +kernel
theorem dX12_isName_49 : decode cX12_isName 49 = .ok (.iadd, 1) := by decide +kernel
theorem dX12_isName_50 : decode cX12_isName 50 = .ok (.iaload, 1) := by decide +kernel
theorem dX12_isName_51 : decode cX12_isName 51 = .ok (.iload_n 3, 1) := by decide +kernel
theorem dX12_isName_52 : decode cX12_isName 52 = .ok (.if_icmp .eq 5, 3) := by decide +kernel
theorem dX12_isName_55 : decode cX12_isName 55 = .ok (.iconst 0, 1) := by decide +kernel
theorem dX12_isName_56 : decode cX12_isName 56 = .ok (.ireturn, 1) := by decide +kernel
theorem dX12_isName_57 : decode cX12_isName 57 = .ok (.iinc 2 1, 3) := by decide +kernel
theorem dX12_isName_60 : decode cX12_isName 60 = .ok (.goto (-58), 3) := by decide +kernel
theorem dX12_isName_63 : decode cX12_isName 63 = .ok (.iconst 1, 1) := by decide +kernel
theorem dX12_isName_64 : decode cX12_isName 64 = .ok (.ireturn, 1) := by decide +kernel
theorem dX12_freshName_0 : decode cX12_freshName 0 = .ok (.aload_n 0, 1) := by decide +kernel
theorem dX12_freshName_1 : decode cX12_freshName 1 = .ok (.invokevirtual 253, 3) := by decide +kernel
theorem dX12_freshName_4 : decode cX12_freshName 4 = .ok (.aload_n 0, 1) := by decide +kernel
theorem dX12_freshName_5 : decode cX12_freshName 5 = .ok (.invokevirtual 235, 3) := by decide +kernel
theorem dX12_freshName_8 : decode cX12_freshName 8 = .ok (.ifCond .ne 4, 3) := by decide +kernel
theorem dX12_freshName_11 : decode cX12_freshName 11 = .ok (.return_, 1) := by decide +kernel
theorem dX12_freshName_12 : decode cX12_freshName 12 = .ok (.aload_n 0, 1) := by decide +kernel
theorem dX12_freshName_13 : decode cX12_freshName 13 = .ok (.invokevirtual 256, 3) := by decide +kernel
theorem dX12_freshName_16 : decode cX12_freshName 16 = .ok (.iconst (-1), 1) := by decide +kernel
theorem dX12_freshName_17 : decode cX12_freshName 17 = .ok (.if_icmp .eq 15, 3) := by decide +kernel
theorem dX12_freshName_20 : decode cX12_freshName 20 = .ok (.aload_n 0, 1) := by decide +kernel
theorem dX12_freshName_21 : decode cX12_freshName 21 = .ok (.iconst 1, 1) := by decide +kernel
theorem dX12_freshName_22 : decode cX12_freshName 22 = .ok (.aload_n 0, 1) := by decide +kernel
theorem dX12_freshName_23 : decode cX12_freshName 23 = .ok (.getfield 147, 3) := by decide +kernel
theorem dX12_freshName_26 : decode cX12_freshName 26 = .ok (.invokevirtual 249, 3) := by decide +kernel
theorem dX12_freshName_29 : decode cX12_freshName 29 = .ok (.goto 29, 3) := by decide +kernel
theorem dX12_freshName_32 : decode cX12_freshName 32 = .ok (.aload_n 0, 1) := by decide +kernel
theorem dX12_freshName_33 : decode cX12_freshName 33 = .ok (.getfield 144, 3) := by decide +kernel
theorem dX12_freshName_36 : decode cX12_freshName 36 = .ok (.aload_n 0, 1) := by decide +kernel
theorem dX12_freshName_37 : decode cX12_freshName 37 = .ok (.getfield 147, 3) := by decide +kernel
theorem dX12_freshName_40 : decode cX12_freshName 40 = .ok (.isub, 1) := by decide +kernel
theorem dX12_freshName_41 : decode cX12_freshName 41 = .ok (.bipush 6, 2) := by decide +kernel
theorem dX12_freshName_43 : decode cX12_freshName 43 = .ok (.if_icmp .le 15, 3) := by decide +kernel
theorem dX12_freshName_46 : decode cX12_freshName 46 = .ok (.aload_n 0, 1) := by decide +kernel
theorem dX12_freshName_47 : decode cX12_freshName 47 = .ok (.iconst 1, 1) := by decide +kernel
theorem dX12_freshName_48 : decode cX12_freshName 48 = .ok (.aload_n 0, 1) := by decide +kernel
theorem dX12_freshName_49 : decode cX12_freshName 49 = .ok (.getfield 147, 3) := by decide +kernel
theorem dX12_freshName_52 : decode cX12_freshName 52 = .ok (.bipush 6, 2) := by decide +kernel
theorem dX12_freshName_54 : decode cX12_freshName 54 = .ok (.iadd, 1) := by decide +kernel
theorem dX12_freshName_55 : decode cX12_freshName 55 = .ok (.invokevirtual 249, 3) := by decide +kernel
theorem dX12_freshName_58 : decode cX12_freshName 58 = .ok (.iconst 0, 1) := by decide +kernel
theorem dX12_freshName_59 : decode cX12_freshName 59 = .ok (.istore_n 1, 1) := by decide +kernel
theorem dX12_freshName_60 : decode cX12_freshName 60 = .ok (.aload_n 0, 1) := by decide +kernel
theorem dX12_freshName_61 : decode cX12_freshName 61 = .ok (.invokevirtual 235, 3) := by decide +kernel
theorem dX12_freshName_64 : decode cX12_freshName 64 = .ok (.ifCond .eq 34, 3) := by decide +kernel
theorem dX12_freshName_67 : decode cX12_freshName 67 = .ok (.iload_n 1, 1) := by decide +kernel
theorem dX12_freshName_68 : decode cX12_freshName 68 = .ok (.aload_n 0, 1) := by decide +kernel
theorem dX12_freshName_69 : decode cX12_freshName 69 = .ok (.getfield 69, 3) := by decide +kernel
theorem dX12_freshName_72 : decode cX12_freshName 72 = .ok (.if_icmp .ge 26, 3) := by decide +kernel
theorem dX12_freshName_75 : decode cX12_freshName 75 = .ok (.aload_n 0, 1) := by decide +kernel
theorem dX12_freshName_76 : decode cX12_freshName 76 = .ok (.iload_n 1, 1) := by decide +kernel
theorem dX12_freshName_77 : decode cX12_freshName 77 = .ok (.invokevirtual 273, 3) := by decide +kernel
theorem dX12_freshName_80 : decode cX12_freshName 80 = .ok (.ifCond .eq 12, 3) := by decide +kernel
theorem dX12_freshName_83 : decode cX12_freshName 83 = .ok (.aload_n 0, 1) := by decide +kernel
theorem dX12_freshName_84 : decode cX12_freshName 84 = .ok (.iconst 3, 1) := by decide +kernel
theorem dX12_freshName_85 : decode cX12_freshName 85 = .ok (.aload_n 0, 1) := by decide +kernel
theorem dX12_freshName_86 : decode cX12_freshName 86 = .ok (.getfield 147, 3) := by decide +kernel
theorem dX12_freshName_89 : decode cX12_freshName 89 = .ok (.invokevirtual 249, 3) := by decide +kernel
theorem dX12_freshName_92 : decode cX12_freshName 92 = .ok (.iinc 1 1, 3) := by decide +kernel
theorem dX12_freshName_95 : decode cX12_freshName 95 = .ok (.goto (-35), 3) := by decide +kernel
theorem dX12_freshName_98 : decode cX12_freshName 98 = .ok (.iconst 0, 1) := by decide +kernel
theorem dX12_freshName_99 : decode cX12_freshName 99 = .ok (.istore_n 1, 1) := by decide +kernel
theorem dX12_freshName_100 : decode cX12_freshName 100 = .ok (.aload_n 0, 1) := by decide +kernel
theorem dX12_freshName_101 : decode cX12_freshName 101 = .ok (.invokevirtual 235, 3) := by decide +kernel
theorem dX12_freshName_104 : decode cX12_freshName 104 = .ok (.ifCond .eq 60, 3) := by decide +kernel
theorem dX12_freshName_107 : decode cX12_freshName 107 = .ok (.iload_n 1, 1) := by decide +kernel
theorem dX12_freshName_108 : decode cX12_freshName 108 = .ok (.bipush 6, 2) := by decide +kernel
theorem dX12_freshName_110 : decode cX12_freshName 110 = .ok (.if_icmp .ge 54, 3) := by decide +kernel
theorem dX12_freshName_113 : decode cX12_freshName 113 = .ok (.aload_n 0, 1) := by decide +kernel
theorem dX12_freshName_114 : decode cX12_freshName 114 = .ok (.getfield 123, 3) := by decide +kernel
theorem dX12_freshName_117 : decode cX12_freshName 117 = .ok (.bipush 6, 2) := by decide +kernel
theorem dX12_freshName_119 : decode cX12_freshName 119 = .ok (.aload_n 0, 1) := by decide +kernel
theorem dX12_freshName_120 : decode cX12_freshName 120 = .ok (.getfield 69, 3) := by decide +kernel
theorem dX12_freshName_123 : decode cX12_freshName 123 = .ok (.imul, 1) := by decide +kernel
theorem dX12_freshName_124 : decode cX12_freshName 124 = .ok (.iload_n 1, 1) := by decide +kernel
theorem dX12_freshName_125 : decode cX12_freshName 125 = .ok (.iadd, 1) := by decide +kernel
theorem dX12_freshName_126 : decode cX12_freshName 126 = .ok (.aload_n 0, 1) := by decide +kernel
theorem dX12_freshName_127 : decode cX12_freshName 127 = .ok (.getfield 147, 3) := by decide +kernel
theorem dX12_freshName_130 : decode cX12_freshName 130 = .ok (.iload_n 1, 1) := by decide +kernel
theorem dX12_freshName_131 : decode cX12_freshName 131 = .ok (.iadd, 1) := by decide +kernel
theorem dX12_freshName_132 : decode cX12_freshName 132 = .ok (.aload_n 0, 1) := by decide +kernel
theorem dX12_freshName_133 : decode cX12_freshName 133 = .ok (.getfield 144, 3) := by decide +kernel
theorem dX12_freshName_136 : decode cX12_freshName 136 = .ok (.if_icmp .ge 20, 3) := by decide +kernel
theorem dX12_freshName_139 : decode cX12_freshName 139 = .ok (.aload_n 0, 1) := by decide +kernel
theorem dX12_freshName_140 : decode cX12_freshName 140 = .ok (.getfield 126, 3) := by decide +kernel
theorem dX12_freshName_143 : decode cX12_freshName 143 = .ok (.aload_n 0, 1) := by decide +kernel
theorem dX12_freshName_144 : decode cX12_freshName 144 = .ok (.getfield 147, 3) := by decide +kernel
theorem dX12_freshName_147 : decode cX12_freshName 147 = .ok (.iload_n 1, 1) := by decide +kernel
theorem dX12_freshName_148 : decode cX12_freshName 148 = .ok (.iadd, 1) := by decide +kernel
theorem dX12_freshName_149 : decode cX12_freshName 149 = .ok (.iaload, 1) := by decide +kernel
theorem dX12_freshName_150 : decode cX12_freshName 150 = .ok (.bipush 96, 2) := by decide +kernel
theorem dX12_freshName_152 : decode cX12_freshName 152 = .ok (.isub, 1) := by decide +kernel
theorem dX12_freshName_153 : decode cX12_freshName 153 = .ok (.goto 4, 3) := by decide +kernel
theorem dX12_freshName_156 : decode cX12_freshName 156 = .ok (.iconst 0, 1) := by decide +kernel
theorem dX12_freshName_157 : decode cX12_freshName 157 = .ok (.iastore, 1) := by decide +kernel
theorem dX12_freshName_158 : decode cX12_freshName 158 = .ok (.iinc 1 1, 3) := by decide +kernel
theorem dX12_freshName_161 : decode cX12_freshName 161 = .ok (.goto (-61), 3) := by decide +kernel
theorem dX12_freshName_164 : decode cX12_freshName 164 = .ok (.return_, 1) := by decide +kernel
theorem dX12_readsStep_0 : decode cX12_readsStep 0 = .ok (.aload_n 0, 1) := by decide +kernel
theorem dX12_readsStep_1 : decode cX12_readsStep 1 = .ok (.invokevirtual 253, 3) := by decide +kernel
theorem dX12_readsStep_4 : decode cX12_readsStep 4 = .ok (.aload_n 0, 1) := by decide +kernel
theorem dX12_readsStep_5 : decode cX12_readsStep 5 = .ok (.invokevirtual 235, 3) := by decide +kernel
theorem dX12_readsStep_8 : decode cX12_readsStep 8 = .ok (.ifCond .ne 4, 3) := by decide +kernel
theorem dX12_readsStep_11 : decode cX12_readsStep 11 = .ok (.return_, 1) := by decide +kernel
theorem dX12_readsStep_12 : decode cX12_readsStep 12 = .ok (.aload_n 0, 1) := by decide +kernel
theorem dX12_readsStep_13 : decode cX12_readsStep 13 = .ok (.invokevirtual 256, 3) := by decide +kernel
theorem dX12_readsStep_16 : decode cX12_readsStep 16 = .ok (.istore_n 1, 1) := by decide +kernel
theorem dX12_readsStep_17 : decode cX12_readsStep 17 = .ok (.aload_n 0, 1) := by decide +kernel
theorem dX12_readsStep_18 : decode cX12_readsStep 18 = .ok (.getfield 117, 3) := by decide +kernel
theorem dX12_readsStep_21 : decode cX12_readsStep 21 = .ok (.aload_n 0, 1) := by decide +kernel
theorem dX12_readsStep_22 : decode cX12_readsStep 22 = .ok (.getfield 69, 3) := by decide +kernel
theorem dX12_readsStep_25 : decode cX12_readsStep 25 = .ok (.iaload, 1) := by decide +kernel
theorem dX12_readsStep_26 : decode cX12_readsStep 26 = .ok (.istore_n 2, 1) := by decide +kernel
theorem dX12_readsStep_27 : decode cX12_readsStep 27 = .ok (.iload_n 1, 1) := by decide +kernel
theorem dX12_readsStep_28 : decode cX12_readsStep 28 = .ok (.bipush 15, 2) := by decide +kernel
theorem dX12_readsStep_30 : decode cX12_readsStep 30 = .ok (.if_icmp .eq 21, 3) := by decide +kernel
theorem dX12_readsStep_33 : decode cX12_readsStep 33 = .ok (.iload_n 1, 1) := by decide +kernel
theorem dX12_readsStep_34 : decode cX12_readsStep 34 = .ok (.bipush 16, 2) := by decide +kernel
theorem dX12_readsStep_36 : decode cX12_readsStep 36 = .ok (.if_icmp .eq 15, 3) := by decide +kernel
theorem dX12_readsStep_39 : decode cX12_readsStep 39 = .ok (.aload_n 0, 1) := by decide +kernel
theorem dX12_readsStep_40 : decode cX12_readsStep 40 = .ok (.iconst 1, 1) := by decide +kernel
theorem dX12_readsStep_41 : decode cX12_readsStep 41 = .ok (.aload_n 0, 1) := by decide +kernel
theorem dX12_readsStep_42 : decode cX12_readsStep 42 = .ok (.getfield 147, 3) := by decide +kernel
theorem dX12_readsStep_45 : decode cX12_readsStep 45 = .ok (.invokevirtual 249, 3) := by decide +kernel
theorem dX12_readsStep_48 : decode cX12_readsStep 48 = .ok (.goto 50, 3) := by decide +kernel
theorem dX12_readsStep_51 : decode cX12_readsStep 51 = .ok (.iload_n 2, 1) := by decide +kernel
theorem dX12_readsStep_52 : decode cX12_readsStep 52 = .ok (.bipush 6, 2) := by decide +kernel
theorem dX12_readsStep_54 : decode cX12_readsStep 54 = .ok (.if_icmp .ne 15, 3) := by decide +kernel
theorem dX12_readsStep_57 : decode cX12_readsStep 57 = .ok (.aload_n 0, 1) := by decide +kernel
theorem dX12_readsStep_58 : decode cX12_readsStep 58 = .ok (.iconst 5, 1) := by decide +kernel
theorem dX12_readsStep_59 : decode cX12_readsStep 59 = .ok (.aload_n 0, 1) := by decide +kernel
theorem dX12_readsStep_60 : decode cX12_readsStep 60 = .ok (.getfield 147, 3) := by decide +kernel
theorem dX12_readsStep_63 : decode cX12_readsStep 63 = .ok (.invokevirtual 249, 3) := by decide +kernel
theorem dX12_readsStep_66 : decode cX12_readsStep 66 = .ok (.goto 32, 3) := by decide +kernel
theorem dX12_readsStep_69 : decode cX12_readsStep 69 = .ok (.iload_n 1, 1) := by decide +kernel
theorem dX12_readsStep_70 : decode cX12_readsStep 70 = .ok (.bipush 15, 2) := by decide +kernel
theorem dX12_readsStep_72 : decode cX12_readsStep 72 = .ok (.if_icmp .ne 26, 3) := by decide +kernel
theorem dX12_readsStep_75 : decode cX12_readsStep 75 = .ok (.aload_n 0, 1) := by decide +kernel
theorem dX12_readsStep_76 : decode cX12_readsStep 76 = .ok (.getfield 114, 3) := by decide +kernel
theorem dX12_readsStep_79 : decode cX12_readsStep 79 = .ok (.aload_n 0, 1) := by decide +kernel
theorem dX12_readsStep_80 : decode cX12_readsStep 80 = .ok (.getfield 69, 3) := by decide +kernel
theorem dX12_readsStep_83 : decode cX12_readsStep 83 = .ok (.iaload, 1) := by decide +kernel
theorem dX12_readsStep_84 : decode cX12_readsStep 84 = .ok (.iconst 1, 1) := by decide +kernel
theorem dX12_readsStep_85 : decode cX12_readsStep 85 = .ok (.if_icmp .ne 13, 3) := by decide +kernel
theorem dX12_readsStep_88 : decode cX12_readsStep 88 = .ok (.aload_n 0, 1) := by decide +kernel
theorem dX12_readsStep_89 : decode cX12_readsStep 89 = .ok (.bipush 6, 2) := by decide +kernel
theorem dX12_readsStep_91 : decode cX12_readsStep 91 = .ok (.aload_n 0, 1) := by decide +kernel
theorem dX12_readsStep_92 : decode cX12_readsStep 92 = .ok (.getfield 147, 3) := by decide +kernel
theorem dX12_readsStep_95 : decode cX12_readsStep 95 = .ok (.invokevirtual 249, 3) := by decide +kernel
theorem dX12_readsStep_98 : decode cX12_readsStep 98 = .ok (.aload_n 0, 1) := by decide +kernel
theorem dX12_readsStep_99 : decode cX12_readsStep 99 = .ok (.invokevirtual 235, 3) := by decide +kernel
theorem dX12_readsStep_102 : decode cX12_readsStep 102 = .ok (.ifCond .ne 4, 3) := by decide +kernel
theorem dX12_readsStep_105 : decode cX12_readsStep 105 = .ok (.return_, 1) := by decide +kernel
theorem dX12_readsStep_106 : decode cX12_readsStep 106 = .ok (.iload_n 1, 1) := by decide +kernel
theorem dX12_readsStep_107 : decode cX12_readsStep 107 = .ok (.bipush 15, 2) := by decide +kernel
theorem dX12_readsStep_109 : decode cX12_readsStep 109 = .ok (.if_icmp .ne 17, 3) := by decide +kernel
theorem dX12_readsStep_112 : decode cX12_readsStep 112 = .ok (.aload_n 0, 1) := by decide +kernel
theorem dX12_readsStep_113 : decode cX12_readsStep 113 = .ok (.iconst 0, 1) := by decide +kernel
theorem dX12_readsStep_114 : decode cX12_readsStep 114 = .ok (.aload_n 0, 1) := by decide +kernel
theorem dX12_readsStep_115 : decode cX12_readsStep 115 = .ok (.getfield 72, 3) := by decide +kernel
theorem dX12_readsStep_118 : decode cX12_readsStep 118 = .ok (.iconst 1, 1) := by decide +kernel
theorem dX12_readsStep_119 : decode cX12_readsStep 119 = .ok (.isub, 1) := by decide +kernel
theorem dX12_readsStep_120 : decode cX12_readsStep 120 = .ok (.invokevirtual 269, 3) := by decide +kernel
theorem dX12_readsStep_123 : decode cX12_readsStep 123 = .ok (.goto 4, 3) := by decide +kernel
theorem dX12_readsStep_126 : decode cX12_readsStep 126 = .ok (.iconst (-1), 1) := by decide +kernel
theorem dX12_readsStep_127 : decode cX12_readsStep 127 = .ok (.istore_n 3, 1) := by decide +kernel
theorem dX12_readsStep_128 : decode cX12_readsStep 128 = .ok (.aload_n 0, 1) := by decide +kernel
theorem dX12_readsStep_129 : decode cX12_readsStep 129 = .ok (.bipush 17, 2) := by decide +kernel
theorem dX12_readsStep_131 : decode cX12_readsStep 131 = .ok (.iconst 1, 1) := by decide +kernel
theorem dX12_readsStep_132 : decode cX12_readsStep 132 = .ok (.iload_n 3, 1) := by decide +kernel
theorem dX12_readsStep_133 : decode cX12_readsStep 133 = .ok (.iconst (-1), 1) := by decide +kernel
theorem dX12_readsStep_134 : decode cX12_readsStep 134 = .ok (.if_icmp .ne 8, 3) := by decide +kernel
theorem dX12_readsStep_137 : decode cX12_readsStep 137 = .ok (.bipush 64, 2) := by decide +kernel
theorem dX12_readsStep_139 : decode cX12_readsStep 139 = .ok (.goto 14, 3) := by decide +kernel
theorem dX12_readsStep_142 : decode cX12_readsStep 142 = .ok (.bipush 64, 2) := by decide +kernel
theorem dX12_readsStep_144 : decode cX12_readsStep 144 = .ok (.aload_n 0, 1) := by decide +kernel
theorem dX12_readsStep_145 : decode cX12_readsStep 145 = .ok (.getfield 72, 3) := by decide +kernel
theorem dX12_readsStep_148 : decode cX12_readsStep 148 = .ok (.iload_n 3, 1) := by decide +kernel
theorem dX12_readsStep_149 : decode cX12_readsStep 149 = .ok (.isub, 1) := by decide +kernel
theorem dX12_readsStep_150 : decode cX12_readsStep 150 = .ok (.invokestatic 276, 3) := by decide +kernel
theorem dX12_readsStep_153 : decode cX12_readsStep 153 = .ok (.invokevirtual 279, 3) := by decide +kernel
theorem dX12_readsStep_156 : decode cX12_readsStep 156 = .ok (.istore 4, 2) := by decide +kernel
theorem dX12_readsStep_158 : decode cX12_readsStep 158 = .ok (.aload_n 0, 1) := by decide +kernel
theorem dX12_readsStep_159 : decode cX12_readsStep 159 = .ok (.bipush 18, 2) := by decide +kernel
theorem dX12_readsStep_161 : decode cX12_readsStep 161 = .ok (.iconst 0, 1) := by decide +kernel
theorem dX12_readsStep_162 : decode cX12_readsStep 162 = .ok (.sipush 200, 3) := by decide +kernel
theorem dX12_readsStep_165 : decode cX12_readsStep 165 = .ok (.invokevirtual 279, 3) := by decide +kernel
theorem dX12_readsStep_168 : decode cX12_readsStep 168 = .ok (.istore 5, 2) := by decide +kernel
theorem dX12_readsStep_170 : decode cX12_readsStep 170 = .ok (.aload_n 0, 1) := by decide +kernel
theorem dX12_readsStep_171 : decode cX12_readsStep 171 = .ok (.invokevirtual 235, 3) := by decide +kernel
theorem dX12_readsStep_174 : decode cX12_readsStep 174 = .ok (.ifCond .ne 4, 3) := by decide +kernel
theorem dX12_readsStep_177 : decode cX12_readsStep 177 = .ok (.return_, 1) := by decide +kernel
theorem dX12_readsStep_178 : decode cX12_readsStep 178 = .ok (.iconst 3, 1) := by decide +kernel
theorem dX12_readsStep_179 : decode cX12_readsStep 179 = .ok (.bipush 6, 2) := by decide +kernel
theorem dX12_readsStep_181 : decode cX12_readsStep 181 = .ok (.aload_n 0, 1) := by decide +kernel
theorem dX12_readsStep_182 : decode cX12_readsStep 182 = .ok (.getfield 69, 3) := by decide +kernel
theorem dX12_readsStep_185 : decode cX12_readsStep 185 = .ok (.imul, 1) := by decide +kernel
theorem dX12_readsStep_186 : decode cX12_readsStep 186 = .ok (.iload_n 2, 1) := by decide +kernel
theorem dX12_readsStep_187 : decode cX12_readsStep 187 = .ok (.iadd, 1) := by decide +kernel
theorem dX12_readsStep_188 : decode cX12_readsStep 188 = .ok (.imul, 1) := by decide +kernel
theorem dX12_readsStep_189 : decode cX12_readsStep 189 = .ok (.istore 6, 2) := by decide +kernel
theorem dX12_readsStep_191 : decode cX12_readsStep 191 = .ok (.aload_n 0, 1) := by decide +kernel
theorem dX12_readsStep_192 : decode cX12_readsStep 192 = .ok (.getfield 120, 3) := by decide +kernel
theorem dX12_readsStep_195 : decode cX12_readsStep 195 = .ok (.iload 6, 2) := by decide +kernel
theorem dX12_readsStep_197 : decode cX12_readsStep 197 = .ok (.iload_n 3, 1) := by decide +kernel
theorem dX12_readsStep_198 : decode cX12_readsStep 198 = .ok (.iastore, 1) := by decide +kernel
theorem dX12_readsStep_199 : decode cX12_readsStep 199 = .ok (.aload_n 0, 1) := by decide +kernel
theorem dX12_readsStep_200 : decode cX12_readsStep 200 = .ok (.getfield 120, 3) := by decide +kernel
theorem dX12_readsStep_203 : decode cX12_readsStep 203 = .ok (.iload 6, 2) := by decide +kernel
theorem dX12_readsStep_205 : decode cX12_readsStep 205 = .ok (.iconst 1, 1) := by decide +kernel
theorem dX12_readsStep_206 : decode cX12_readsStep 206 = .ok (.iadd, 1) := by decide +kernel
theorem dX12_readsStep_207 : decode cX12_readsStep 207 = .ok (.iload 4, 2) := by decide +kernel
theorem dX12_readsStep_209 : decode cX12_readsStep 209 = .ok (.iastore, 1) := by decide +kernel
theorem dX12_readsStep_210 : decode cX12_readsStep 210 = .ok (.aload_n 0, 1) := by decide +kernel
theorem dX12_readsStep_211 : decode cX12_readsStep 211 = .ok (.getfield 120, 3) := by decide +kernel
theorem dX12_readsStep_214 : decode cX12_readsStep 214 = .ok (.iload 6, 2) := by decide +kernel
theorem dX12_readsStep_216 : decode cX12_readsStep 216 = .ok (.iconst 2, 1) := by decide +kernel
theorem dX12_readsStep_217 : decode cX12_readsStep 217 = .ok (.iadd, 1) := by decide +kernel
theorem dX12_readsStep_218 : decode cX12_readsStep 218 = .ok (.iload 5, 2) := by decide +kernel
theorem dX12_readsStep_220 : decode cX12_readsStep 220 = .ok (.iastore, 1) := by decide +kernel
theorem dX12_readsStep_221 : decode cX12_readsStep 221 = .ok (.aload_n 0, 1) := by decide +kernel
theorem dX12_readsStep_222 : decode cX12_readsStep 222 = .ok (.getfield 117, 3) := by decide +kernel
theorem dX12_readsStep_225 : decode cX12_readsStep 225 = .ok (.aload_n 0, 1) := by decide +kernel
theorem dX12_readsStep_226 : decode cX12_readsStep 226 = .ok (.getfield 69, 3) := by decide +kernel
theorem dX12_readsStep_229 : decode cX12_readsStep 229 = .ok (.dup2, 1) := by decide +kernel
theorem dX12_readsStep_230 : decode cX12_readsStep 230 = .ok (.iaload, 1) := by decide +kernel
theorem dX12_readsStep_231 : decode cX12_readsStep 231 = .ok (.iconst 1, 1) := by decide +kernel
theorem dX12_readsStep_232 : decode cX12_readsStep 232 = .ok (.iadd, 1) := by decide +kernel
theorem dX12_readsStep_233 : decode cX12_readsStep 233 = .ok (.iastore, 1) := by decide +kernel
theorem dX12_readsStep_234 : decode cX12_readsStep 234 = .ok (.return_, 1) := by decide +kernel
theorem dX12_readsProcess_0 : decode cX12_readsProcess 0 = .ok (.aload_n 0, 1) := by decide +kernel
theorem dX12_readsProcess_1 : decode cX12_readsProcess 1 = .ok (.getfield 69, 3) := by decide +kernel
theorem dX12_readsProcess_4 : decode cX12_readsProcess 4 = .ok (.bipush 6, 2) := by decide +kernel
theorem dX12_readsProcess_6 : decode cX12_readsProcess 6 = .ok (.if_icmp .ne 12, 3) := by decide +kernel
theorem dX12_readsProcess_9 : decode cX12_readsProcess 9 = .ok (.aload_n 0, 1) := by decide +kernel
theorem dX12_readsProcess_10 : decode cX12_readsProcess 10 = .ok (.iconst 5, 1) := by decide +kernel
theorem dX12_readsProcess_11 : decode cX12_readsProcess 11 = .ok (.aload_n 0, 1) := by decide +kernel
theorem dX12_readsProcess_12 : decode cX12_readsProcess 12 = .ok (.getfield 147, 3) := by decide +kernel
theorem dX12_readsProcess_15 : decode cX12_readsProcess 15 = .ok (.invokevirtual 249, 3) := by decide +kernel
theorem dX12_readsProcess_18 : decode cX12_readsProcess 18 = .ok (.aload_n 0, 1) := by decide +kernel
theorem dX12_readsProcess_19 : decode cX12_readsProcess 19 = .ok (.invokevirtual 235, 3) := by decide +kernel
theorem dX12_readsProcess_22 : decode cX12_readsProcess 22 = .ok (.ifCond .ne 4, 3) := by decide +kernel
theorem dX12_readsProcess_25 : decode cX12_readsProcess 25 = .ok (.return_, 1) := by decide +kernel
theorem dX12_readsProcess_26 : decode cX12_readsProcess 26 = .ok (.aload_n 0, 1) := by decide +kernel
theorem dX12_readsProcess_27 : decode cX12_readsProcess 27 = .ok (.invokevirtual 283, 3) := by decide +kernel
theorem dX12_readsProcess_30 : decode cX12_readsProcess 30 = .ok (.aload_n 0, 1) := by decide +kernel
theorem dX12_readsProcess_31 : decode cX12_readsProcess 31 = .ok (.getfield 114, 3) := by decide +kernel
theorem dX12_readsProcess_34 : decode cX12_readsProcess 34 = .ok (.aload_n 0, 1) := by decide +kernel
theorem dX12_readsProcess_35 : decode cX12_readsProcess 35 = .ok (.getfield 69, 3) := by decide +kernel
theorem dX12_readsProcess_38 : decode cX12_readsProcess 38 = .ok (.iload_n 1, 1) := by decide +kernel
theorem dX12_readsProcess_39 : decode cX12_readsProcess 39 = .ok (.ifCond .eq 7, 3) := by decide +kernel
theorem dX12_readsProcess_42 : decode cX12_readsProcess 42 = .ok (.iconst 1, 1) := by decide +kernel
theorem dX12_readsProcess_43 : decode cX12_readsProcess 43 = .ok (.goto 4, 3) := by decide +kernel
theorem dX12_readsProcess_46 : decode cX12_readsProcess 46 = .ok (.iconst 0, 1) := by decide +kernel
theorem dX12_readsProcess_47 : decode cX12_readsProcess 47 = .ok (.iastore, 1) := by decide +kernel
theorem dX12_readsProcess_48 : decode cX12_readsProcess 48 = .ok (.aload_n 0, 1) := by decide +kernel
theorem dX12_readsProcess_49 : decode cX12_readsProcess 49 = .ok (.getfield 117, 3) := by decide +kernel
theorem dX12_readsProcess_52 : decode cX12_readsProcess 52 = .ok (.aload_n 0, 1) := by decide +kernel
theorem dX12_readsProcess_53 : decode cX12_readsProcess 53 = .ok (.getfield 69, 3) := by decide +kernel
theorem dX12_readsProcess_56 : decode cX12_readsProcess 56 = .ok (.iconst 0, 1) := by decide +kernel
theorem dX12_readsProcess_57 : decode cX12_readsProcess 57 = .ok (.iastore, 1) := by decide +kernel
theorem dX12_readsProcess_58 : decode cX12_readsProcess 58 = .ok (.aload_n 0, 1) := by decide +kernel
theorem dX12_readsProcess_59 : decode cX12_readsProcess 59 = .ok (.getfield 108, 3) := by decide +kernel
theorem dX12_readsProcess_62 : decode cX12_readsProcess 62 = .ok (.aload_n 0, 1) := by decide +kernel
theorem dX12_readsProcess_63 : decode cX12_readsProcess 63 = .ok (.getfield 69, 3) := by decide +kernel
theorem dX12_readsProcess_66 : decode cX12_readsProcess 66 = .ok (.aload_n 0, 1) := by decide +kernel
theorem dX12_readsProcess_67 : decode cX12_readsProcess 67 = .ok (.bipush 11, 2) := by decide +kernel
theorem dX12_readsProcess_69 : decode cX12_readsProcess 69 = .ok (.iconst 1, 1) := by decide +kernel
theorem dX12_readsProcess_70 : decode cX12_readsProcess 70 = .ok (.bipush 100, 2) := by decide +kernel
theorem dX12_readsProcess_72 : decode cX12_readsProcess 72 = .ok (.invokevirtual 279, 3) := by decide +kernel
theorem dX12_readsProcess_75 : decode cX12_readsProcess 75 = .ok (.iastore, 1) := by decide +kernel
theorem dX12_readsProcess_76 : decode cX12_readsProcess 76 = .ok (.aload_n 0, 1) := by decide +kernel
theorem dX12_readsProcess_77 : decode cX12_readsProcess 77 = .ok (.getfield 111, 3) := by decide +kernel
theorem dX12_readsProcess_80 : decode cX12_readsProcess 80 = .ok (.aload_n 0, 1) := by decide +kernel
theorem dX12_readsProcess_81 : decode cX12_readsProcess 81 = .ok (.getfield 69, 3) := by decide +kernel
theorem dX12_readsProcess_84 : decode cX12_readsProcess 84 = .ok (.aload_n 0, 1) := by decide +kernel
theorem dX12_readsProcess_85 : decode cX12_readsProcess 85 = .ok (.bipush 12, 2) := by decide +kernel
theorem dX12_readsProcess_87 : decode cX12_readsProcess 87 = .ok (.iconst 0, 1) := by decide +kernel
theorem dX12_readsProcess_88 : decode cX12_readsProcess 88 = .ok (.sipush 999, 3) := by decide +kernel
theorem dX12_readsProcess_91 : decode cX12_readsProcess 91 = .ok (.invokevirtual 279, 3) := by decide +kernel
theorem dX12_readsProcess_94 : decode cX12_readsProcess 94 = .ok (.iastore, 1) := by decide +kernel
theorem dX12_readsProcess_95 : decode cX12_readsProcess 95 = .ok (.aload_n 0, 1) := by decide +kernel
theorem dX12_readsProcess_96 : decode cX12_readsProcess 96 = .ok (.bipush 13, 2) := by decide +kernel
theorem dX12_readsProcess_98 : decode cX12_readsProcess 98 = .ok (.invokevirtual 266, 3) := by decide +kernel
theorem dX12_readsProcess_101 : decode cX12_readsProcess 101 = .ok (.aload_n 0, 1) := by decide +kernel
theorem dX12_readsProcess_102 : decode cX12_readsProcess 102 = .ok (.invokevirtual 286, 3) := by decide +kernel
theorem dX12_readsProcess_105 : decode cX12_readsProcess 105 = .ok (.aload_n 0, 1) := by decide +kernel
theorem dX12_readsProcess_106 : decode cX12_readsProcess 106 = .ok (.bipush 44, 2) := by decide +kernel
theorem dX12_readsProcess_108 : decode cX12_readsProcess 108 = .ok (.invokevirtual 259, 3) := by decide +kernel
theorem dX12_readsProcess_111 : decode cX12_readsProcess 111 = .ok (.ifCond .eq 10, 3) := by decide +kernel
theorem dX12_readsProcess_114 : decode cX12_readsProcess 114 = .ok (.aload_n 0, 1) := by decide +kernel
theorem dX12_readsProcess_115 : decode cX12_readsProcess 115 = .ok (.invokevirtual 286, 3) := by decide +kernel
theorem dX12_readsProcess_118 : decode cX12_readsProcess 118 = .ok (.goto (-13), 3) := by decide +kernel
theorem dX12_readsProcess_121 : decode cX12_readsProcess 121 = .ok (.aload_n 0, 1) := by decide +kernel
theorem dX12_readsProcess_122 : decode cX12_readsProcess 122 = .ok (.dup, 1) := by decide +kernel
theorem dX12_readsProcess_123 : decode cX12_readsProcess 123 = .ok (.getfield 69, 3) := by decide +kernel
theorem dX12_readsProcess_126 : decode cX12_readsProcess 126 = .ok (.iconst 1, 1) := by decide +kernel
theorem dX12_readsProcess_127 : decode cX12_readsProcess 127 = .ok (.iadd, 1) := by decide +kernel
theorem dX12_readsProcess_128 : decode cX12_readsProcess 128 = .ok (.putfield 69, 3) := by decide +kernel
theorem dX12_readsProcess_131 : decode cX12_readsProcess 131 = .ok (.return_, 1) := by decide +kernel
theorem dX12_once_0 : decode cX12_once 0 = .ok (.aload_n 0, 1) := by decide +kernel
theorem dX12_once_1 : decode cX12_once 1 = .ok (.invokevirtual 235, 3) := by decide +kernel
theorem dX12_once_4 : decode cX12_once 4 = .ok (.ifCond .ne 5, 3) := by decide +kernel
theorem dX12_once_7 : decode cX12_once 7 = .ok (.iconst 0, 1) := by decide +kernel
theorem dX12_once_8 : decode cX12_once 8 = .ok (.ireturn, 1) := by decide +kernel
theorem dX12_once_9 : decode cX12_once 9 = .ok (.iconst 1, 1) := by decide +kernel
theorem dX12_once_10 : decode cX12_once 10 = .ok (.iload_n 1, 1) := by decide +kernel
theorem dX12_once_11 : decode cX12_once 11 = .ok (.ishl, 1) := by decide +kernel
theorem dX12_once_12 : decode cX12_once 12 = .ok (.istore_n 2, 1) := by decide +kernel
theorem dX12_once_13 : decode cX12_once 13 = .ok (.aload_n 0, 1) := by decide +kernel
theorem dX12_once_14 : decode cX12_once 14 = .ok (.getfield 105, 3) := by decide +kernel
theorem dX12_once_17 : decode cX12_once 17 = .ok (.iload_n 2, 1) := by decide +kernel
theorem dX12_once_18 : decode cX12_once 18 = .ok (.iand, 1) := by decide +kernel
theorem dX12_once_19 : decode cX12_once 19 = .ok (.ifCond .eq 12, 3) := by decide +kernel
theorem dX12_once_22 : decode cX12_once 22 = .ok (.aload_n 0, 1) := by decide +kernel
theorem dX12_once_23 : decode cX12_once 23 = .ok (.iconst 5, 1) := by decide +kernel
theorem dX12_once_24 : decode cX12_once 24 = .ok (.aload_n 0, 1) := by decide +kernel
theorem dX12_once_25 : decode cX12_once 25 = .ok (.getfield 147, 3) := by decide +kernel
theorem dX12_once_28 : decode cX12_once 28 = .ok (.invokevirtual 249, 3) := by decide +kernel
theorem dX12_once_31 : decode cX12_once 31 = .ok (.aload_n 0, 1) := by decide +kernel
theorem dX12_once_32 : decode cX12_once 32 = .ok (.dup, 1) := by decide +kernel
theorem dX12_once_33 : decode cX12_once 33 = .ok (.getfield 105, 3) := by decide +kernel
theorem dX12_once_36 : decode cX12_once 36 = .ok (.iload_n 2, 1) := by decide +kernel
theorem dX12_once_37 : decode cX12_once 37 = .ok (.ior, 1) := by decide +kernel
theorem dX12_once_38 : decode cX12_once 38 = .ok (.putfield 105, 3) := by decide +kernel
theorem dX12_once_41 : decode cX12_once 41 = .ok (.aload_n 0, 1) := by decide +kernel
theorem dX12_once_42 : decode cX12_once 42 = .ok (.invokevirtual 235, 3) := by decide +kernel
theorem dX12_once_45 : decode cX12_once 45 = .ok (.ireturn, 1) := by decide +kernel
theorem dX12_readsOne_0 : decode cX12_readsOne 0 = .ok (.iload_n 1, 1) := by decide +kernel
