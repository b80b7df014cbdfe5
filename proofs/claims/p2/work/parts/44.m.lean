set_option maxRecDepth 200000 in
theorem w_1878 : Cond.code yX12_setLeft cX12_setLeft 9 none ∈ tb := tb_mem 1878 (by rfl) rfl
set_option maxRecDepth 200000 in
theorem w_1877 : Cond.instanceMethod yX12_setLeft ∈ tb := tb_mem 1877 (by decide +kernel) rfl
set_option maxRecDepth 200000 in
theorem w_55 : Cond.selects "CityRoadModel" yX12_setLeft yX12_setLeft ∈ tb := tb_mem 55 (by decide +kernel) rfl
set_option maxRecDepth 200000 in
theorem w_1875 : Cond.methodLink "CityRoadModel" 331 yX12_setLeft ∈ tb := tb_mem 1875 (by decide +kernel) rfl
set_option maxRecDepth 200000 in
theorem w_1870 : Cond.code yX12_costOf cX12_costOf 4 (some .int) ∈ tb := tb_mem 1870 (by rfl) rfl
set_option maxRecDepth 200000 in
theorem w_1869 : Cond.instanceMethod yX12_costOf ∈ tb := tb_mem 1869 (by decide +kernel) rfl
set_option maxRecDepth 200000 in
theorem w_53 : Cond.selects "CityRoadModel" yX12_costOf yX12_costOf ∈ tb := tb_mem 53 (by decide +kernel) rfl
set_option maxRecDepth 200000 in
theorem w_1867 : Cond.methodLink "CityRoadModel" 325 yX12_costOf ∈ tb := tb_mem 1867 (by decide +kernel) rfl
set_option maxRecDepth 200000 in
theorem w_1506 : Cond.fieldLink "CityRoadModel" 104 "CityRoadModel" "paid" "[I" ∈ tb := tb_mem 1506 (by decide +kernel) rfl
set_option maxRecDepth 200000 in
theorem w_1507 : Cond.fieldLink "CityRoadModel" 107 "CityRoadModel" "whom" "[I" ∈ tb := tb_mem 1507 (by decide +kernel) rfl
set_option maxRecDepth 200000 in
theorem w_1508 : Cond.fieldLink "CityRoadModel" 110 "CityRoadModel" "lived" "[J" ∈ tb := tb_mem 1508 (by decide +kernel) rfl
set_option maxRecDepth 200000 in
theorem w_1846 : Cond.code yX12_hasRoom cX12_hasRoom 2 (some .boolean) ∈ tb := tb_mem 1846 (by rfl) rfl
set_option maxRecDepth 200000 in
theorem w_1845 : Cond.instanceMethod yX12_hasRoom ∈ tb := tb_mem 1845 (by decide +kernel) rfl
set_option maxRecDepth 200000 in
theorem w_50 : Cond.selects "CityRoadModel" yX12_hasRoom yX12_hasRoom ∈ tb := tb_mem 50 (by decide +kernel) rfl
set_option maxRecDepth 200000 in
theorem w_1843 : Cond.methodLink "CityRoadModel" 293 yX12_hasRoom ∈ tb := tb_mem 1843 (by decide +kernel) rfl
theorem gdX12_line_26 : decode cX12_line 26 = .ok (.iconst (-1), 1) := by decide +kernel
theorem gdX12_line_27 : decode cX12_line 27 = .ok (.ireturn, 1) := by decide +kernel
theorem gdX12_line_102 : decode cX12_line 102 = .ok (.aload_n 0, 1) := by decide +kernel
theorem gdX12_line_103 : decode cX12_line 103 = .ok (.iconst 3, 1) := by decide +kernel
theorem gdX12_line_104 : decode cX12_line 104 = .ok (.invokevirtual 216, 3) := by decide +kernel
theorem gdX12_line_107 : decode cX12_line 107 = .ok (.ireturn, 1) := by decide +kernel
theorem gdX12_line_134 : decode cX12_line 134 = .ok (.bipush (-4), 2) := by decide +kernel
theorem gdX12_line_136 : decode cX12_line 136 = .ok (.ireturn, 1) := by decide +kernel
theorem gdX12_line_426 : decode cX12_line 426 = .ok (.iload 5, 2) := by decide +kernel
theorem gdX12_line_428 : decode cX12_line 428 = .ok (.ireturn, 1) := by decide +kernel
theorem gdX12_line_384 : decode cX12_line 384 = .ok (.iload 8, 2) := by decide +kernel
theorem gdX12_line_386 : decode cX12_line 386 = .ok (.istore 6, 2) := by decide +kernel
theorem gdX12_line_388 : decode cX12_line 388 = .ok (.iload 9, 2) := by decide +kernel
theorem gdX12_line_390 : decode cX12_line 390 = .ok (.istore 7, 2) := by decide +kernel
theorem gdX12_line_392 : decode cX12_line 392 = .ok (.aload_n 0, 1) := by decide +kernel
theorem gdX12_line_393 : decode cX12_line 393 = .ok (.getfield 101, 3) := by decide +kernel
theorem gdX12_line_396 : decode cX12_line 396 = .ok (.bipush 64, 2) := by decide +kernel
theorem gdX12_line_398 : decode cX12_line 398 = .ok (.iload 5, 2) := by decide +kernel
theorem gdX12_line_400 : decode cX12_line 400 = .ok (.imul, 1) := by decide +kernel
theorem gdX12_line_401 : decode cX12_line 401 = .ok (.aload_n 0, 1) := by decide +kernel
theorem gdX12_line_402 : decode cX12_line 402 = .ok (.getfield 98, 3) := by decide +kernel
theorem gdX12_line_405 : decode cX12_line 405 = .ok (.iload 5, 2) := by decide +kernel
theorem gdX12_line_407 : decode cX12_line 407 = .ok (.iaload, 1) := by decide +kernel
theorem gdX12_line_408 : decode cX12_line 408 = .ok (.iadd, 1) := by decide +kernel
theorem gdX12_line_409 : decode cX12_line 409 = .ok (.iload 6, 2) := by decide +kernel
theorem gdX12_line_411 : decode cX12_line 411 = .ok (.iastore, 1) := by decide +kernel
theorem gdX12_line_412 : decode cX12_line 412 = .ok (.aload_n 0, 1) := by decide +kernel
theorem gdX12_line_413 : decode cX12_line 413 = .ok (.getfield 98, 3) := by decide +kernel
theorem gdX12_line_416 : decode cX12_line 416 = .ok (.iload 5, 2) := by decide +kernel
theorem gdX12_line_418 : decode cX12_line 418 = .ok (.dup2, 1) := by decide +kernel
theorem gdX12_line_419 : decode cX12_line 419 = .ok (.iaload, 1) := by decide +kernel
theorem gdX12_line_420 : decode cX12_line 420 = .ok (.iconst 1, 1) := by decide +kernel
theorem gdX12_line_421 : decode cX12_line 421 = .ok (.iadd, 1) := by decide +kernel
theorem gdX12_line_422 : decode cX12_line 422 = .ok (.iastore, 1) := by decide +kernel
theorem gdX12_line_423 : decode cX12_line 423 = .ok (.goto (-147), 3) := by decide +kernel
theorem gdX12_line_378 : decode cX12_line 378 = .ok (.iinc 10 1, 3) := by decide +kernel
theorem gdX12_line_381 : decode cX12_line 381 = .ok (.goto (-89), 3) := by decide +kernel
theorem gdX12_line_292 : decode cX12_line 292 = .ok (.iload 10, 2) := by decide +kernel
theorem gdX12_line_294 : decode cX12_line 294 = .ok (.iconst 4, 1) := by decide +kernel
theorem gdX12_line_295 : decode cX12_line 295 = .ok (.if_icmp .ge 89, 3) := by decide +kernel
theorem gdX12_line_298 : decode cX12_line 298 = .ok (.iload 8, 2) := by decide +kernel
theorem gdX12_line_300 : decode cX12_line 300 = .ok (.ifCond .ge 84, 3) := by decide +kernel
theorem gdX12_line_303 : decode cX12_line 303 = .ok (.iload 6, 2) := by decide +kernel
theorem gdX12_line_305 : decode cX12_line 305 = .ok (.iload 10, 2) := by decide +kernel
theorem gdX12_line_307 : decode cX12_line 307 = .ok (.invokestatic 315, 3) := by decide +kernel
theorem gdX12_line_310 : decode cX12_line 310 = .ok (.istore 11, 2) := by decide +kernel
theorem gdX12_line_312 : decode cX12_line 312 = .ok (.aload_n 0, 1) := by decide +kernel
theorem gdX12_line_313 : decode cX12_line 313 = .ok (.iload 6, 2) := by decide +kernel
theorem gdX12_line_315 : decode cX12_line 315 = .ok (.iload 11, 2) := by decide +kernel
theorem gdX12_line_317 : decode cX12_line 317 = .ok (.iload 4, 2) := by decide +kernel
theorem gdX12_line_319 : decode cX12_line 319 = .ok (.invokevirtual 318, 3) := by decide +kernel
theorem gdX12_line_322 : decode cX12_line 322 = .ok (.ifCond .eq 56, 3) := by decide +kernel
theorem gdX12_line_325 : decode cX12_line 325 = .ok (.aload_n 0, 1) := by decide +kernel
theorem gdX12_line_326 : decode cX12_line 326 = .ok (.getfield 123, 3) := by decide +kernel
theorem gdX12_line_329 : decode cX12_line 329 = .ok (.iconst 5, 1) := by decide +kernel
theorem gdX12_line_330 : decode cX12_line 330 = .ok (.iload 11, 2) := by decide +kernel
theorem gdX12_line_332 : decode cX12_line 332 = .ok (.imul, 1) := by decide +kernel
theorem gdX12_line_333 : decode cX12_line 333 = .ok (.iload 10, 2) := by decide +kernel
theorem gdX12_line_335 : decode cX12_line 335 = .ok (.iadd, 1) := by decide +kernel
theorem gdX12_line_336 : decode cX12_line 336 = .ok (.iaload, 1) := by decide +kernel
theorem gdX12_line_337 : decode cX12_line 337 = .ok (.ldc_w 314, 3) := by decide +kernel
theorem gdX12_line_340 : decode cX12_line 340 = .ok (.if_icmp .ge 38, 3) := by decide +kernel
theorem gdX12_line_343 : decode cX12_line 343 = .ok (.aload_n 0, 1) := by decide +kernel
theorem gdX12_line_344 : decode cX12_line 344 = .ok (.iload 6, 2) := by decide +kernel
theorem gdX12_line_346 : decode cX12_line 346 = .ok (.iload 7, 2) := by decide +kernel
theorem gdX12_line_348 : decode cX12_line 348 = .ok (.iload 10, 2) := by decide +kernel
theorem gdX12_line_350 : decode cX12_line 350 = .ok (.iload 11, 2) := by decide +kernel
theorem gdX12_line_352 : decode cX12_line 352 = .ok (.invokevirtual 321, 3) := by decide +kernel
theorem gdX12_line_355 : decode cX12_line 355 = .ok (.aload_n 0, 1) := by decide +kernel
theorem gdX12_line_356 : decode cX12_line 356 = .ok (.getfield 123, 3) := by decide +kernel
theorem gdX12_line_359 : decode cX12_line 359 = .ok (.iconst 5, 1) := by decide +kernel
theorem gdX12_line_360 : decode cX12_line 360 = .ok (.iload 6, 2) := by decide +kernel
theorem gdX12_line_362 : decode cX12_line 362 = .ok (.imul, 1) := by decide +kernel
theorem gdX12_line_363 : decode cX12_line 363 = .ok (.iload 7, 2) := by decide +kernel
theorem gdX12_line_365 : decode cX12_line 365 = .ok (.iadd, 1) := by decide +kernel
theorem gdX12_line_366 : decode cX12_line 366 = .ok (.iaload, 1) := by decide +kernel
theorem gdX12_line_367 : decode cX12_line 367 = .ok (.if_icmp .ne 11, 3) := by decide +kernel
theorem gdX12_line_370 : decode cX12_line 370 = .ok (.iload 11, 2) := by decide +kernel
theorem gdX12_line_372 : decode cX12_line 372 = .ok (.istore 8, 2) := by decide +kernel
theorem gdX12_line_374 : decode cX12_line 374 = .ok (.iload 10, 2) := by decide +kernel
theorem gdX12_line_376 : decode cX12_line 376 = .ok (.istore 9, 2) := by decide +kernel
theorem gdX12_line_276 : decode cX12_line 276 = .ok (.iload 6, 2) := by decide +kernel
theorem gdX12_line_278 : decode cX12_line 278 = .ok (.iload_n 2, 1) := by decide +kernel
theorem gdX12_line_279 : decode cX12_line 279 = .ok (.if_icmp .eq 147, 3) := by decide +kernel
theorem gdX12_line_282 : decode cX12_line 282 = .ok (.bipush (-9), 2) := by decide +kernel
theorem gdX12_line_284 : decode cX12_line 284 = .ok (.istore 8, 2) := by decide +kernel
theorem gdX12_line_286 : decode cX12_line 286 = .ok (.iconst 0, 1) := by decide +kernel
theorem gdX12_line_287 : decode cX12_line 287 = .ok (.istore 9, 2) := by decide +kernel
theorem gdX12_line_289 : decode cX12_line 289 = .ok (.iconst 0, 1) := by decide +kernel
theorem gdX12_line_290 : decode cX12_line 290 = .ok (.istore 10, 2) := by decide +kernel
theorem gdX12_line_182 : decode cX12_line 182 = .ok (.aload_n 0, 1) := by decide +kernel
theorem gdX12_line_183 : decode cX12_line 183 = .ok (.iconst 0, 1) := by decide +kernel
theorem gdX12_line_184 : decode cX12_line 184 = .ok (.invokevirtual 328, 3) := by decide +kernel
theorem gdX12_line_187 : decode cX12_line 187 = .ok (.istore 4, 2) := by decide +kernel
theorem gdX12_line_189 : decode cX12_line 189 = .ok (.aload_n 0, 1) := by decide +kernel
theorem gdX12_line_190 : decode cX12_line 190 = .ok (.iload_n 2, 1) := by decide +kernel
theorem gdX12_line_191 : decode cX12_line 191 = .ok (.iload 4, 2) := by decide +kernel
theorem gdX12_line_193 : decode cX12_line 193 = .ok (.invokevirtual 331, 3) := by decide +kernel
theorem gdX12_line_196 : decode cX12_line 196 = .ok (.aload_n 0, 1) := by decide +kernel
theorem gdX12_line_197 : decode cX12_line 197 = .ok (.getfield 123, 3) := by decide +kernel
theorem gdX12_line_200 : decode cX12_line 200 = .ok (.iconst 5, 1) := by decide +kernel
theorem gdX12_line_201 : decode cX12_line 201 = .ok (.iload_n 1, 1) := by decide +kernel
theorem gdX12_line_202 : decode cX12_line 202 = .ok (.imul, 1) := by decide +kernel
theorem gdX12_line_203 : decode cX12_line 203 = .ok (.iconst 4, 1) := by decide +kernel
theorem gdX12_line_204 : decode cX12_line 204 = .ok (.iadd, 1) := by decide +kernel
theorem gdX12_line_205 : decode cX12_line 205 = .ok (.iaload, 1) := by decide +kernel
theorem gdX12_line_206 : decode cX12_line 206 = .ok (.ldc_w 314, 3) := by decide +kernel
theorem gdX12_line_209 : decode cX12_line 209 = .ok (.if_icmp .ne 9, 3) := by decide +kernel
theorem gdX12_line_218 : decode cX12_line 218 = .ok (.aload_n 0, 1) := by decide +kernel
theorem gdX12_line_219 : decode cX12_line 219 = .ok (.iconst 1, 1) := by decide +kernel
theorem gdX12_line_220 : decode cX12_line 220 = .ok (.bipush (-9), 2) := by decide +kernel
theorem gdX12_line_222 : decode cX12_line 222 = .ok (.invokevirtual 334, 3) := by decide +kernel
theorem gdX12_line_225 : decode cX12_line 225 = .ok (.istore 5, 2) := by decide +kernel
theorem gdX12_line_227 : decode cX12_line 227 = .ok (.aload_n 0, 1) := by decide +kernel
theorem gdX12_line_228 : decode cX12_line 228 = .ok (.getfield 92, 3) := by decide +kernel
theorem gdX12_line_231 : decode cX12_line 231 = .ok (.iload 5, 2) := by decide +kernel
theorem gdX12_line_233 : decode cX12_line 233 = .ok (.aload_n 0, 1) := by decide +kernel
theorem gdX12_line_234 : decode cX12_line 234 = .ok (.getfield 126, 3) := by decide +kernel
theorem gdX12_line_237 : decode cX12_line 237 = .ok (.iload_n 1, 1) := by decide +kernel
theorem gdX12_line_238 : decode cX12_line 238 = .ok (.iaload, 1) := by decide +kernel
theorem gdX12_line_239 : decode cX12_line 239 = .ok (.aload_n 0, 1) := by decide +kernel
theorem gdX12_line_240 : decode cX12_line 240 = .ok (.getfield 123, 3) := by decide +kernel
theorem gdX12_line_243 : decode cX12_line 243 = .ok (.iconst 5, 1) := by decide +kernel
theorem gdX12_line_244 : decode cX12_line 244 = .ok (.iload_n 1, 1) := by decide +kernel
theorem gdX12_line_245 : decode cX12_line 245 = .ok (.imul, 1) := by decide +kernel
theorem gdX12_line_246 : decode cX12_line 246 = .ok (.iconst 4, 1) := by decide +kernel
theorem gdX12_line_247 : decode cX12_line 247 = .ok (.iadd, 1) := by decide +kernel
theorem gdX12_line_248 : decode cX12_line 248 = .ok (.iaload, 1) := by decide +kernel
theorem gdX12_line_249 : decode cX12_line 249 = .ok (.iadd, 1) := by decide +kernel
theorem gdX12_line_250 : decode cX12_line 250 = .ok (.iastore, 1) := by decide +kernel
theorem gdX12_line_251 : decode cX12_line 251 = .ok (.iload_n 1, 1) := by decide +kernel
theorem gdX12_line_252 : decode cX12_line 252 = .ok (.istore 6, 2) := by decide +kernel
theorem gdX12_line_254 : decode cX12_line 254 = .ok (.iconst 4, 1) := by decide +kernel
theorem gdX12_line_255 : decode cX12_line 255 = .ok (.istore 7, 2) := by decide +kernel
theorem gdX12_line_257 : decode cX12_line 257 = .ok (.aload_n 0, 1) := by decide +kernel
theorem gdX12_line_258 : decode cX12_line 258 = .ok (.getfield 101, 3) := by decide +kernel
theorem gdX12_line_261 : decode cX12_line 261 = .ok (.bipush 64, 2) := by decide +kernel
theorem gdX12_line_263 : decode cX12_line 263 = .ok (.iload 5, 2) := by decide +kernel
theorem gdX12_line_265 : decode cX12_line 265 = .ok (.imul, 1) := by decide +kernel
theorem gdX12_line_266 : decode cX12_line 266 = .ok (.iload_n 1, 1) := by decide +kernel
theorem gdX12_line_267 : decode cX12_line 267 = .ok (.iastore, 1) := by decide +kernel
theorem gdX12_line_268 : decode cX12_line 268 = .ok (.aload_n 0, 1) := by decide +kernel
theorem gdX12_line_269 : decode cX12_line 269 = .ok (.getfield 98, 3) := by decide +kernel
theorem gdX12_line_272 : decode cX12_line 272 = .ok (.iload 5, 2) := by decide +kernel
theorem gdX12_line_274 : decode cX12_line 274 = .ok (.iconst 1, 1) := by decide +kernel
theorem gdX12_line_275 : decode cX12_line 275 = .ok (.iastore, 1) := by decide +kernel
theorem gdX12_line_212 : decode cX12_line 212 = .ok (.aload_n 0, 1) := by decide +kernel
theorem gdX12_line_213 : decode cX12_line 213 = .ok (.iconst 1, 1) := by decide +kernel
theorem gdX12_line_214 : decode cX12_line 214 = .ok (.invokevirtual 216, 3) := by decide +kernel
theorem gdX12_line_217 : decode cX12_line 217 = .ok (.ireturn, 1) := by decide +kernel
theorem gdX12_line_175 : decode cX12_line 175 = .ok (.iastore, 1) := by decide +kernel
theorem gdX12_line_176 : decode cX12_line 176 = .ok (.iinc 4 1, 3) := by decide +kernel
theorem gdX12_line_179 : decode cX12_line 179 = .ok (.goto (-39), 3) := by decide +kernel
theorem gdX12_line_140 : decode cX12_line 140 = .ok (.iload 4, 2) := by decide +kernel
theorem gdX12_line_142 : decode cX12_line 142 = .ok (.bipush 64, 2) := by decide +kernel
theorem gdX12_line_144 : decode cX12_line 144 = .ok (.if_icmp .ge 38, 3) := by decide +kernel
theorem gdX12_line_147 : decode cX12_line 147 = .ok (.aload_n 0, 1) := by decide +kernel
theorem gdX12_line_148 : decode cX12_line 148 = .ok (.getfield 126, 3) := by decide +kernel
theorem gdX12_line_151 : decode cX12_line 151 = .ok (.iload 4, 2) := by decide +kernel
theorem gdX12_line_153 : decode cX12_line 153 = .ok (.aload_n 0, 1) := by decide +kernel
theorem gdX12_line_154 : decode cX12_line 154 = .ok (.getfield 40, 3) := by decide +kernel
theorem gdX12_line_157 : decode cX12_line 157 = .ok (.iload 4, 2) := by decide +kernel
theorem gdX12_line_159 : decode cX12_line 159 = .ok (.iaload, 1) := by decide +kernel
theorem gdX12_line_160 : decode cX12_line 160 = .ok (.iconst 4, 1) := by decide +kernel
theorem gdX12_line_161 : decode cX12_line 161 = .ok (.if_icmp .ne 7, 3) := by decide +kernel
theorem gdX12_line_168 : decode cX12_line 168 = .ok (.aload_n 0, 1) := by decide +kernel
theorem gdX12_line_169 : decode cX12_line 169 = .ok (.iload 4, 2) := by decide +kernel
theorem gdX12_line_171 : decode cX12_line 171 = .ok (.iload_n 3, 1) := by decide +kernel
theorem gdX12_line_172 : decode cX12_line 172 = .ok (.invokevirtual 325, 3) := by decide +kernel
theorem gdX12_line_164 : decode cX12_line 164 = .ok (.iconst 0, 1) := by decide +kernel
theorem gdX12_line_165 : decode cX12_line 165 = .ok (.goto 10, 3) := by decide +kernel
theorem gdX12_line_114 : decode cX12_line 114 = .ok (.aload_n 0, 1) := by decide +kernel
theorem gdX12_line_115 : decode cX12_line 115 = .ok (.getfield 40, 3) := by decide +kernel
theorem gdX12_line_118 : decode cX12_line 118 = .ok (.iload_n 1, 1) := by decide +kernel
theorem gdX12_line_119 : decode cX12_line 119 = .ok (.iaload, 1) := by decide +kernel
theorem gdX12_line_120 : decode cX12_line 120 = .ok (.iconst 4, 1) := by decide +kernel
theorem gdX12_line_121 : decode cX12_line 121 = .ok (.if_icmp .eq 13, 3) := by decide +kernel
theorem gdX12_line_124 : decode cX12_line 124 = .ok (.aload_n 0, 1) := by decide +kernel
theorem gdX12_line_125 : decode cX12_line 125 = .ok (.getfield 40, 3) := by decide +kernel
theorem gdX12_line_128 : decode cX12_line 128 = .ok (.iload_n 2, 1) := by decide +kernel
theorem gdX12_line_129 : decode cX12_line 129 = .ok (.iaload, 1) := by decide +kernel
theorem gdX12_line_130 : decode cX12_line 130 = .ok (.iconst 4, 1) := by decide +kernel
theorem gdX12_line_131 : decode cX12_line 131 = .ok (.if_icmp .ne 6, 3) := by decide +kernel
theorem gdX12_line_137 : decode cX12_line 137 = .ok (.iconst 0, 1) := by decide +kernel
theorem gdX12_line_138 : decode cX12_line 138 = .ok (.istore 4, 2) := by decide +kernel
theorem gdX12_line_74 : decode cX12_line 74 = .ok (.iload 4, 2) := by decide +kernel
theorem gdX12_line_76 : decode cX12_line 76 = .ok (.iconst 4, 1) := by decide +kernel
theorem gdX12_line_77 : decode cX12_line 77 = .ok (.if_icmp .ge 37, 3) := by decide +kernel
theorem gdX12_line_80 : decode cX12_line 80 = .ok (.aload_n 0, 1) := by decide +kernel
theorem gdX12_line_81 : decode cX12_line 81 = .ok (.getfield 16, 3) := by decide +kernel
theorem gdX12_line_84 : decode cX12_line 84 = .ok (.bipush 40, 2) := by decide +kernel
theorem gdX12_line_86 : decode cX12_line 86 = .ok (.iload_n 3, 1) := by decide +kernel
theorem gdX12_line_87 : decode cX12_line 87 = .ok (.imul, 1) := by decide +kernel
theorem gdX12_line_88 : decode cX12_line 88 = .ok (.iload 4, 2) := by decide +kernel
theorem gdX12_line_90 : decode cX12_line 90 = .ok (.iadd, 1) := by decide +kernel
theorem gdX12_line_91 : decode cX12_line 91 = .ok (.iaload, 1) := by decide +kernel
theorem gdX12_line_92 : decode cX12_line 92 = .ok (.iconst 0, 1) := by decide +kernel
theorem gdX12_line_93 : decode cX12_line 93 = .ok (.sipush 1000, 3) := by decide +kernel
theorem gdX12_line_96 : decode cX12_line 96 = .ok (.invokestatic 208, 3) := by decide +kernel
theorem gdX12_line_99 : decode cX12_line 99 = .ok (.ifCond .ne 9, 3) := by decide +kernel
theorem gdX12_line_108 : decode cX12_line 108 = .ok (.iinc 4 1, 3) := by decide +kernel
theorem gdX12_line_111 : decode cX12_line 111 = .ok (.goto (-37), 3) := by decide +kernel
theorem gdX12_line_0 : decode cX12_line 0 = .ok (.iload_n 1, 1) := by decide +kernel
theorem gdX12_line_1 : decode cX12_line 1 = .ok (.invokestatic 257, 3) := by decide +kernel
theorem gdX12_line_4 : decode cX12_line 4 = .ok (.ifCond .eq 22, 3) := by decide +kernel
theorem gdX12_line_7 : decode cX12_line 7 = .ok (.iload_n 2, 1) := by decide +kernel
theorem gdX12_line_8 : decode cX12_line 8 = .ok (.invokestatic 257, 3) := by decide +kernel
theorem gdX12_line_11 : decode cX12_line 11 = .ok (.ifCond .eq 15, 3) := by decide +kernel
theorem gdX12_line_14 : decode cX12_line 14 = .ok (.iload_n 1, 1) := by decide +kernel
theorem gdX12_line_15 : decode cX12_line 15 = .ok (.iload_n 2, 1) := by decide +kernel
theorem gdX12_line_16 : decode cX12_line 16 = .ok (.if_icmp .eq 10, 3) := by decide +kernel
theorem gdX12_line_19 : decode cX12_line 19 = .ok (.iload_n 3, 1) := by decide +kernel
theorem gdX12_line_20 : decode cX12_line 20 = .ok (.invokestatic 212, 3) := by decide +kernel
theorem gdX12_line_23 : decode cX12_line 23 = .ok (.ifCond .ne 5, 3) := by decide +kernel
theorem gdX12_line_28 : decode cX12_line 28 = .ok (.aload_n 0, 1) := by decide +kernel
theorem gdX12_line_29 : decode cX12_line 29 = .ok (.getfield 305, 3) := by decide +kernel
theorem gdX12_line_32 : decode cX12_line 32 = .ok (.bipush 24, 2) := by decide +kernel
theorem gdX12_line_34 : decode cX12_line 34 = .ok (.if_icmp .ne 6, 3) := by decide +kernel
theorem gdX12_line_40 : decode cX12_line 40 = .ok (.aload_n 0, 1) := by decide +kernel
theorem gdX12_line_41 : decode cX12_line 41 = .ok (.getfield 13, 3) := by decide +kernel
theorem gdX12_line_44 : decode cX12_line 44 = .ok (.iload_n 3, 1) := by decide +kernel
theorem gdX12_line_45 : decode cX12_line 45 = .ok (.iaload, 1) := by decide +kernel
theorem gdX12_line_46 : decode cX12_line 46 = .ok (.ifCond .ge 9, 3) := by decide +kernel
theorem gdX12_line_55 : decode cX12_line 55 = .ok (.aload_n 0, 1) := by decide +kernel
theorem gdX12_line_56 : decode cX12_line 56 = .ok (.getfield 13, 3) := by decide +kernel
theorem gdX12_line_59 : decode cX12_line 59 = .ok (.iload_n 3, 1) := by decide +kernel
theorem gdX12_line_60 : decode cX12_line 60 = .ok (.iaload, 1) := by decide +kernel
theorem gdX12_line_61 : decode cX12_line 61 = .ok (.iconst 4, 1) := by decide +kernel
theorem gdX12_line_62 : decode cX12_line 62 = .ok (.if_icmp .eq 9, 3) := by decide +kernel
theorem gdX12_line_71 : decode cX12_line 71 = .ok (.iconst 0, 1) := by decide +kernel
theorem gdX12_line_72 : decode cX12_line 72 = .ok (.istore 4, 2) := by decide +kernel
theorem gdX12_line_65 : decode cX12_line 65 = .ok (.aload_n 0, 1) := by decide +kernel
theorem gdX12_line_66 : decode cX12_line 66 = .ok (.iconst 5, 1) := by decide +kernel
theorem gdX12_line_67 : decode cX12_line 67 = .ok (.invokevirtual 216, 3) := by decide +kernel
theorem gdX12_line_70 : decode cX12_line 70 = .ok (.ireturn, 1) := by decide +kernel
theorem gdX12_line_49 : decode cX12_line 49 = .ok (.aload_n 0, 1) := by decide +kernel
theorem gdX12_line_50 : decode cX12_line 50 = .ok (.iconst 1, 1) := by decide +kernel
theorem gdX12_line_51 : decode cX12_line 51 = .ok (.invokevirtual 216, 3) := by decide +kernel
theorem gdX12_line_54 : decode cX12_line 54 = .ok (.ireturn, 1) := by decide +kernel
theorem gdX12_line_37 : decode cX12_line 37 = .ok (.bipush (-2), 2) := by decide +kernel
theorem gdX12_line_39 : decode cX12_line 39 = .ok (.ireturn, 1) := by decide +kernel
theorem gdX12_mark_18 : decode cX12_mark 18 = .ok (.iconst (-1), 1) := by decide +kernel
theorem gdX12_mark_19 : decode cX12_mark 19 = .ok (.ireturn, 1) := by decide +kernel
theorem gdX12_mark_65 : decode cX12_mark 65 = .ok (.istore_n 3, 1) := by decide +kernel
theorem gdX12_mark_66 : decode cX12_mark 66 = .ok (.iload_n 3, 1) := by decide +kernel
theorem gdX12_mark_67 : decode cX12_mark 67 = .ok (.ifCond .ne 9, 3) := by decide +kernel
theorem gdX12_mark_76 : decode cX12_mark 76 = .ok (.iload_n 2, 1) := by decide +kernel
theorem gdX12_mark_77 : decode cX12_mark 77 = .ok (.tableswitch 73 1 5 #[35, 42, 52, 59, 66], 35) := by decide +kernel
theorem gdX12_mark_112 : decode cX12_mark 112 = .ok (.aload_n 0, 1) := by decide +kernel
theorem gdX12_mark_113 : decode cX12_mark 113 = .ok (.getfield 98, 3) := by decide +kernel
theorem gdX12_mark_116 : decode cX12_mark 116 = .ok (.iload_n 1, 1) := by decide +kernel
theorem gdX12_mark_117 : decode cX12_mark 117 = .ok (.iaload, 1) := by decide +kernel
theorem gdX12_mark_118 : decode cX12_mark 118 = .ok (.ireturn, 1) := by decide +kernel
theorem gdX12_mark_119 : decode cX12_mark 119 = .ok (.aload_n 0, 1) := by decide +kernel
theorem gdX12_mark_120 : decode cX12_mark 120 = .ok (.getfield 101, 3) := by decide +kernel
theorem gdX12_mark_123 : decode cX12_mark 123 = .ok (.bipush 64, 2) := by decide +kernel
theorem gdX12_mark_125 : decode cX12_mark 125 = .ok (.iload_n 1, 1) := by decide +kernel
theorem gdX12_mark_126 : decode cX12_mark 126 = .ok (.imul, 1) := by decide +kernel
theorem gdX12_mark_127 : decode cX12_mark 127 = .ok (.iaload, 1) := by decide +kernel
theorem gdX12_mark_128 : decode cX12_mark 128 = .ok (.ireturn, 1) := by decide +kernel
theorem gdX12_mark_129 : decode cX12_mark 129 = .ok (.aload_n 0, 1) := by decide +kernel
theorem gdX12_mark_130 : decode cX12_mark 130 = .ok (.getfield 104, 3) := by decide +kernel
theorem gdX12_mark_133 : decode cX12_mark 133 = .ok (.iload_n 1, 1) := by decide +kernel
theorem gdX12_mark_134 : decode cX12_mark 134 = .ok (.iaload, 1) := by decide +kernel
theorem gdX12_mark_135 : decode cX12_mark 135 = .ok (.ireturn, 1) := by decide +kernel
theorem gdX12_mark_136 : decode cX12_mark 136 = .ok (.aload_n 0, 1) := by decide +kernel
theorem gdX12_mark_137 : decode cX12_mark 137 = .ok (.getfield 107, 3) := by decide +kernel
theorem gdX12_mark_140 : decode cX12_mark 140 = .ok (.iload_n 1, 1) := by decide +kernel
theorem gdX12_mark_141 : decode cX12_mark 141 = .ok (.iaload, 1) := by decide +kernel
theorem gdX12_mark_142 : decode cX12_mark 142 = .ok (.ireturn, 1) := by decide +kernel
theorem gdX12_mark_143 : decode cX12_mark 143 = .ok (.aload_n 0, 1) := by decide +kernel
theorem gdX12_mark_144 : decode cX12_mark 144 = .ok (.getfield 114, 3) := by decide +kernel
theorem gdX12_mark_147 : decode cX12_mark 147 = .ok (.iload_n 1, 1) := by decide +kernel
theorem gdX12_mark_148 : decode cX12_mark 148 = .ok (.iaload, 1) := by decide +kernel
theorem gdX12_mark_149 : decode cX12_mark 149 = .ok (.ireturn, 1) := by decide +kernel
theorem gdX12_mark_150 : decode cX12_mark 150 = .ok (.aload_n 0, 1) := by decide +kernel
theorem gdX12_mark_151 : decode cX12_mark 151 = .ok (.iload_n 1, 1) := by decide +kernel
theorem gdX12_mark_152 : decode cX12_mark 152 = .ok (.invokevirtual 361, 3) := by decide +kernel
theorem gdX12_mark_155 : decode cX12_mark 155 = .ok (.ireturn, 1) := by decide +kernel
theorem gdX12_mark_70 : decode cX12_mark 70 = .ok (.aload_n 0, 1) := by decide +kernel
theorem gdX12_mark_71 : decode cX12_mark 71 = .ok (.iconst 3, 1) := by decide +kernel
theorem gdX12_mark_72 : decode cX12_mark 72 = .ok (.invokevirtual 216, 3) := by decide +kernel
theorem gdX12_mark_75 : decode cX12_mark 75 = .ok (.ireturn, 1) := by decide +kernel
theorem gdX12_mark_60 : decode cX12_mark 60 = .ok (.iconst 1, 1) := by decide +kernel
theorem gdX12_mark_61 : decode cX12_mark 61 = .ok (.goto 4, 3) := by decide +kernel
theorem gdX12_mark_64 : decode cX12_mark 64 = .ok (.iconst 0, 1) := by decide +kernel
theorem gdX12_mark_45 : decode cX12_mark 45 = .ok (.iload_n 2, 1) := by decide +kernel
theorem gdX12_mark_46 : decode cX12_mark 46 = .ok (.iconst 3, 1) := by decide +kernel
theorem gdX12_mark_47 : decode cX12_mark 47 = .ok (.if_icmp .ne 17, 3) := by decide +kernel
theorem gdX12_mark_50 : decode cX12_mark 50 = .ok (.aload_n 0, 1) := by decide +kernel
theorem gdX12_mark_51 : decode cX12_mark 51 = .ok (.getfield 83, 3) := by decide +kernel
theorem gdX12_mark_54 : decode cX12_mark 54 = .ok (.iload_n 1, 1) := by decide +kernel
theorem gdX12_mark_55 : decode cX12_mark 55 = .ok (.iaload, 1) := by decide +kernel
theorem gdX12_mark_56 : decode cX12_mark 56 = .ok (.iconst 4, 1) := by decide +kernel
theorem gdX12_mark_57 : decode cX12_mark 57 = .ok (.if_icmp .ne 7, 3) := by decide +kernel
theorem gdX12_mark_0 : decode cX12_mark 0 = .ok (.aload_n 0, 1) := by decide +kernel
theorem gdX12_mark_1 : decode cX12_mark 1 = .ok (.iload_n 1, 1) := by decide +kernel
theorem gdX12_mark_2 : decode cX12_mark 2 = .ok (.invokevirtual 308, 3) := by decide +kernel
theorem gdX12_mark_5 : decode cX12_mark 5 = .ok (.ifCond .eq 13, 3) := by decide +kernel
theorem gdX12_mark_8 : decode cX12_mark 8 = .ok (.iload_n 2, 1) := by decide +kernel
theorem gdX12_mark_9 : decode cX12_mark 9 = .ok (.iconst 1, 1) := by decide +kernel
theorem gdX12_mark_10 : decode cX12_mark 10 = .ok (.bipush 6, 2) := by decide +kernel
theorem gdX12_mark_12 : decode cX12_mark 12 = .ok (.invokestatic 208, 3) := by decide +kernel
theorem gdX12_mark_15 : decode cX12_mark 15 = .ok (.ifCond .ne 5, 3) := by decide +kernel
theorem gdX12_mark_20 : decode cX12_mark 20 = .ok (.aload_n 0, 1) := by decide +kernel
theorem gdX12_mark_21 : decode cX12_mark 21 = .ok (.getfield 83, 3) := by decide +kernel
theorem gdX12_mark_24 : decode cX12_mark 24 = .ok (.iload_n 1, 1) := by decide +kernel
theorem gdX12_mark_25 : decode cX12_mark 25 = .ok (.iaload, 1) := by decide +kernel
theorem gdX12_mark_26 : decode cX12_mark 26 = .ok (.iload_n 2, 1) := by decide +kernel
theorem gdX12_mark_27 : decode cX12_mark 27 = .ok (.if_icmp .eq 33, 3) := by decide +kernel
theorem gdX12_mark_30 : decode cX12_mark 30 = .ok (.iload_n 2, 1) := by decide +kernel
theorem gdX12_mark_31 : decode cX12_mark 31 = .ok (.iconst 1, 1) := by decide +kernel
theorem gdX12_mark_32 : decode cX12_mark 32 = .ok (.if_icmp .ne 13, 3) := by decide +kernel
theorem gdX12_mark_35 : decode cX12_mark 35 = .ok (.aload_n 0, 1) := by decide +kernel
theorem gdX12_mark_36 : decode cX12_mark 36 = .ok (.getfield 83, 3) := by decide +kernel
theorem gdX12_mark_39 : decode cX12_mark 39 = .ok (.iload_n 1, 1) := by decide +kernel
theorem gdX12_mark_40 : decode cX12_mark 40 = .ok (.iaload, 1) := by decide +kernel
theorem gdX12_mark_41 : decode cX12_mark 41 = .ok (.iconst 2, 1) := by decide +kernel
theorem gdX12_mark_42 : decode cX12_mark 42 = .ok (.if_icmp .eq 18, 3) := by decide +kernel
theorem gdX12_mean_116 : decode cX12_mean 116 = .ok (.ireturn, 1) := by decide +kernel
theorem gdX12_mean_96 : decode cX12_mean 96 = .ok (.iload_n 2, 1) := by decide +kernel
theorem gdX12_mean_97 : decode cX12_mean 97 = .ok (.ifCond .ne 11, 3) := by decide +kernel
theorem gdX12_mean_108 : decode cX12_mean 108 = .ok (.aload_n 0, 1) := by decide +kernel
theorem gdX12_mean_109 : decode cX12_mean 109 = .ok (.iload_n 3, 1) := by decide +kernel
theorem gdX12_mean_110 : decode cX12_mean 110 = .ok (.iload_n 2, 1) := by decide +kernel
theorem gdX12_mean_111 : decode cX12_mean 111 = .ok (.idiv, 1) := by decide +kernel
theorem gdX12_mean_112 : decode cX12_mean 112 = .ok (.iconst 1, 1) := by decide +kernel
theorem gdX12_mean_113 : decode cX12_mean 113 = .ok (.invokevirtual 290, 3) := by decide +kernel
theorem gdX12_mean_100 : decode cX12_mean 100 = .ok (.aload_n 0, 1) := by decide +kernel
theorem gdX12_mean_101 : decode cX12_mean 101 = .ok (.iconst 4, 1) := by decide +kernel
theorem gdX12_mean_102 : decode cX12_mean 102 = .ok (.invokevirtual 216, 3) := by decide +kernel
theorem gdX12_mean_105 : decode cX12_mean 105 = .ok (.goto 11, 3) := by decide +kernel
theorem gdX12_mean_88 : decode cX12_mean 88 = .ok (.iadd, 1) := by decide +kernel
theorem gdX12_mean_89 : decode cX12_mean 89 = .ok (.istore_n 3, 1) := by decide +kernel
theorem gdX12_mean_90 : decode cX12_mean 90 = .ok (.iinc 4 1, 3) := by decide +kernel
theorem gdX12_mean_93 : decode cX12_mean 93 = .ok (.goto (-75), 3) := by decide +kernel
theorem gdX12_mean_66 : decode cX12_mean 66 = .ok (.iadd, 1) := by decide +kernel
theorem gdX12_mean_67 : decode cX12_mean 67 = .ok (.istore_n 2, 1) := by decide +kernel
theorem gdX12_mean_68 : decode cX12_mean 68 = .ok (.iload_n 3, 1) := by decide +kernel
theorem gdX12_mean_69 : decode cX12_mean 69 = .ok (.iload 5, 2) := by decide +kernel
theorem gdX12_mean_71 : decode cX12_mean 71 = .ok (.ifCond .eq 16, 3) := by decide +kernel
theorem gdX12_mean_87 : decode cX12_mean 87 = .ok (.iconst 0, 1) := by decide +kernel
theorem gdX12_mean_74 : decode cX12_mean 74 = .ok (.aload_n 0, 1) := by decide +kernel
theorem gdX12_mean_75 : decode cX12_mean 75 = .ok (.iload 4, 2) := by decide +kernel
theorem gdX12_mean_77 : decode cX12_mean 77 = .ok (.aload_n 0, 1) := by decide +kernel
theorem gdX12_mean_78 : decode cX12_mean 78 = .ok (.getfield 229, 3) := by decide +kernel
theorem gdX12_mean_81 : decode cX12_mean 81 = .ok (.invokevirtual 277, 3) := by decide +kernel
theorem gdX12_mean_84 : decode cX12_mean 84 = .ok (.goto 4, 3) := by decide +kernel
theorem gdX12_mean_53 : decode cX12_mean 53 = .ok (.istore 5, 2) := by decide +kernel
theorem gdX12_mean_55 : decode cX12_mean 55 = .ok (.iload_n 2, 1) := by decide +kernel
theorem gdX12_mean_56 : decode cX12_mean 56 = .ok (.iload 5, 2) := by decide +kernel
theorem gdX12_mean_58 : decode cX12_mean 58 = .ok (.ifCond .eq 7, 3) := by decide +kernel
theorem gdX12_mean_65 : decode cX12_mean 65 = .ok (.iconst 0, 1) := by decide +kernel
theorem gdX12_mean_61 : decode cX12_mean 61 = .ok (.iconst 1, 1) := by decide +kernel
theorem gdX12_mean_62 : decode cX12_mean 62 = .ok (.goto 4, 3) := by decide +kernel
theorem gdX12_mean_52 : decode cX12_mean 52 = .ok (.iconst 0, 1) := by decide +kernel
theorem gdX12_mean_18 : decode cX12_mean 18 = .ok (.iload 4, 2) := by decide +kernel
theorem gdX12_mean_20 : decode cX12_mean 20 = .ok (.aload_n 0, 1) := by decide +kernel
theorem gdX12_mean_21 : decode cX12_mean 21 = .ok (.getfield 254, 3) := by decide +kernel
theorem gdX12_mean_24 : decode cX12_mean 24 = .ok (.if_icmp .ge 72, 3) := by decide +kernel
theorem gdX12_mean_27 : decode cX12_mean 27 = .ok (.aload_n 0, 1) := by decide +kernel
theorem gdX12_mean_28 : decode cX12_mean 28 = .ok (.getfield 49, 3) := by decide +kernel
theorem gdX12_mean_31 : decode cX12_mean 31 = .ok (.iload 4, 2) := by decide +kernel
theorem gdX12_mean_33 : decode cX12_mean 33 = .ok (.iaload, 1) := by decide +kernel
theorem gdX12_mean_34 : decode cX12_mean 34 = .ok (.iload_n 1, 1) := by decide +kernel
theorem gdX12_mean_35 : decode cX12_mean 35 = .ok (.if_icmp .ne 17, 3) := by decide +kernel
theorem gdX12_mean_38 : decode cX12_mean 38 = .ok (.aload_n 0, 1) := by decide +kernel
theorem gdX12_mean_39 : decode cX12_mean 39 = .ok (.getfield 55, 3) := by decide +kernel
theorem gdX12_mean_42 : decode cX12_mean 42 = .ok (.iload 4, 2) := by decide +kernel
theorem gdX12_mean_44 : decode cX12_mean 44 = .ok (.baload, 1) := by decide +kernel
theorem gdX12_mean_45 : decode cX12_mean 45 = .ok (.ifCond .ne 7, 3) := by decide +kernel
theorem gdX12_mean_48 : decode cX12_mean 48 = .ok (.iconst 1, 1) := by decide +kernel
theorem gdX12_mean_49 : decode cX12_mean 49 = .ok (.goto 4, 3) := by decide +kernel
theorem gdX12_mean_0 : decode cX12_mean 0 = .ok (.iload_n 1, 1) := by decide +kernel
theorem gdX12_mean_1 : decode cX12_mean 1 = .ok (.iconst 0, 1) := by decide +kernel
theorem gdX12_mean_2 : decode cX12_mean 2 = .ok (.iconst 2, 1) := by decide +kernel
theorem gdX12_mean_3 : decode cX12_mean 3 = .ok (.invokestatic 208, 3) := by decide +kernel
theorem gdX12_mean_6 : decode cX12_mean 6 = .ok (.ifCond .ne 5, 3) := by decide +kernel
theorem gdX12_mean_11 : decode cX12_mean 11 = .ok (.iconst 0, 1) := by decide +kernel
theorem gdX12_mean_12 : decode cX12_mean 12 = .ok (.istore_n 2, 1) := by decide +kernel
theorem gdX12_mean_13 : decode cX12_mean 13 = .ok (.iconst 0, 1) := by decide +kernel
theorem gdX12_mean_14 : decode cX12_mean 14 = .ok (.istore_n 3, 1) := by decide +kernel
theorem gdX12_mean_15 : decode cX12_mean 15 = .ok (.iconst 0, 1) := by decide +kernel
theorem gdX12_mean_16 : decode cX12_mean 16 = .ok (.istore 4, 2) := by decide +kernel
theorem gdX12_mean_9 : decode cX12_mean 9 = .ok (.iconst (-1), 1) := by decide +kernel
theorem gdX12_mean_10 : decode cX12_mean 10 = .ok (.ireturn, 1) := by decide +kernel
theorem gdX12_hasRoom_37 : decode cX12_hasRoom 37 = .ok (.ireturn, 1) := by decide +kernel
theorem gdX12_hasRoom_36 : decode cX12_hasRoom 36 = .ok (.iconst 0, 1) := by decide +kernel
theorem gdX12_hasRoom_0 : decode cX12_hasRoom 0 = .ok (.aload_n 0, 1) := by decide +kernel
theorem gdX12_hasRoom_1 : decode cX12_hasRoom 1 = .ok (.getfield 49, 3) := by decide +kernel
theorem gdX12_hasRoom_4 : decode cX12_hasRoom 4 = .ok (.iload_n 1, 1) := by decide +kernel
theorem gdX12_hasRoom_5 : decode cX12_hasRoom 5 = .ok (.iaload, 1) := by decide +kernel
theorem gdX12_hasRoom_6 : decode cX12_hasRoom 6 = .ok (.ifCond .ne 30, 3) := by decide +kernel
theorem gdX12_hasRoom_9 : decode cX12_hasRoom 9 = .ok (.aload_n 0, 1) := by decide +kernel
theorem gdX12_hasRoom_10 : decode cX12_hasRoom 10 = .ok (.getfield 55, 3) := by decide +kernel
theorem gdX12_hasRoom_13 : decode cX12_hasRoom 13 = .ok (.iload_n 1, 1) := by decide +kernel
theorem gdX12_hasRoom_14 : decode cX12_hasRoom 14 = .ok (.baload, 1) := by decide +kernel
theorem gdX12_hasRoom_15 : decode cX12_hasRoom 15 = .ok (.ifCond .ne 21, 3) := by decide +kernel
theorem gdX12_hasRoom_18 : decode cX12_hasRoom 18 = .ok (.aload_n 0, 1) := by decide +kernel
theorem gdX12_hasRoom_19 : decode cX12_hasRoom 19 = .ok (.iload_n 1, 1) := by decide +kernel
theorem gdX12_hasRoom_20 : decode cX12_hasRoom 20 = .ok (.invokevirtual 284, 3) := by decide +kernel
theorem gdX12_hasRoom_23 : decode cX12_hasRoom 23 = .ok (.aload_n 0, 1) := by decide +kernel
theorem gdX12_hasRoom_24 : decode cX12_hasRoom 24 = .ok (.getfield 52, 3) := by decide +kernel
theorem gdX12_hasRoom_27 : decode cX12_hasRoom 27 = .ok (.iload_n 1, 1) := by decide +kernel
theorem gdX12_hasRoom_28 : decode cX12_hasRoom 28 = .ok (.iaload, 1) := by decide +kernel
theorem gdX12_hasRoom_29 : decode cX12_hasRoom 29 = .ok (.if_icmp .ge 7, 3) := by decide +kernel
theorem gdX12_hasRoom_32 : decode cX12_hasRoom 32 = .ok (.iconst 1, 1) := by decide +kernel
theorem gdX12_hasRoom_33 : decode cX12_hasRoom 33 = .ok (.goto 4, 3) := by decide +kernel
theorem gdX12_moved_24 : decode cX12_moved 24 = .ok (.iconst (-1), 1) := by decide +kernel
theorem gdX12_moved_25 : decode cX12_moved 25 = .ok (.ireturn, 1) := by decide +kernel
theorem gdX12_moved_84 : decode cX12_moved 84 = .ok (.bipush (-4), 2) := by decide +kernel
theorem gdX12_moved_86 : decode cX12_moved 86 = .ok (.ireturn, 1) := by decide +kernel
theorem gdX12_moved_0 : decode cX12_moved 0 = .ok (.aload_n 0, 1) := by decide +kernel
theorem gdX12_moved_1 : decode cX12_moved 1 = .ok (.iload_n 1, 1) := by decide +kernel
theorem gdX12_moved_2 : decode cX12_moved 2 = .ok (.invokevirtual 308, 3) := by decide +kernel
theorem gdX12_moved_5 : decode cX12_moved 5 = .ok (.ifCond .eq 19, 3) := by decide +kernel
theorem gdX12_moved_8 : decode cX12_moved 8 = .ok (.aload_n 0, 1) := by decide +kernel
theorem gdX12_moved_9 : decode cX12_moved 9 = .ok (.iload_n 2, 1) := by decide +kernel
theorem gdX12_moved_10 : decode cX12_moved 10 = .ok (.invokevirtual 296, 3) := by decide +kernel
theorem gdX12_moved_13 : decode cX12_moved 13 = .ok (.ifCond .eq 11, 3) := by decide +kernel
theorem gdX12_moved_16 : decode cX12_moved 16 = .ok (.aload_n 0, 1) := by decide +kernel
theorem gdX12_moved_17 : decode cX12_moved 17 = .ok (.iload_n 3, 1) := by decide +kernel
theorem gdX12_moved_18 : decode cX12_moved 18 = .ok (.invokevirtual 274, 3) := by decide +kernel
theorem gdX12_moved_21 : decode cX12_moved 21 = .ok (.ifCond .ne 5, 3) := by decide +kernel
theorem gdX12_moved_26 : decode cX12_moved 26 = .ok (.aload_n 0, 1) := by decide +kernel
theorem gdX12_moved_27 : decode cX12_moved 27 = .ok (.getfield 305, 3) := by decide +kernel
theorem gdX12_moved_30 : decode cX12_moved 30 = .ok (.bipush 24, 2) := by decide +kernel
theorem gdX12_moved_32 : decode cX12_moved 32 = .ok (.if_icmp .ne 6, 3) := by decide +kernel
theorem gdX12_moved_38 : decode cX12_moved 38 = .ok (.aload_n 0, 1) := by decide +kernel
theorem gdX12_moved_39 : decode cX12_moved 39 = .ok (.getfield 83, 3) := by decide +kernel
theorem gdX12_moved_42 : decode cX12_moved 42 = .ok (.iload_n 1, 1) := by decide +kernel
theorem gdX12_moved_43 : decode cX12_moved 43 = .ok (.iaload, 1) := by decide +kernel
theorem gdX12_moved_44 : decode cX12_moved 44 = .ok (.iconst 3, 1) := by decide +kernel
theorem gdX12_moved_45 : decode cX12_moved 45 = .ok (.if_icmp .eq 9, 3) := by decide +kernel
theorem gdX12_moved_54 : decode cX12_moved 54 = .ok (.aload_n 0, 1) := by decide +kernel
theorem gdX12_moved_55 : decode cX12_moved 55 = .ok (.getfield 110, 3) := by decide +kernel
theorem gdX12_moved_58 : decode cX12_moved 58 = .ok (.iload_n 1, 1) := by decide +kernel
theorem gdX12_moved_59 : decode cX12_moved 59 = .ok (.laload, 1) := by decide +kernel
theorem gdX12_moved_60 : decode cX12_moved 60 = .ok (.iload_n 2, 1) := by decide +kernel
theorem gdX12_moved_61 : decode cX12_moved 61 = .ok (.invokestatic 344, 3) := by decide +kernel
theorem gdX12_moved_64 : decode cX12_moved 64 = .ok (.ifCond .eq 20, 3) := by decide +kernel
theorem gdX12_moved_67 : decode cX12_moved 67 = .ok (.aload_n 0, 1) := by decide +kernel
theorem gdX12_moved_68 : decode cX12_moved 68 = .ok (.getfield 71, 3) := by decide +kernel
theorem gdX12_moved_71 : decode cX12_moved 71 = .ok (.iload_n 2, 1) := by decide +kernel
theorem gdX12_moved_72 : decode cX12_moved 72 = .ok (.iaload, 1) := by decide +kernel
theorem gdX12_moved_73 : decode cX12_moved 73 = .ok (.ifCond .ge 11, 3) := by decide +kernel
theorem gdX12_moved_76 : decode cX12_moved 76 = .ok (.aload_n 0, 1) := by decide +kernel
theorem gdX12_moved_77 : decode cX12_moved 77 = .ok (.iload_n 3, 1) := by decide +kernel
theorem gdX12_moved_78 : decode cX12_moved 78 = .ok (.invokevirtual 293, 3) := by decide +kernel
theorem gdX12_moved_81 : decode cX12_moved 81 = .ok (.ifCond .ne 6, 3) := by decide +kernel
theorem gdX12_moved_87 : decode cX12_moved 87 = .ok (.aload_n 0, 1) := by decide +kernel
theorem gdX12_moved_88 : decode cX12_moved 88 = .ok (.iconst 4, 1) := by decide +kernel
theorem gdX12_moved_89 : decode cX12_moved 89 = .ok (.iload_n 1, 1) := by decide +kernel
theorem gdX12_moved_90 : decode cX12_moved 90 = .ok (.invokevirtual 334, 3) := by decide +kernel
theorem gdX12_moved_93 : decode cX12_moved 93 = .ok (.istore 4, 2) := by decide +kernel
theorem gdX12_moved_95 : decode cX12_moved 95 = .ok (.aload_n 0, 1) := by decide +kernel
theorem gdX12_moved_96 : decode cX12_moved 96 = .ok (.getfield 104, 3) := by decide +kernel
theorem gdX12_moved_99 : decode cX12_moved 99 = .ok (.iload 4, 2) := by decide +kernel
theorem gdX12_moved_101 : decode cX12_moved 101 = .ok (.aload_n 0, 1) := by decide +kernel
theorem gdX12_moved_102 : decode cX12_moved 102 = .ok (.iconst 3, 1) := by decide +kernel
theorem gdX12_moved_103 : decode cX12_moved 103 = .ok (.invokevirtual 328, 3) := by decide +kernel
theorem gdX12_moved_106 : decode cX12_moved 106 = .ok (.iastore, 1) := by decide +kernel
theorem gdX12_moved_107 : decode cX12_moved 107 = .ok (.aload_n 0, 1) := by decide +kernel
theorem gdX12_moved_108 : decode cX12_moved 108 = .ok (.getfield 107, 3) := by decide +kernel
theorem gdX12_moved_111 : decode cX12_moved 111 = .ok (.iload 4, 2) := by decide +kernel
theorem gdX12_moved_113 : decode cX12_moved 113 = .ok (.iload_n 2, 1) := by decide +kernel
theorem gdX12_moved_114 : decode cX12_moved 114 = .ok (.iastore, 1) := by decide +kernel
theorem gdX12_moved_115 : decode cX12_moved 115 = .ok (.aload_n 0, 1) := by decide +kernel
theorem gdX12_moved_116 : decode cX12_moved 116 = .ok (.getfield 71, 3) := by decide +kernel
theorem gdX12_moved_119 : decode cX12_moved 119 = .ok (.iload_n 2, 1) := by decide +kernel
theorem gdX12_moved_120 : decode cX12_moved 120 = .ok (.iload_n 3, 1) := by decide +kernel
theorem gdX12_moved_121 : decode cX12_moved 121 = .ok (.iastore, 1) := by decide +kernel
theorem gdX12_moved_122 : decode cX12_moved 122 = .ok (.aload_n 0, 1) := by decide +kernel
theorem gdX12_moved_123 : decode cX12_moved 123 = .ok (.aload_n 0, 1) := by decide +kernel
theorem gdX12_moved_124 : decode cX12_moved 124 = .ok (.getfield 104, 3) := by decide +kernel
theorem gdX12_moved_127 : decode cX12_moved 127 = .ok (.iload 4, 2) := by decide +kernel
theorem gdX12_moved_129 : decode cX12_moved 129 = .ok (.iaload, 1) := by decide +kernel
theorem gdX12_moved_130 : decode cX12_moved 130 = .ok (.iload 4, 2) := by decide +kernel
theorem gdX12_moved_132 : decode cX12_moved 132 = .ok (.invokevirtual 290, 3) := by decide +kernel
theorem gdX12_moved_135 : decode cX12_moved 135 = .ok (.ireturn, 1) := by decide +kernel
theorem gdX12_moved_48 : decode cX12_moved 48 = .ok (.aload_n 0, 1) := by decide +kernel
theorem gdX12_moved_49 : decode cX12_moved 49 = .ok (.iconst 3, 1) := by decide +kernel
theorem gdX12_moved_50 : decode cX12_moved 50 = .ok (.invokevirtual 216, 3) := by decide +kernel
theorem gdX12_moved_53 : decode cX12_moved 53 = .ok (.ireturn, 1) := by decide +kernel
theorem gdX12_moved_35 : decode cX12_moved 35 = .ok (.bipush (-2), 2) := by decide +kernel
theorem gdX12_moved_37 : decode cX12_moved 37 = .ok (.ireturn, 1) := by decide +kernel
theorem gdX12_noise_15 : decode cX12_noise 15 = .ok (.iconst (-1), 1) := by decide +kernel
theorem gdX12_noise_16 : decode cX12_noise 16 = .ok (.ireturn, 1) := by decide +kernel
theorem gdX12_noise_66 : decode cX12_noise 66 = .ok (.ireturn, 1) := by decide +kernel
theorem gdX12_noise_0 : decode cX12_noise 0 = .ok (.aload_n 0, 1) := by decide +kernel
theorem gdX12_noise_1 : decode cX12_noise 1 = .ok (.iload_n 1, 1) := by decide +kernel
theorem gdX12_noise_2 : decode cX12_noise 2 = .ok (.invokevirtual 308, 3) := by decide +kernel
theorem gdX12_noise_5 : decode cX12_noise 5 = .ok (.ifCond .eq 10, 3) := by decide +kernel
theorem gdX12_noise_8 : decode cX12_noise 8 = .ok (.iload_n 2, 1) := by decide +kernel
theorem gdX12_noise_9 : decode cX12_noise 9 = .ok (.invokestatic 212, 3) := by decide +kernel
theorem gdX12_noise_12 : decode cX12_noise 12 = .ok (.ifCond .ne 5, 3) := by decide +kernel
theorem gdX12_noise_17 : decode cX12_noise 17 = .ok (.aload_n 0, 1) := by decide +kernel
theorem gdX12_noise_18 : decode cX12_noise 18 = .ok (.iload_n 1, 1) := by decide +kernel
theorem gdX12_noise_19 : decode cX12_noise 19 = .ok (.invokevirtual 311, 3) := by decide +kernel
theorem gdX12_noise_22 : decode cX12_noise 22 = .ok (.ifCond .ne 9, 3) := by decide +kernel
theorem gdX12_noise_31 : decode cX12_noise 31 = .ok (.aload_n 0, 1) := by decide +kernel
theorem gdX12_noise_32 : decode cX12_noise 32 = .ok (.getfield 13, 3) := by decide +kernel
theorem gdX12_noise_35 : decode cX12_noise 35 = .ok (.iload_n 2, 1) := by decide +kernel
theorem gdX12_noise_36 : decode cX12_noise 36 = .ok (.iaload, 1) := by decide +kernel
theorem gdX12_noise_37 : decode cX12_noise 37 = .ok (.ifCond .ge 11, 3) := by decide +kernel
theorem gdX12_noise_48 : decode cX12_noise 48 = .ok (.aload_n 0, 1) := by decide +kernel
theorem gdX12_noise_49 : decode cX12_noise 49 = .ok (.aload_n 0, 1) := by decide +kernel
theorem gdX12_noise_50 : decode cX12_noise 50 = .ok (.iload_n 1, 1) := by decide +kernel
theorem gdX12_noise_51 : decode cX12_noise 51 = .ok (.iload_n 2, 1) := by decide +kernel
theorem gdX12_noise_52 : decode cX12_noise 52 = .ok (.iconst 1, 1) := by decide +kernel
theorem gdX12_noise_53 : decode cX12_noise 53 = .ok (.invokevirtual 400, 3) := by decide +kernel
theorem gdX12_noise_56 : decode cX12_noise 56 = .ok (.aload_n 0, 1) := by decide +kernel
theorem gdX12_noise_57 : decode cX12_noise 57 = .ok (.iload_n 1, 1) := by decide +kernel
theorem gdX12_noise_58 : decode cX12_noise 58 = .ok (.iload_n 2, 1) := by decide +kernel
theorem gdX12_noise_59 : decode cX12_noise 59 = .ok (.iconst 0, 1) := by decide +kernel
theorem gdX12_noise_60 : decode cX12_noise 60 = .ok (.invokevirtual 400, 3) := by decide +kernel
theorem gdX12_noise_63 : decode cX12_noise 63 = .ok (.invokevirtual 290, 3) := by decide +kernel
theorem gdX12_noise_40 : decode cX12_noise 40 = .ok (.aload_n 0, 1) := by decide +kernel
theorem gdX12_noise_41 : decode cX12_noise 41 = .ok (.iconst 1, 1) := by decide +kernel
theorem gdX12_noise_42 : decode cX12_noise 42 = .ok (.invokevirtual 216, 3) := by decide +kernel
theorem gdX12_noise_45 : decode cX12_noise 45 = .ok (.goto 21, 3) := by decide +kernel
theorem gdX12_noise_25 : decode cX12_noise 25 = .ok (.aload_n 0, 1) := by decide +kernel
theorem gdX12_noise_26 : decode cX12_noise 26 = .ok (.iconst 3, 1) := by decide +kernel
theorem gdX12_noise_27 : decode cX12_noise 27 = .ok (.invokevirtual 216, 3) := by decide +kernel
theorem gdX12_noise_30 : decode cX12_noise 30 = .ok (.ireturn, 1) := by decide +kernel
theorem gdX12_over_0 : decode cX12_over 0 = .ok (.aload_n 0, 1) := by decide +kernel
theorem gdX12_over_1 : decode cX12_over 1 = .ok (.iload_n 1, 1) := by decide +kernel
theorem gdX12_over_2 : decode cX12_over 2 = .ok (.invokevirtual 348, 3) := by decide +kernel
theorem gdX12_over_5 : decode cX12_over 5 = .ok (.istore_n 2, 1) := by decide +kernel
theorem gdX12_over_6 : decode cX12_over 6 = .ok (.iload_n 2, 1) := by decide +kernel
theorem gdX12_over_7 : decode cX12_over 7 = .ok (.ifCond .ge 5, 3) := by decide +kernel
theorem gdX12_over_12 : decode cX12_over 12 = .ok (.aload_n 0, 1) := by decide +kernel
theorem gdX12_over_13 : decode cX12_over 13 = .ok (.aload_n 0, 1) := by decide +kernel
theorem gdX12_over_14 : decode cX12_over 14 = .ok (.iload_n 1, 1) := by decide +kernel
theorem gdX12_over_15 : decode cX12_over 15 = .ok (.invokevirtual 340, 3) := by decide +kernel
theorem gdX12_over_18 : decode cX12_over 18 = .ok (.putfield 364, 3) := by decide +kernel
theorem gdX12_over_21 : decode cX12_over 21 = .ok (.aload_n 0, 1) := by decide +kernel
theorem gdX12_over_22 : decode cX12_over 22 = .ok (.getfield 98, 3) := by decide +kernel
theorem gdX12_over_25 : decode cX12_over 25 = .ok (.iload_n 1, 1) := by decide +kernel
theorem gdX12_over_26 : decode cX12_over 26 = .ok (.iaload, 1) := by decide +kernel
theorem gdX12_over_27 : decode cX12_over 27 = .ok (.ireturn, 1) := by decide +kernel
theorem gdX12_over_10 : decode cX12_over 10 = .ok (.iload_n 2, 1) := by decide +kernel
theorem gdX12_over_11 : decode cX12_over 11 = .ok (.ireturn, 1) := by decide +kernel
theorem gdX12_owed_89 : decode cX12_owed 89 = .ok (.iload_n 1, 1) := by decide +kernel
theorem gdX12_owed_90 : decode cX12_owed 90 = .ok (.ireturn, 1) := by decide +kernel
theorem gdX12_owed_81 : decode cX12_owed 81 = .ok (.iadd, 1) := by decide +kernel
theorem gdX12_owed_82 : decode cX12_owed 82 = .ok (.istore_n 1, 1) := by decide +kernel
theorem gdX12_owed_83 : decode cX12_owed 83 = .ok (.iinc 2 1, 3) := by decide +kernel
theorem gdX12_owed_86 : decode cX12_owed 86 = .ok (.goto (-77), 3) := by decide +kernel
theorem gdX12_owed_80 : decode cX12_owed 80 = .ok (.iconst 0, 1) := by decide +kernel
theorem gdX12_owed_53 : decode cX12_owed 53 = .ok (.ladd, 1) := by decide +kernel
theorem gdX12_owed_54 : decode cX12_owed 54 = .ok (.putfield 413, 3) := by decide +kernel
theorem gdX12_owed_57 : decode cX12_owed 57 = .ok (.iload_n 1, 1) := by decide +kernel
theorem gdX12_owed_58 : decode cX12_owed 58 = .ok (.aload_n 0, 1) := by decide +kernel
theorem gdX12_owed_59 : decode cX12_owed 59 = .ok (.getfield 83, 3) := by decide +kernel
theorem gdX12_owed_62 : decode cX12_owed 62 = .ok (.iload_n 2, 1) := by decide +kernel
theorem gdX12_owed_63 : decode cX12_owed 63 = .ok (.iaload, 1) := by decide +kernel
theorem gdX12_owed_64 : decode cX12_owed 64 = .ok (.iconst 3, 1) := by decide +kernel
theorem gdX12_owed_65 : decode cX12_owed 65 = .ok (.if_icmp .ne 15, 3) := by decide +kernel
theorem gdX12_owed_68 : decode cX12_owed 68 = .ok (.aload_n 0, 1) := by decide +kernel
theorem gdX12_owed_69 : decode cX12_owed 69 = .ok (.iload_n 2, 1) := by decide +kernel
theorem gdX12_owed_70 : decode cX12_owed 70 = .ok (.invokevirtual 410, 3) := by decide +kernel
theorem gdX12_owed_73 : decode cX12_owed 73 = .ok (.ifCond .eq 7, 3) := by decide +kernel
theorem gdX12_owed_76 : decode cX12_owed 76 = .ok (.iconst 1, 1) := by decide +kernel
theorem gdX12_owed_77 : decode cX12_owed 77 = .ok (.goto 4, 3) := by decide +kernel
theorem gdX12_owed_42 : decode cX12_owed 42 = .ok (.aload_n 0, 1) := by decide +kernel
theorem gdX12_owed_43 : decode cX12_owed 43 = .ok (.getfield 104, 3) := by decide +kernel
theorem gdX12_owed_46 : decode cX12_owed 46 = .ok (.iload_n 2, 1) := by decide +kernel
theorem gdX12_owed_47 : decode cX12_owed 47 = .ok (.iaload, 1) := by decide +kernel
theorem gdX12_owed_48 : decode cX12_owed 48 = .ok (.i2l, 1) := by decide +kernel
theorem gdX12_owed_49 : decode cX12_owed 49 = .ok (.goto 4, 3) := by decide +kernel
theorem gdX12_owed_9 : decode cX12_owed 9 = .ok (.iload_n 2, 1) := by decide +kernel
theorem gdX12_owed_10 : decode cX12_owed 10 = .ok (.aload_n 0, 1) := by decide +kernel
theorem gdX12_owed_11 : decode cX12_owed 11 = .ok (.getfield 305, 3) := by decide +kernel
theorem gdX12_owed_14 : decode cX12_owed 14 = .ok (.if_icmp .ge 75, 3) := by decide +kernel
theorem gdX12_owed_17 : decode cX12_owed 17 = .ok (.aload_n 0, 1) := by decide +kernel
theorem gdX12_owed_18 : decode cX12_owed 18 = .ok (.dup, 1) := by decide +kernel
theorem gdX12_owed_19 : decode cX12_owed 19 = .ok (.getfield 413, 3) := by decide +kernel
theorem gdX12_owed_22 : decode cX12_owed 22 = .ok (.aload_n 0, 1) := by decide +kernel
theorem gdX12_owed_23 : decode cX12_owed 23 = .ok (.getfield 83, 3) := by decide +kernel
theorem gdX12_owed_26 : decode cX12_owed 26 = .ok (.iload_n 2, 1) := by decide +kernel
theorem gdX12_owed_27 : decode cX12_owed 27 = .ok (.iaload, 1) := by decide +kernel
theorem gdX12_owed_28 : decode cX12_owed 28 = .ok (.iconst 3, 1) := by decide +kernel
theorem gdX12_owed_29 : decode cX12_owed 29 = .ok (.if_icmp .eq 13, 3) := by decide +kernel
theorem gdX12_owed_32 : decode cX12_owed 32 = .ok (.aload_n 0, 1) := by decide +kernel
theorem gdX12_owed_33 : decode cX12_owed 33 = .ok (.getfield 83, 3) := by decide +kernel
theorem gdX12_owed_36 : decode cX12_owed 36 = .ok (.iload_n 2, 1) := by decide +kernel
theorem gdX12_owed_37 : decode cX12_owed 37 = .ok (.iaload, 1) := by decide +kernel
theorem gdX12_owed_38 : decode cX12_owed 38 = .ok (.iconst 4, 1) := by decide +kernel
theorem gdX12_owed_39 : decode cX12_owed 39 = .ok (.if_icmp .ne 13, 3) := by decide +kernel
theorem gdX12_owed_52 : decode cX12_owed 52 = .ok (.lconst 0, 1) := by decide +kernel
theorem gdX12_owed_0 : decode cX12_owed 0 = .ok (.iconst 0, 1) := by decide +kernel
theorem gdX12_owed_1 : decode cX12_owed 1 = .ok (.istore_n 1, 1) := by decide +kernel
theorem gdX12_owed_2 : decode cX12_owed 2 = .ok (.aload_n 0, 1) := by decide +kernel
theorem gdX12_owed_3 : decode cX12_owed 3 = .ok (.lconst 0, 1) := by decide +kernel
theorem gdX12_owed_4 : decode cX12_owed 4 = .ok (.putfield 413, 3) := by decide +kernel
theorem gdX12_owed_7 : decode cX12_owed 7 = .ok (.iconst 0, 1) := by decide +kernel
theorem gdX12_owed_8 : decode cX12_owed 8 = .ok (.istore_n 2, 1) := by decide +kernel
theorem gdX12_park_42 : decode cX12_park 42 = .ok (.ireturn, 1) := by decide +kernel
theorem gdX12_park_39 : decode cX12_park 39 = .ok (.invokevirtual 290, 3) := by decide +kernel
theorem gdX12_park_0 : decode cX12_park 0 = .ok (.aload_n 0, 1) := by decide +kernel
theorem gdX12_park_1 : decode cX12_park 1 = .ok (.iload_n 1, 1) := by decide +kernel
theorem gdX12_park_2 : decode cX12_park 2 = .ok (.invokevirtual 348, 3) := by decide +kernel
theorem gdX12_park_5 : decode cX12_park 5 = .ok (.istore_n 2, 1) := by decide +kernel
theorem gdX12_park_6 : decode cX12_park 6 = .ok (.iload_n 2, 1) := by decide +kernel
theorem gdX12_park_7 : decode cX12_park 7 = .ok (.ifCond .ge 7, 3) := by decide +kernel
theorem gdX12_park_14 : decode cX12_park 14 = .ok (.aload_n 0, 1) := by decide +kernel
theorem gdX12_park_15 : decode cX12_park 15 = .ok (.aload_n 0, 1) := by decide +kernel
theorem gdX12_park_16 : decode cX12_park 16 = .ok (.iload_n 1, 1) := by decide +kernel
theorem gdX12_park_17 : decode cX12_park 17 = .ok (.invokevirtual 404, 3) := by decide +kernel
theorem gdX12_park_20 : decode cX12_park 20 = .ok (.aload_n 0, 1) := by decide +kernel
theorem gdX12_park_21 : decode cX12_park 21 = .ok (.iload_n 1, 1) := by decide +kernel
theorem gdX12_park_22 : decode cX12_park 22 = .ok (.invokevirtual 404, 3) := by decide +kernel
theorem gdX12_park_25 : decode cX12_park 25 = .ok (.aload_n 0, 1) := by decide +kernel
theorem gdX12_park_26 : decode cX12_park 26 = .ok (.bipush 6, 2) := by decide +kernel
theorem gdX12_park_28 : decode cX12_park 28 = .ok (.invokevirtual 328, 3) := by decide +kernel
theorem gdX12_park_31 : decode cX12_park 31 = .ok (.if_icmp .gt 7, 3) := by decide +kernel
theorem gdX12_park_38 : decode cX12_park 38 = .ok (.iconst 0, 1) := by decide +kernel
theorem gdX12_park_34 : decode cX12_park 34 = .ok (.iconst 1, 1) := by decide +kernel
theorem gdX12_park_35 : decode cX12_park 35 = .ok (.goto 4, 3) := by decide +kernel
theorem gdX12_park_10 : decode cX12_park 10 = .ok (.iload_n 2, 1) := by decide +kernel
theorem gdX12_park_11 : decode cX12_park 11 = .ok (.goto 31, 3) := by decide +kernel
theorem gdX12_person_38 : decode cX12_person 38 = .ok (.iconst (-1), 1) := by decide +kernel
theorem gdX12_person_39 : decode cX12_person 39 = .ok (.ireturn, 1) := by decide +kernel
theorem gdX12_person_69 : decode cX12_person 69 = .ok (.aload_n 0, 1) := by decide +kernel
theorem gdX12_person_70 : decode cX12_person 70 = .ok (.getfield 71, 3) := by decide +kernel
theorem gdX12_person_73 : decode cX12_person 73 = .ok (.aload_n 0, 1) := by decide +kernel
theorem gdX12_person_74 : decode cX12_person 74 = .ok (.getfield 281, 3) := by decide +kernel
theorem gdX12_person_77 : decode cX12_person 77 = .ok (.iload_n 1, 1) := by decide +kernel
theorem gdX12_person_78 : decode cX12_person 78 = .ok (.iastore, 1) := by decide +kernel
theorem gdX12_person_79 : decode cX12_person 79 = .ok (.aload_n 0, 1) := by decide +kernel
theorem gdX12_person_80 : decode cX12_person 80 = .ok (.getfield 74, 3) := by decide +kernel
theorem gdX12_person_83 : decode cX12_person 83 = .ok (.aload_n 0, 1) := by decide +kernel
theorem gdX12_person_84 : decode cX12_person 84 = .ok (.getfield 281, 3) := by decide +kernel
theorem gdX12_person_87 : decode cX12_person 87 = .ok (.iload_n 2, 1) := by decide +kernel
theorem gdX12_person_88 : decode cX12_person 88 = .ok (.iastore, 1) := by decide +kernel
theorem gdX12_person_89 : decode cX12_person 89 = .ok (.aload_n 0, 1) := by decide +kernel
theorem gdX12_person_90 : decode cX12_person 90 = .ok (.getfield 77, 3) := by decide +kernel
theorem gdX12_person_93 : decode cX12_person 93 = .ok (.aload_n 0, 1) := by decide +kernel
theorem gdX12_person_94 : decode cX12_person 94 = .ok (.getfield 281, 3) := by decide +kernel
theorem gdX12_person_97 : decode cX12_person 97 = .ok (.iload_n 3, 1) := by decide +kernel
theorem gdX12_person_98 : decode cX12_person 98 = .ok (.bastore, 1) := by decide +kernel
theorem gdX12_person_99 : decode cX12_person 99 = .ok (.aload_n 0, 1) := by decide +kernel
theorem gdX12_person_100 : decode cX12_person 100 = .ok (.getfield 80, 3) := by decide +kernel
theorem gdX12_person_103 : decode cX12_person 103 = .ok (.aload_n 0, 1) := by decide +kernel
theorem gdX12_person_104 : decode cX12_person 104 = .ok (.getfield 281, 3) := by decide +kernel
theorem gdX12_person_107 : decode cX12_person 107 = .ok (.iload 4, 2) := by decide +kernel
theorem gdX12_person_109 : decode cX12_person 109 = .ok (.iastore, 1) := by decide +kernel
theorem gdX12_person_110 : decode cX12_person 110 = .ok (.aload_n 0, 1) := by decide +kernel
theorem gdX12_person_111 : decode cX12_person 111 = .ok (.dup, 1) := by decide +kernel
theorem gdX12_person_112 : decode cX12_person 112 = .ok (.getfield 281, 3) := by decide +kernel
theorem gdX12_person_115 : decode cX12_person 115 = .ok (.iconst 1, 1) := by decide +kernel
theorem gdX12_person_116 : decode cX12_person 116 = .ok (.iadd, 1) := by decide +kernel
theorem gdX12_person_117 : decode cX12_person 117 = .ok (.putfield 281, 3) := by decide +kernel
theorem gdX12_person_120 : decode cX12_person 120 = .ok (.aload_n 0, 1) := by decide +kernel
theorem gdX12_person_121 : decode cX12_person 121 = .ok (.getfield 281, 3) := by decide +kernel
theorem gdX12_person_124 : decode cX12_person 124 = .ok (.iconst 1, 1) := by decide +kernel
theorem gdX12_person_125 : decode cX12_person 125 = .ok (.isub, 1) := by decide +kernel
theorem gdX12_person_126 : decode cX12_person 126 = .ok (.ireturn, 1) := by decide +kernel
theorem gdX12_person_27 : decode cX12_person 27 = .ok (.iload 4, 2) := by decide +kernel
theorem gdX12_person_29 : decode cX12_person 29 = .ok (.iconst 0, 1) := by decide +kernel
theorem gdX12_person_30 : decode cX12_person 30 = .ok (.bipush 9, 2) := by decide +kernel
theorem gdX12_person_32 : decode cX12_person 32 = .ok (.invokestatic 208, 3) := by decide +kernel
theorem gdX12_person_35 : decode cX12_person 35 = .ok (.ifCond .ne 5, 3) := by decide +kernel
theorem gdX12_person_40 : decode cX12_person 40 = .ok (.aload_n 0, 1) := by decide +kernel
theorem gdX12_person_41 : decode cX12_person 41 = .ok (.getfield 281, 3) := by decide +kernel
theorem gdX12_person_44 : decode cX12_person 44 = .ok (.bipush 40, 2) := by decide +kernel
theorem gdX12_person_46 : decode cX12_person 46 = .ok (.if_icmp .ne 6, 3) := by decide +kernel
theorem gdX12_person_52 : decode cX12_person 52 = .ok (.iload_n 1, 1) := by decide +kernel
theorem gdX12_person_53 : decode cX12_person 53 = .ok (.bipush (-9), 2) := by decide +kernel
theorem gdX12_person_55 : decode cX12_person 55 = .ok (.if_icmp .eq 14, 3) := by decide +kernel
theorem gdX12_person_58 : decode cX12_person 58 = .ok (.aload_n 0, 1) := by decide +kernel
theorem gdX12_person_59 : decode cX12_person 59 = .ok (.iload_n 1, 1) := by decide +kernel
theorem gdX12_person_60 : decode cX12_person 60 = .ok (.invokevirtual 293, 3) := by decide +kernel
theorem gdX12_person_63 : decode cX12_person 63 = .ok (.ifCond .ne 6, 3) := by decide +kernel
theorem gdX12_person_66 : decode cX12_person 66 = .ok (.bipush (-4), 2) := by decide +kernel
theorem gdX12_person_68 : decode cX12_person 68 = .ok (.ireturn, 1) := by decide +kernel
theorem gdX12_person_49 : decode cX12_person 49 = .ok (.bipush (-2), 2) := by decide +kernel
theorem gdX12_person_51 : decode cX12_person 51 = .ok (.ireturn, 1) := by decide +kernel
theorem gdX12_person_14 : decode cX12_person 14 = .ok (.iload_n 2, 1) := by decide +kernel
theorem gdX12_person_15 : decode cX12_person 15 = .ok (.bipush (-9), 2) := by decide +kernel
theorem gdX12_person_17 : decode cX12_person 17 = .ok (.if_icmp .eq 10, 3) := by decide +kernel
theorem gdX12_person_20 : decode cX12_person 20 = .ok (.iload_n 2, 1) := by decide +kernel
theorem gdX12_person_21 : decode cX12_person 21 = .ok (.invokestatic 257, 3) := by decide +kernel
theorem gdX12_person_24 : decode cX12_person 24 = .ok (.ifCond .eq 14, 3) := by decide +kernel
theorem gdX12_person_0 : decode cX12_person 0 = .ok (.iload_n 1, 1) := by decide +kernel
theorem gdX12_person_1 : decode cX12_person 1 = .ok (.bipush (-9), 2) := by decide +kernel
theorem gdX12_person_3 : decode cX12_person 3 = .ok (.if_icmp .eq 11, 3) := by decide +kernel
theorem gdX12_person_6 : decode cX12_person 6 = .ok (.aload_n 0, 1) := by decide +kernel
theorem gdX12_person_7 : decode cX12_person 7 = .ok (.iload_n 1, 1) := by decide +kernel
theorem gdX12_person_8 : decode cX12_person 8 = .ok (.invokevirtual 274, 3) := by decide +kernel
theorem gdX12_person_11 : decode cX12_person 11 = .ok (.ifCond .eq 27, 3) := by decide +kernel
theorem gdX12_put_0 : decode cX12_put 0 = .ok (.aload_n 0, 1) := by decide +kernel
theorem gdX12_put_1 : decode cX12_put 1 = .ok (.iload_n 1, 1) := by decide +kernel
theorem gdX12_put_2 : decode cX12_put 2 = .ok (.invokevirtual 226, 3) := by decide +kernel
theorem gdX12_put_5 : decode cX12_put 5 = .ok (.istore 4, 2) := by decide +kernel
theorem gdX12_put_7 : decode cX12_put 7 = .ok (.iload 4, 2) := by decide +kernel
theorem gdX12_put_9 : decode cX12_put 9 = .ok (.ifCond .ge 6, 3) := by decide +kernel
theorem gdX12_put_15 : decode cX12_put 15 = .ok (.iload_n 2, 1) := by decide +kernel
theorem gdX12_put_16 : decode cX12_put 16 = .ok (.iconst 0, 1) := by decide +kernel
theorem gdX12_put_17 : decode cX12_put 17 = .ok (.aload_n 0, 1) := by decide +kernel
theorem gdX12_put_18 : decode cX12_put 18 = .ok (.getfield 22, 3) := by decide +kernel
theorem gdX12_put_21 : decode cX12_put 21 = .ok (.iload_n 1, 1) := by decide +kernel
theorem gdX12_put_22 : decode cX12_put 22 = .ok (.iaload, 1) := by decide +kernel
theorem gdX12_put_23 : decode cX12_put 23 = .ok (.iconst 1, 1) := by decide +kernel
theorem gdX12_put_24 : decode cX12_put 24 = .ok (.isub, 1) := by decide +kernel
theorem gdX12_put_25 : decode cX12_put 25 = .ok (.invokestatic 208, 3) := by decide +kernel
theorem gdX12_put_28 : decode cX12_put 28 = .ok (.ifCond .ne 9, 3) := by decide +kernel
theorem gdX12_put_37 : decode cX12_put 37 = .ok (.aload_n 0, 1) := by decide +kernel
theorem gdX12_put_38 : decode cX12_put 38 = .ok (.getfield 25, 3) := by decide +kernel
theorem gdX12_put_41 : decode cX12_put 41 = .ok (.bipush 40, 2) := by decide +kernel
theorem gdX12_put_43 : decode cX12_put 43 = .ok (.iload_n 1, 1) := by decide +kernel
theorem gdX12_put_44 : decode cX12_put 44 = .ok (.imul, 1) := by decide +kernel
theorem gdX12_put_45 : decode cX12_put 45 = .ok (.iload_n 2, 1) := by decide +kernel
theorem gdX12_put_46 : decode cX12_put 46 = .ok (.iadd, 1) := by decide +kernel
theorem gdX12_put_47 : decode cX12_put 47 = .ok (.iaload, 1) := by decide +kernel
theorem gdX12_put_48 : decode cX12_put 48 = .ok (.istore 5, 2) := by decide +kernel
theorem gdX12_put_50 : decode cX12_put 50 = .ok (.aload_n 0, 1) := by decide +kernel
theorem gdX12_put_51 : decode cX12_put 51 = .ok (.getfield 25, 3) := by decide +kernel
theorem gdX12_put_54 : decode cX12_put 54 = .ok (.bipush 40, 2) := by decide +kernel
theorem gdX12_put_56 : decode cX12_put 56 = .ok (.iload_n 1, 1) := by decide +kernel
theorem gdX12_put_57 : decode cX12_put 57 = .ok (.imul, 1) := by decide +kernel
theorem gdX12_put_58 : decode cX12_put 58 = .ok (.iload_n 2, 1) := by decide +kernel
theorem gdX12_put_59 : decode cX12_put 59 = .ok (.iadd, 1) := by decide +kernel
theorem gdX12_put_60 : decode cX12_put 60 = .ok (.iload_n 3, 1) := by decide +kernel
theorem gdX12_put_61 : decode cX12_put 61 = .ok (.i2b, 1) := by decide +kernel
theorem gdX12_put_62 : decode cX12_put 62 = .ok (.iastore, 1) := by decide +kernel
theorem gdX12_put_63 : decode cX12_put 63 = .ok (.iload 5, 2) := by decide +kernel
theorem gdX12_put_65 : decode cX12_put 65 = .ok (.sipush 1000, 3) := by decide +kernel
theorem gdX12_put_68 : decode cX12_put 68 = .ok (.iadd, 1) := by decide +kernel
theorem gdX12_put_69 : decode cX12_put 69 = .ok (.ireturn, 1) := by decide +kernel
theorem gdX12_put_31 : decode cX12_put 31 = .ok (.aload_n 0, 1) := by decide +kernel
theorem gdX12_put_32 : decode cX12_put 32 = .ok (.iconst 2, 1) := by decide +kernel
theorem gdX12_put_33 : decode cX12_put 33 = .ok (.invokevirtual 216, 3) := by decide +kernel
theorem gdX12_put_36 : decode cX12_put 36 = .ok (.ireturn, 1) := by decide +kernel
theorem gdX12_put_12 : decode cX12_put 12 = .ok (.iload 4, 2) := by decide +kernel
theorem gdX12_put_14 : decode cX12_put 14 = .ok (.ireturn, 1) := by decide +kernel
theorem gdX12_ramp_15 : decode cX12_ramp 15 = .ok (.iconst (-1), 1) := by decide +kernel
theorem gdX12_ramp_16 : decode cX12_ramp 16 = .ok (.ireturn, 1) := by decide +kernel
theorem gdX12_ramp_121 : decode cX12_ramp 121 = .ok (.bipush (-4), 2) := by decide +kernel
theorem gdX12_ramp_123 : decode cX12_ramp 123 = .ok (.ireturn, 1) := by decide +kernel
theorem gdX12_ramp_95 : decode cX12_ramp 95 = .ok (.aload_n 0, 1) := by decide +kernel
theorem gdX12_ramp_96 : decode cX12_ramp 96 = .ok (.getfield 40, 3) := by decide +kernel
theorem gdX12_ramp_99 : decode cX12_ramp 99 = .ok (.iload_n 2, 1) := by decide +kernel
theorem gdX12_ramp_100 : decode cX12_ramp 100 = .ok (.iaload, 1) := by decide +kernel
theorem gdX12_ramp_101 : decode cX12_ramp 101 = .ok (.iconst 4, 1) := by decide +kernel
theorem gdX12_ramp_102 : decode cX12_ramp 102 = .ok (.if_icmp .eq 19, 3) := by decide +kernel
theorem gdX12_ramp_105 : decode cX12_ramp 105 = .ok (.iload_n 3, 1) := by decide +kernel
theorem gdX12_ramp_106 : decode cX12_ramp 106 = .ok (.ifCond .eq 15, 3) := by decide +kernel
theorem gdX12_ramp_109 : decode cX12_ramp 109 = .ok (.aload_n 0, 1) := by decide +kernel
theorem gdX12_ramp_110 : decode cX12_ramp 110 = .ok (.iload_n 1, 1) := by decide +kernel
theorem gdX12_ramp_111 : decode cX12_ramp 111 = .ok (.invokevirtual 340, 3) := by decide +kernel
theorem gdX12_ramp_114 : decode cX12_ramp 114 = .ok (.iload_n 2, 1) := by decide +kernel
theorem gdX12_ramp_115 : decode cX12_ramp 115 = .ok (.invokestatic 344, 3) := by decide +kernel
theorem gdX12_ramp_118 : decode cX12_ramp 118 = .ok (.ifCond .eq 6, 3) := by decide +kernel
theorem gdX12_ramp_124 : decode cX12_ramp 124 = .ok (.aload_n 0, 1) := by decide +kernel
theorem gdX12_ramp_125 : decode cX12_ramp 125 = .ok (.iconst 2, 1) := by decide +kernel
theorem gdX12_ramp_126 : decode cX12_ramp 126 = .ok (.iload_n 1, 1) := by decide +kernel
theorem gdX12_ramp_127 : decode cX12_ramp 127 = .ok (.invokevirtual 334, 3) := by decide +kernel
theorem gdX12_ramp_130 : decode cX12_ramp 130 = .ok (.istore 4, 2) := by decide +kernel
theorem gdX12_ramp_132 : decode cX12_ramp 132 = .ok (.aload_n 0, 1) := by decide +kernel
theorem gdX12_ramp_133 : decode cX12_ramp 133 = .ok (.getfield 92, 3) := by decide +kernel
theorem gdX12_ramp_136 : decode cX12_ramp 136 = .ok (.iload 4, 2) := by decide +kernel
theorem gdX12_ramp_138 : decode cX12_ramp 138 = .ok (.iconst 0, 1) := by decide +kernel
theorem gdX12_ramp_139 : decode cX12_ramp 139 = .ok (.iastore, 1) := by decide +kernel
theorem gdX12_ramp_140 : decode cX12_ramp 140 = .ok (.aload_n 0, 1) := by decide +kernel
theorem gdX12_ramp_141 : decode cX12_ramp 141 = .ok (.getfield 101, 3) := by decide +kernel
theorem gdX12_ramp_144 : decode cX12_ramp 144 = .ok (.bipush 64, 2) := by decide +kernel
theorem gdX12_ramp_146 : decode cX12_ramp 146 = .ok (.iload 4, 2) := by decide +kernel
theorem gdX12_ramp_148 : decode cX12_ramp 148 = .ok (.imul, 1) := by decide +kernel
theorem gdX12_ramp_149 : decode cX12_ramp 149 = .ok (.iload_n 2, 1) := by decide +kernel
theorem gdX12_ramp_150 : decode cX12_ramp 150 = .ok (.iastore, 1) := by decide +kernel
theorem gdX12_ramp_151 : decode cX12_ramp 151 = .ok (.aload_n 0, 1) := by decide +kernel
theorem gdX12_ramp_152 : decode cX12_ramp 152 = .ok (.getfield 98, 3) := by decide +kernel
theorem gdX12_ramp_155 : decode cX12_ramp 155 = .ok (.iload 4, 2) := by decide +kernel
theorem gdX12_ramp_157 : decode cX12_ramp 157 = .ok (.iconst 1, 1) := by decide +kernel
theorem gdX12_ramp_158 : decode cX12_ramp 158 = .ok (.iastore, 1) := by decide +kernel
theorem gdX12_ramp_159 : decode cX12_ramp 159 = .ok (.iload 4, 2) := by decide +kernel
theorem gdX12_ramp_161 : decode cX12_ramp 161 = .ok (.ireturn, 1) := by decide +kernel
theorem gdX12_ramp_88 : decode cX12_ramp 88 = .ok (.istore_n 3, 1) := by decide +kernel
theorem gdX12_ramp_89 : decode cX12_ramp 89 = .ok (.iinc 4 1, 3) := by decide +kernel
theorem gdX12_ramp_92 : decode cX12_ramp 92 = .ok (.goto (-44), 3) := by decide +kernel
theorem gdX12_ramp_83 : decode cX12_ramp 83 = .ok (.iconst 1, 1) := by decide +kernel
theorem gdX12_ramp_84 : decode cX12_ramp 84 = .ok (.goto 4, 3) := by decide +kernel
theorem gdX12_ramp_48 : decode cX12_ramp 48 = .ok (.iload 4, 2) := by decide +kernel
theorem gdX12_ramp_50 : decode cX12_ramp 50 = .ok (.aload_n 0, 1) := by decide +kernel
theorem gdX12_ramp_51 : decode cX12_ramp 51 = .ok (.getfield 98, 3) := by decide +kernel
theorem gdX12_ramp_54 : decode cX12_ramp 54 = .ok (.iload_n 1, 1) := by decide +kernel
theorem gdX12_ramp_55 : decode cX12_ramp 55 = .ok (.iaload, 1) := by decide +kernel
theorem gdX12_ramp_56 : decode cX12_ramp 56 = .ok (.if_icmp .ge 39, 3) := by decide +kernel
theorem gdX12_ramp_59 : decode cX12_ramp 59 = .ok (.iload_n 3, 1) := by decide +kernel
theorem gdX12_ramp_60 : decode cX12_ramp 60 = .ok (.ifCond .ne 23, 3) := by decide +kernel
theorem gdX12_ramp_63 : decode cX12_ramp 63 = .ok (.aload_n 0, 1) := by decide +kernel
theorem gdX12_ramp_64 : decode cX12_ramp 64 = .ok (.getfield 101, 3) := by decide +kernel
theorem gdX12_ramp_67 : decode cX12_ramp 67 = .ok (.bipush 64, 2) := by decide +kernel
theorem gdX12_ramp_69 : decode cX12_ramp 69 = .ok (.iload_n 1, 1) := by decide +kernel
theorem gdX12_ramp_70 : decode cX12_ramp 70 = .ok (.imul, 1) := by decide +kernel
theorem gdX12_ramp_71 : decode cX12_ramp 71 = .ok (.iload 4, 2) := by decide +kernel
theorem gdX12_ramp_73 : decode cX12_ramp 73 = .ok (.iadd, 1) := by decide +kernel
theorem gdX12_ramp_74 : decode cX12_ramp 74 = .ok (.iaload, 1) := by decide +kernel
theorem gdX12_ramp_75 : decode cX12_ramp 75 = .ok (.iload_n 2, 1) := by decide +kernel
theorem gdX12_ramp_76 : decode cX12_ramp 76 = .ok (.invokestatic 337, 3) := by decide +kernel
theorem gdX12_ramp_79 : decode cX12_ramp 79 = .ok (.iconst 1, 1) := by decide +kernel
theorem gdX12_ramp_80 : decode cX12_ramp 80 = .ok (.if_icmp .ne 7, 3) := by decide +kernel
theorem gdX12_ramp_87 : decode cX12_ramp 87 = .ok (.iconst 0, 1) := by decide +kernel
theorem gdX12_ramp_0 : decode cX12_ramp 0 = .ok (.aload_n 0, 1) := by decide +kernel
theorem gdX12_ramp_1 : decode cX12_ramp 1 = .ok (.iload_n 1, 1) := by decide +kernel
theorem gdX12_ramp_2 : decode cX12_ramp 2 = .ok (.invokevirtual 308, 3) := by decide +kernel
theorem gdX12_ramp_5 : decode cX12_ramp 5 = .ok (.ifCond .eq 10, 3) := by decide +kernel
theorem gdX12_ramp_8 : decode cX12_ramp 8 = .ok (.iload_n 2, 1) := by decide +kernel
theorem gdX12_ramp_9 : decode cX12_ramp 9 = .ok (.invokestatic 257, 3) := by decide +kernel
theorem gdX12_ramp_12 : decode cX12_ramp 12 = .ok (.ifCond .ne 5, 3) := by decide +kernel
theorem gdX12_ramp_17 : decode cX12_ramp 17 = .ok (.aload_n 0, 1) := by decide +kernel
theorem gdX12_ramp_18 : decode cX12_ramp 18 = .ok (.getfield 305, 3) := by decide +kernel
theorem gdX12_ramp_21 : decode cX12_ramp 21 = .ok (.bipush 24, 2) := by decide +kernel
theorem gdX12_ramp_23 : decode cX12_ramp 23 = .ok (.if_icmp .ne 6, 3) := by decide +kernel
theorem gdX12_ramp_29 : decode cX12_ramp 29 = .ok (.aload_n 0, 1) := by decide +kernel
theorem gdX12_ramp_30 : decode cX12_ramp 30 = .ok (.iload_n 1, 1) := by decide +kernel
theorem gdX12_ramp_31 : decode cX12_ramp 31 = .ok (.invokevirtual 311, 3) := by decide +kernel
theorem gdX12_ramp_34 : decode cX12_ramp 34 = .ok (.ifCond .ne 9, 3) := by decide +kernel
theorem gdX12_ramp_43 : decode cX12_ramp 43 = .ok (.iconst 0, 1) := by decide +kernel
theorem gdX12_ramp_44 : decode cX12_ramp 44 = .ok (.istore_n 3, 1) := by decide +kernel
theorem gdX12_ramp_45 : decode cX12_ramp 45 = .ok (.iconst 0, 1) := by decide +kernel
theorem gdX12_ramp_46 : decode cX12_ramp 46 = .ok (.istore 4, 2) := by decide +kernel
theorem gdX12_ramp_37 : decode cX12_ramp 37 = .ok (.aload_n 0, 1) := by decide +kernel
theorem gdX12_ramp_38 : decode cX12_ramp 38 = .ok (.iconst 3, 1) := by decide +kernel
theorem gdX12_ramp_39 : decode cX12_ramp 39 = .ok (.invokevirtual 216, 3) := by decide +kernel
theorem gdX12_ramp_42 : decode cX12_ramp 42 = .ok (.ireturn, 1) := by decide +kernel
theorem gdX12_ramp_26 : decode cX12_ramp 26 = .ok (.bipush (-2), 2) := by decide +kernel
theorem gdX12_ramp_28 : decode cX12_ramp 28 = .ok (.ireturn, 1) := by decide +kernel
theorem gdX12_row_13 : decode cX12_row 13 = .ok (.iconst (-1), 1) := by decide +kernel
theorem gdX12_row_14 : decode cX12_row 14 = .ok (.ireturn, 1) := by decide +kernel
theorem gdX12_row_58 : decode cX12_row 58 = .ok (.iload_n 2, 1) := by decide +kernel
theorem gdX12_row_59 : decode cX12_row 59 = .ok (.ireturn, 1) := by decide +kernel
theorem gdX12_row_34 : decode cX12_row 34 = .ok (.iload_n 3, 1) := by decide +kernel
theorem gdX12_row_35 : decode cX12_row 35 = .ok (.bipush 40, 2) := by decide +kernel
theorem gdX12_row_37 : decode cX12_row 37 = .ok (.if_icmp .ge 21, 3) := by decide +kernel
theorem gdX12_row_40 : decode cX12_row 40 = .ok (.aload_n 0, 1) := by decide +kernel
theorem gdX12_row_41 : decode cX12_row 41 = .ok (.getfield 16, 3) := by decide +kernel
theorem gdX12_row_44 : decode cX12_row 44 = .ok (.bipush 40, 2) := by decide +kernel
theorem gdX12_row_46 : decode cX12_row 46 = .ok (.iload_n 1, 1) := by decide +kernel
theorem gdX12_row_47 : decode cX12_row 47 = .ok (.imul, 1) := by decide +kernel
theorem gdX12_row_48 : decode cX12_row 48 = .ok (.iload_n 3, 1) := by decide +kernel
theorem gdX12_row_49 : decode cX12_row 49 = .ok (.iadd, 1) := by decide +kernel
theorem gdX12_row_50 : decode cX12_row 50 = .ok (.iconst 0, 1) := by decide +kernel
theorem gdX12_row_51 : decode cX12_row 51 = .ok (.iastore, 1) := by decide +kernel
theorem gdX12_row_52 : decode cX12_row 52 = .ok (.iinc 3 1, 3) := by decide +kernel
theorem gdX12_row_55 : decode cX12_row 55 = .ok (.goto (-21), 3) := by decide +kernel
theorem gdX12_row_0 : decode cX12_row 0 = .ok (.iload_n 1, 1) := by decide +kernel
theorem gdX12_row_1 : decode cX12_row 1 = .ok (.invokestatic 212, 3) := by decide +kernel
theorem gdX12_row_4 : decode cX12_row 4 = .ok (.ifCond .eq 9, 3) := by decide +kernel
theorem gdX12_row_7 : decode cX12_row 7 = .ok (.iload_n 2, 1) := by decide +kernel
theorem gdX12_row_8 : decode cX12_row 8 = .ok (.bipush 40, 2) := by decide +kernel
theorem gdX12_row_10 : decode cX12_row 10 = .ok (.if_icmp .le 5, 3) := by decide +kernel
theorem gdX12_row_15 : decode cX12_row 15 = .ok (.iload_n 2, 1) := by decide +kernel
theorem gdX12_row_16 : decode cX12_row 16 = .ok (.ifCond .ge 9, 3) := by decide +kernel
theorem gdX12_row_25 : decode cX12_row 25 = .ok (.aload_n 0, 1) := by decide +kernel
theorem gdX12_row_26 : decode cX12_row 26 = .ok (.getfield 13, 3) := by decide +kernel
theorem gdX12_row_29 : decode cX12_row 29 = .ok (.iload_n 1, 1) := by decide +kernel
theorem gdX12_row_30 : decode cX12_row 30 = .ok (.iload_n 2, 1) := by decide +kernel
theorem gdX12_row_31 : decode cX12_row 31 = .ok (.iastore, 1) := by decide +kernel
theorem gdX12_row_32 : decode cX12_row 32 = .ok (.iconst 0, 1) := by decide +kernel
theorem gdX12_row_33 : decode cX12_row 33 = .ok (.istore_n 3, 1) := by decide +kernel
theorem gdX12_row_19 : decode cX12_row 19 = .ok (.aload_n 0, 1) := by decide +kernel
theorem gdX12_row_20 : decode cX12_row 20 = .ok (.iconst 5, 1) := by decide +kernel
theorem gdX12_row_21 : decode cX12_row 21 = .ok (.invokevirtual 216, 3) := by decide +kernel
theorem gdX12_row_24 : decode cX12_row 24 = .ok (.ireturn, 1) := by decide +kernel
theorem gdX12_rule_14 : decode cX12_rule 14 = .ok (.iconst (-1), 1) := by decide +kernel
theorem gdX12_rule_15 : decode cX12_rule 15 = .ok (.ireturn, 1) := by decide +kernel
theorem gdX12_rule_113 : decode cX12_rule 113 = .ok (.aload_n 0, 1) := by decide +kernel
theorem gdX12_rule_114 : decode cX12_rule 114 = .ok (.dup, 1) := by decide +kernel
theorem gdX12_rule_115 : decode cX12_rule 115 = .ok (.getfield 241, 3) := by decide +kernel
theorem gdX12_rule_118 : decode cX12_rule 118 = .ok (.iconst 1, 1) := by decide +kernel
theorem gdX12_rule_119 : decode cX12_rule 119 = .ok (.iadd, 1) := by decide +kernel
theorem gdX12_rule_120 : decode cX12_rule 120 = .ok (.putfield 241, 3) := by decide +kernel
theorem gdX12_rule_123 : decode cX12_rule 123 = .ok (.aload_n 0, 1) := by decide +kernel
theorem gdX12_rule_124 : decode cX12_rule 124 = .ok (.getfield 241, 3) := by decide +kernel
theorem gdX12_rule_127 : decode cX12_rule 127 = .ok (.iconst 1, 1) := by decide +kernel
theorem gdX12_rule_128 : decode cX12_rule 128 = .ok (.isub, 1) := by decide +kernel
theorem gdX12_rule_129 : decode cX12_rule 129 = .ok (.ireturn, 1) := by decide +kernel
theorem gdX12_rule_81 : decode cX12_rule 81 = .ok (.iload_n 3, 1) := by decide +kernel
theorem gdX12_rule_82 : decode cX12_rule 82 = .ok (.bipush 8, 2) := by decide +kernel
theorem gdX12_rule_84 : decode cX12_rule 84 = .ok (.if_icmp .ge 29, 3) := by decide +kernel
theorem gdX12_rule_87 : decode cX12_rule 87 = .ok (.aload_n 0, 1) := by decide +kernel
theorem gdX12_rule_88 : decode cX12_rule 88 = .ok (.getfield 34, 3) := by decide +kernel
theorem gdX12_rule_91 : decode cX12_rule 91 = .ok (.bipush 8, 2) := by decide +kernel
theorem gdX12_rule_93 : decode cX12_rule 93 = .ok (.aload_n 0, 1) := by decide +kernel
theorem gdX12_rule_94 : decode cX12_rule 94 = .ok (.getfield 241, 3) := by decide +kernel
theorem gdX12_rule_97 : decode cX12_rule 97 = .ok (.imul, 1) := by decide +kernel
theorem gdX12_rule_98 : decode cX12_rule 98 = .ok (.iload_n 3, 1) := by decide +kernel
theorem gdX12_rule_99 : decode cX12_rule 99 = .ok (.iadd, 1) := by decide +kernel
theorem gdX12_rule_100 : decode cX12_rule 100 = .ok (.aload_n 0, 1) := by decide +kernel
theorem gdX12_rule_101 : decode cX12_rule 101 = .ok (.getfield 37, 3) := by decide +kernel
theorem gdX12_rule_104 : decode cX12_rule 104 = .ok (.iload_n 3, 1) := by decide +kernel
theorem gdX12_rule_105 : decode cX12_rule 105 = .ok (.iaload, 1) := by decide +kernel
theorem gdX12_rule_106 : decode cX12_rule 106 = .ok (.iastore, 1) := by decide +kernel
theorem gdX12_rule_107 : decode cX12_rule 107 = .ok (.iinc 3 1, 3) := by decide +kernel
theorem gdX12_rule_110 : decode cX12_rule 110 = .ok (.goto (-29), 3) := by decide +kernel
theorem gdX12_rule_0 : decode cX12_rule 0 = .ok (.iload_n 1, 1) := by decide +kernel
theorem gdX12_rule_1 : decode cX12_rule 1 = .ok (.invokestatic 220, 3) := by decide +kernel
theorem gdX12_rule_4 : decode cX12_rule 4 = .ok (.ifCond .eq 10, 3) := by decide +kernel
theorem gdX12_rule_7 : decode cX12_rule 7 = .ok (.iload_n 2, 1) := by decide +kernel
theorem gdX12_rule_8 : decode cX12_rule 8 = .ok (.invokestatic 238, 3) := by decide +kernel
theorem gdX12_rule_11 : decode cX12_rule 11 = .ok (.ifCond .ne 5, 3) := by decide +kernel
theorem gdX12_rule_16 : decode cX12_rule 16 = .ok (.aload_n 0, 1) := by decide +kernel
theorem gdX12_rule_17 : decode cX12_rule 17 = .ok (.getfield 241, 3) := by decide +kernel
theorem gdX12_rule_20 : decode cX12_rule 20 = .ok (.bipush 16, 2) := by decide +kernel
theorem gdX12_rule_22 : decode cX12_rule 22 = .ok (.if_icmp .ne 6, 3) := by decide +kernel
theorem gdX12_rule_28 : decode cX12_rule 28 = .ok (.aload_n 0, 1) := by decide +kernel
theorem gdX12_rule_29 : decode cX12_rule 29 = .ok (.getfield 22, 3) := by decide +kernel
theorem gdX12_rule_32 : decode cX12_rule 32 = .ok (.iload_n 1, 1) := by decide +kernel
theorem gdX12_rule_33 : decode cX12_rule 33 = .ok (.iaload, 1) := by decide +kernel
theorem gdX12_rule_34 : decode cX12_rule 34 = .ok (.ifCond .ge 9, 3) := by decide +kernel
theorem gdX12_rule_43 : decode cX12_rule 43 = .ok (.aload_n 0, 1) := by decide +kernel
theorem gdX12_rule_44 : decode cX12_rule 44 = .ok (.iload_n 1, 1) := by decide +kernel
theorem gdX12_rule_45 : decode cX12_rule 45 = .ok (.invokevirtual 235, 3) := by decide +kernel
theorem gdX12_rule_48 : decode cX12_rule 48 = .ok (.bipush (-9), 2) := by decide +kernel
theorem gdX12_rule_50 : decode cX12_rule 50 = .ok (.if_icmp .eq 6, 3) := by decide +kernel
theorem gdX12_rule_56 : decode cX12_rule 56 = .ok (.aload_n 0, 1) := by decide +kernel
theorem gdX12_rule_57 : decode cX12_rule 57 = .ok (.getfield 28, 3) := by decide +kernel
theorem gdX12_rule_60 : decode cX12_rule 60 = .ok (.aload_n 0, 1) := by decide +kernel
theorem gdX12_rule_61 : decode cX12_rule 61 = .ok (.getfield 241, 3) := by decide +kernel
theorem gdX12_rule_64 : decode cX12_rule 64 = .ok (.aload_n 0, 1) := by decide +kernel
theorem gdX12_rule_65 : decode cX12_rule 65 = .ok (.getfield 229, 3) := by decide +kernel
theorem gdX12_rule_68 : decode cX12_rule 68 = .ok (.iastore, 1) := by decide +kernel
theorem gdX12_rule_69 : decode cX12_rule 69 = .ok (.aload_n 0, 1) := by decide +kernel
theorem gdX12_rule_70 : decode cX12_rule 70 = .ok (.getfield 31, 3) := by decide +kernel
theorem gdX12_rule_73 : decode cX12_rule 73 = .ok (.aload_n 0, 1) := by decide +kernel
theorem gdX12_rule_74 : decode cX12_rule 74 = .ok (.getfield 241, 3) := by decide +kernel
theorem gdX12_rule_77 : decode cX12_rule 77 = .ok (.iload_n 2, 1) := by decide +kernel
theorem gdX12_rule_78 : decode cX12_rule 78 = .ok (.iastore, 1) := by decide +kernel
theorem gdX12_rule_79 : decode cX12_rule 79 = .ok (.iconst 0, 1) := by decide +kernel
theorem gdX12_rule_80 : decode cX12_rule 80 = .ok (.istore_n 3, 1) := by decide +kernel
theorem gdX12_rule_53 : decode cX12_rule 53 = .ok (.bipush (-4), 2) := by decide +kernel
theorem gdX12_rule_55 : decode cX12_rule 55 = .ok (.ireturn, 1) := by decide +kernel
theorem gdX12_rule_37 : decode cX12_rule 37 = .ok (.aload_n 0, 1) := by decide +kernel
theorem gdX12_rule_38 : decode cX12_rule 38 = .ok (.iconst 1, 1) := by decide +kernel
theorem gdX12_rule_39 : decode cX12_rule 39 = .ok (.invokevirtual 216, 3) := by decide +kernel
theorem gdX12_rule_42 : decode cX12_rule 42 = .ok (.ireturn, 1) := by decide +kernel
theorem gdX12_rule_25 : decode cX12_rule 25 = .ok (.bipush (-2), 2) := by decide +kernel
theorem gdX12_rule_27 : decode cX12_rule 27 = .ok (.ireturn, 1) := by decide +kernel
theorem okm_X12_setLeft : okM yX12_setLeft cX12_setLeft 9 none 2 := ⟨w_1878, w_103, by decide +kernel, by decide +kernel, by decide +kernel⟩
theorem okw_X12_setLeft : okV yX12_setLeft := ⟨w_1877, w_55⟩
theorem okm_X12_costOf : okM yX12_costOf cX12_costOf 4 (some .int) 2 := ⟨w_1870, w_103, by decide +kernel, by decide +kernel, by decide +kernel⟩
theorem okw_X12_costOf : okV yX12_costOf := ⟨w_1869, w_53⟩
theorem okm_X12_hasRoom : okM yX12_hasRoom cX12_hasRoom 2 (some .boolean) 1 := ⟨w_1846, w_103, by decide +kernel, by decide +kernel, by decide +kernel⟩
theorem okw_X12_hasRoom : okV yX12_hasRoom := ⟨w_1845, w_50⟩
noncomputable def b_X12_line_26 (o : OO) : Option (Int × OO) := some ((-1), o)
noncomputable def b_X12_line_102 (o : OO) : Option (Int × OO) := qB2 (s_X12_meets o 3) (fun r1 o3 => some (r1, o3))
noncomputable def b_X12_line_134 (o : OO) : Option (Int × OO) := some ((-4), o)
noncomputable def b_X12_line_426 (o : OO) (x5 : Int) : Option (Int × OO) := some (x5, o)
noncomputable def b_X12_line_384 (o : OO) (x2 : Int) (x4 : Int) (x5 : Int) (x8 : Int) (x9 : Int) : Option ((OO × Int × Int) ⊕ ((OO))) := qIn x5 24 (qNm (o.1 30 x5.toNat) (fun n5 => qIn ((64 * x5) + n5) 1536 (qNm (st1 o 31 (((64 * x5) + n5).toNat) x8) (fun o7 => qIn x5 24 (qNm (o7.1 30 x5.toNat) (fun n9 => qIn x5 24 (qNm (st1 o7 30 x5.toNat (n9 + 1)) (fun o11 => some (.inl (o11, x8, x9))))))))))
noncomputable def b_X12_line_378 (o : OO) (x2 : Int) (x4 : Int) (x5 : Int) (x6 : Int) (x7 : Int) (x8 : Int) (x9 : Int) (x10 : Int) : Option ((Int × Int × Int) ⊕ ((Int × Int))) := some (.inl (x8, x9, x10 + 1))
noncomputable def l_X12_line_292 (o : OO) (x2 : Int) (x4 : Int) (x5 : Int) (x6 : Int) (x7 : Int) (x8 : Int) (x9 : Int) (x10 : Int) : Option ((Int × Int × Int) ⊕ ((Int × Int))) := qLt x10 4 (qLt x8 0 (qB (s_X12_beside x6 x10) (fun r12 => qB (s_X12_leads o x6 r12 x4) (fun r14 => qEq r14 0 (b_X12_line_378 o x2 x4 x5 x6 x7 x8 x9 x10) (qIn ((5 * r12) + x10) 320 (qNm (o.1 38 ((5 * r12) + x10).toNat) (fun n17 => qLt n17 100000000 (qB (s_X12_goOn o x6 x7 x10 r12) (fun r18 => qIn ((5 * x6) + x7) 320 (qNm (o.1 38 ((5 * x6) + x7).toNat) (fun n21 => qEq r18 n21 (b_X12_line_378 o x2 x4 x5 x6 x7 r12 x10 x10) (b_X12_line_378 o x2 x4 x5 x6 x7 x8 x9 x10))))) (b_X12_line_378 o x2 x4 x5 x6 x7 x8 x9 x10))))))) (some (.inr ((x8, x9))))) (some (.inr ((x8, x9))))
noncomputable def e_X12_line_292 (o : OO) (x2 : Int) (x4 : Int) (x5 : Int) (x6 : Int) (x7 : Int) (x8 : Int) (x9 : Int) (x10 : Int) : Option ((OO × Int × Int) ⊕ ((OO))) := qB (loopW (fun s => l_X12_line_292 o x2 x4 x5 x6 x7 s.1 s.2.1 s.2.2) (x8, x9, x10)) (fun r => b_X12_line_384 o x2 x4 x5 r.1 r.2)
noncomputable def l_X12_line_276 (x2 : Int) (x4 : Int) (x5 : Int) (o : OO) (x6 : Int) (x7 : Int) : Option ((OO × Int × Int) ⊕ ((OO))) := qEq x6 x2 (some (.inr (o))) (e_X12_line_292 o x2 x4 x5 x6 x7 (-9) 0 0)
noncomputable def e_X12_line_276 (o : OO) (x2 : Int) (x4 : Int) (x5 : Int) (x6 : Int) (x7 : Int) : Option (Int × OO) := qB (loopW (fun s => l_X12_line_276 x2 x4 x5 s.1 s.2.1 s.2.2) (o, x6, x7)) (fun r => b_X12_line_426 r x5)
noncomputable def b_X12_line_182 (o : OO) (x1 : Int) (x2 : Int) : Option (Int × OO) := qB (s_X12_nowInForce o 0) (fun r22 => qB (s_X12_setLeft o x2 r22) (fun o26 => qIn ((5 * x1) + 4) 320 (qNm (o26.1 38 ((5 * x1) + 4).toNat) (fun n28 => qEq n28 100000000 (qB2 (s_X12_meets o26 1) (fun r42 o44 => some (r42, o44))) (qB2 (s_X12_enter o26 1 (-9)) (fun r29 o31 => qIn x1 64 (qNm (o31.1 39 x1.toNat) (fun n33 => qIn ((5 * x1) + 4) 320 (qNm (o31.1 38 ((5 * x1) + 4).toNat) (fun n35 => qIn r29 24 (qNm (st1 o31 28 r29.toNat (n33 + n35)) (fun o37 => qIn (64 * r29) 1536 (qNm (st1 o37 31 ((64 * r29).toNat) x1) (fun o39 => qIn r29 24 (qNm (st1 o39 30 r29.toNat 1) (fun o41 => e_X12_line_276 o41 x2 r22 r29 x1 4))))))))))))))))
noncomputable def b_X12_line_175 (o : OO) (x1 : Int) (x2 : Int) (x3 : Int) (x4 : Int) (y1 : Int) (y2 : Int) : Option ((OO × Int) ⊕ ((OO))) := qIn y1 64 (qNm (st1 o 39 y1.toNat y2) (fun o46 => some (.inl (o46, x4 + 1))))
noncomputable def l_X12_line_140 (x1 : Int) (x2 : Int) (x3 : Int) (o : OO) (x4 : Int) : Option ((OO × Int) ⊕ ((OO))) := qLt x4 64 (qIn x4 64 (qNm (o.1 11 x4.toNat) (fun n48 => qEq n48 4 (b_X12_line_175 o x1 x2 x3 x4 x4 0) (qB (s_X12_costOf o x4 x3) (fun r49 => b_X12_line_175 o x1 x2 x3 x4 x4 r49))))) (some (.inr (o)))
noncomputable def e_X12_line_140 (o : OO) (x1 : Int) (x2 : Int) (x3 : Int) (x4 : Int) : Option (Int × OO) := qB (loopW (fun s => l_X12_line_140 x1 x2 x3 s.1 s.2) (o, x4)) (fun r => b_X12_line_182 r x1 x2)
noncomputable def b_X12_line_114 (o : OO) (x1 : Int) (x2 : Int) (x3 : Int) : Option (Int × OO) := qIn x1 64 (qNm (o.1 11 x1.toNat) (fun n52 => qEq n52 4 (b_X12_line_134 o) (qIn x2 64 (qNm (o.1 11 x2.toNat) (fun n54 => qEq n54 4 (b_X12_line_134 o) (e_X12_line_140 o x1 x2 x3 0))))))
noncomputable def l_X12_line_74 (o : OO) (x1 : Int) (x2 : Int) (x3 : Int) (x4 : Int) : Option ((Int) ⊕ ((Unit) ⊕ (Unit))) := qLt x4 4 (qIn ((40 * x3) + x4) 240 (qNm (o.1 3 ((40 * x3) + x4).toNat) (fun n56 => qB (s_X12_in n56 0 1000) (fun r57 => qEq r57 0 (some (.inr (.inl ()))) (some (.inl (x4 + 1))))))) (some (.inr (.inr ())))
noncomputable def e_X12_line_74 (o : OO) (x1 : Int) (x2 : Int) (x3 : Int) (x4 : Int) : Option (Int × OO) := qB (loopW (fun s => l_X12_line_74 o x1 x2 x3 s) x4) (Sum.elim (fun _ => b_X12_line_102 o) (fun _ => b_X12_line_114 o x1 x2 x3))
noncomputable def s_X12_line (o : OO) (x1 : Int) (x2 : Int) (x3 : Int) : Option (Int × OO) := qB (s_X12_isCell x1) (fun r59 => qEq r59 0 (b_X12_line_26 o) (qB (s_X12_isCell x2) (fun r61 => qEq r61 0 (b_X12_line_26 o) (qEq x1 x2 (b_X12_line_26 o) (qB (s_X12_isRow x3) (fun r63 => qEq r63 0 (b_X12_line_26 o) (qEq (o.1 0 32) 24 (some ((-2), o)) (qIn x3 6 (qNm (o.1 2 x3.toNat) (fun n66 => qLt n66 0 (qB2 (s_X12_meets o 1) (fun r72 o74 => some (r72, o74))) (qIn x3 6 (qNm (o.1 2 x3.toNat) (fun n68 => qEq n68 4 (e_X12_line_74 o x1 x2 x3 0) (qB2 (s_X12_meets o 5) (fun r69 o71 => some (r69, o71))))))))))))))))
set_option maxHeartbeats 4000000 in
set_option maxRecDepth 100000 in
theorem c_X12_line (l : Launch) (g : GG) (ad : Nat → Nat) (o : OO) (x1 : Int) (x2 : Int) (x3 : Int) (v : Int × OO) (h : s_X12_line o x1 x2 x3 = some v) : CI l g yX12_line cX12_line 12 (some .int) 3 75 (wM g ad o) [.ref (ad 0), iv x1, iv x2, iv x3] v.1 (wM g ad v.2) := by
  refine met_I (by decide) (Nat.le_of_ble_eq_true rfl) ?_
  intro X E hQ
  show Go X 0 (wM g ad o) [(0, .ref (ad 0)), (1, iv x1), (2, iv x2), (3, iv x3)] []
  have j26 : ∀ (o : OO), b_X12_line_26 o = some v → Go X 26 (wM g ad o) [] [] := by
    intro o h
    unfold b_X12_line_26 at h
    refine g_iconst E gdX12_line_26 ?_
    exact g_iret E hQ (by rw [← Option.some.inj h]) (by rw [← Option.some.inj h]) gdX12_line_27
  have j102 : ∀ (o : OO), b_X12_line_102 o = some v → Go X 102 (wM g ad o) [(0, .ref (ad 0))] [] := by
    intro o h
    unfold b_X12_line_102 at h
    refine g_aload_n E gdX12_line_102 rfl 0 rfl ?_
    refine g_iconst E gdX12_line_103 ?_
    obtain ⟨r1, o3, hc2, h⟩ := qB2_of h
    refine g_Vi (r := r1) (As := [iv 3]) (rest := []) (w := wM g ad o3) E (c_X12_meets l g ad o 3 (r1, o3) hc2) okm_X12_meets okw_X12_meets w_1708 rfl (wM_0 g ad o) rfl rfl (Nat.le_of_ble_eq_true rfl) ⟨Nat.le_of_ble_eq_true rfl, Nat.le_of_ble_eq_true rfl⟩ gdX12_line_104 ?_
    exact g_iret E hQ (by rw [← Option.some.inj h]) (by rw [← Option.some.inj h]) gdX12_line_107
  have j134 : ∀ (o : OO), b_X12_line_134 o = some v → Go X 134 (wM g ad o) [] [] := by
    intro o h
    unfold b_X12_line_134 at h
    refine g_bipush E gdX12_line_134 (by decide) ?_
    exact g_iret E hQ (by rw [← Option.some.inj h]) (by rw [← Option.some.inj h]) gdX12_line_136
  have j426 : ∀ (o : OO) (x5 : Int), b_X12_line_426 o x5 = some v → Go X 426 (wM g ad o) [(5, iv x5)] [] := by
    intro o x5 h
    unfold b_X12_line_426 at h
    refine g_iload E gdX12_line_426 0 rfl ?_
    exact g_iret E hQ (by rw [← Option.some.inj h]) (by rw [← Option.some.inj h]) gdX12_line_428
  have j384 : ∀ (o : OO) (x2 : Int) (x4 : Int) (x5 : Int) (x8 : Int) (x9 : Int) (v : (OO × Int × Int) ⊕ ((OO))), b_X12_line_384 o x2 x4 x5 x8 x9 = some v → (∀ (o : OO) (x6 : Int) (x7 : Int), v = .inl (o, x6, x7) → Go X 276 (wM g ad o) [(0, .ref (ad 0)), (2, iv x2), (4, iv x4), (5, iv x5), (6, iv x6), (7, iv x7)] []) → (∀ (o : OO), v = .inr (o) → Go X 426 (wM g ad o) [(5, iv x5)] []) → Go X 384 (wM g ad o) [(0, .ref (ad 0)), (2, iv x2), (4, iv x4), (5, iv x5), (8, iv x8), (9, iv x9)] [] := by
    intro o x2 x4 x5 x8 x9 v h k0 k1
    unfold b_X12_line_384 at h
    refine g_iload E gdX12_line_384 4 rfl ?_
    refine g_istore E [(6, iv x8), (0, .ref (ad 0)), (2, iv x2), (4, iv x4), (5, iv x5), (8, iv x8), (9, iv x9)] gdX12_line_386 (by decide) rfl ?_
    refine g_iload E gdX12_line_388 6 rfl ?_
    refine g_istore E [(7, iv x9), (6, iv x8), (0, .ref (ad 0)), (2, iv x2), (4, iv x4), (5, iv x5), (8, iv x8), (9, iv x9)] gdX12_line_390 (by decide) rfl ?_
    refine g_aload_n E gdX12_line_392 rfl 2 rfl ?_
    refine g_get (T := TX12) E fw_X12 0 (wM_0 g ad o) rfl 39 (by decide) w_1505 rfl rfl gdX12_line_393 ?_
    refine g_bipush E gdX12_line_396 (by decide) ?_
    refine g_iload E gdX12_line_398 5 rfl ?_
    refine g_imul E gdX12_line_400 ?_
    refine g_aload_n E gdX12_line_401 rfl 2 rfl ?_
    refine g_get (T := TX12) E fw_X12 0 (wM_0 g ad o) rfl 38 (by decide) w_1504 rfl rfl gdX12_line_402 ?_
    refine g_iload E gdX12_line_405 5 rfl ?_
    obtain ⟨hi4, h⟩ := qIn_of h
    refine g_iald E 30 (wM_30 g ad o) (by decide) hi4 gdX12_line_407 ?_
    obtain ⟨n5, e_n5, h⟩ := qNm_of h
    refine g_nmi e_n5 ?_
    refine g_iadd E gdX12_line_408 ?_
    refine g_iload E gdX12_line_409 1 rfl ?_
    obtain ⟨hi6, h⟩ := qIn_of h
    obtain ⟨o7, e_o7, h⟩ := qNm_of h
    refine g_iast (ws' := wM g ad o7) E 31 (wM_31 g ad o) (by decide) hi6 (by rw [e_o7]; exact wM_s31 g ad o _ _) gdX12_line_411 ?_
    refine g_aload_n E gdX12_line_412 rfl 2 rfl ?_
    refine g_get (T := TX12) E fw_X12 0 (wM_0 g ad o7) rfl 38 (by decide) w_1504 rfl rfl gdX12_line_413 ?_
    refine g_iload E gdX12_line_416 5 rfl ?_
    refine g_dup2 E gdX12_line_418 rfl rfl ?_
    obtain ⟨hi8, h⟩ := qIn_of h
    refine g_iald E 30 (wM_30 g ad o7) (by decide) hi8 gdX12_line_419 ?_
    obtain ⟨n9, e_n9, h⟩ := qNm_of h
    refine g_nmi e_n9 ?_
    refine g_iconst E gdX12_line_420 ?_
    refine g_iadd E gdX12_line_421 ?_
    obtain ⟨hi10, h⟩ := qIn_of h
    obtain ⟨o11, e_o11, h⟩ := qNm_of h
    refine g_iast (ws' := wM g ad o11) E 30 (wM_30 g ad o7) (by decide) hi10 (by rw [e_o11]; exact wM_s30 g ad o7 _ _) gdX12_line_422 ?_
    refine g_goto E 276 gdX12_line_423 (by decide) ?_
    refine g_sub E [2, 3, 4, 5, 1, 0] rfl ?_
    exact k0 o11 x8 x9 (Option.some.inj h).symm
  have j378 : ∀ (o : OO) (x2 : Int) (x4 : Int) (x5 : Int) (x6 : Int) (x7 : Int) (x8 : Int) (x9 : Int) (x10 : Int) (v : (Int × Int × Int) ⊕ ((Int × Int))), b_X12_line_378 o x2 x4 x5 x6 x7 x8 x9 x10 = some v → (∀ (x8 : Int) (x9 : Int) (x10 : Int), v = .inl (x8, x9, x10) → Go X 292 (wM g ad o) [(0, .ref (ad 0)), (2, iv x2), (4, iv x4), (5, iv x5), (6, iv x6), (7, iv x7), (8, iv x8), (9, iv x9), (10, iv x10)] []) → (∀ (x8 : Int) (x9 : Int), v = .inr ((x8, x9)) → Go X 384 (wM g ad o) [(0, .ref (ad 0)), (2, iv x2), (4, iv x4), (5, iv x5), (8, iv x8), (9, iv x9)] []) → Go X 378 (wM g ad o) [(0, .ref (ad 0)), (2, iv x2), (4, iv x4), (5, iv x5), (6, iv x6), (7, iv x7), (8, iv x8), (9, iv x9), (10, iv x10)] [] := by
    intro o x2 x4 x5 x6 x7 x8 x9 x10 v h k0 k1
    unfold b_X12_line_378 at h
    refine g_iinc E [(10, iv (x10 + 1)), (0, .ref (ad 0)), (2, iv x2), (4, iv x4), (5, iv x5), (6, iv x6), (7, iv x7), (8, iv x8), (9, iv x9)] gdX12_line_378 8 rfl (by decide) rfl ?_
    refine g_goto E 292 gdX12_line_381 (by decide) ?_
    refine g_sub E [1, 2, 3, 4, 5, 6, 7, 8, 0] rfl ?_
    exact k0 x8 x9 (x10 + 1) (Option.some.inj h).symm
  have l292 : ∀ (o : OO) (x2 : Int) (x4 : Int) (x5 : Int) (x6 : Int) (x7 : Int) (r : (Int × Int)) (s0 : Int × Int × Int), loopW (fun s => l_X12_line_292 o x2 x4 x5 x6 x7 s.1 s.2.1 s.2.2) s0 = some r → (∀ (x8 : Int) (x9 : Int), r = ((x8, x9)) → Go X 384 (wM g ad o) [(0, .ref (ad 0)), (2, iv x2), (4, iv x4), (5, iv x5), (8, iv x8), (9, iv x9)] []) → Go X 292 (wM g ad o) [(0, .ref (ad 0)), (2, iv x2), (4, iv x4), (5, iv x5), (6, iv x6), (7, iv x7), (8, iv s0.1), (9, iv s0.2.1), (10, iv s0.2.2)] [] := by
    intro o x2 x4 x5 x6 x7 r s0 h k1
    refine loop_rule (Head := fun s0 => Go X 292 (wM g ad o) [(0, .ref (ad 0)), (2, iv x2), (4, iv x4), (5, iv x5), (6, iv x6), (7, iv x7), (8, iv s0.1), (9, iv s0.2.1), (10, iv s0.2.2)] []) h ?_
    intro s v h kk kx
    obtain ⟨x8, x9, x10⟩ := s
    have h : l_X12_line_292 o x2 x4 x5 x6 x7 x8 x9 x10 = some v := h
    have k0 : ∀ (x8 : Int) (x9 : Int) (x10 : Int), v = .inl (x8, x9, x10) → Go X 292 (wM g ad o) [(0, .ref (ad 0)), (2, iv x2), (4, iv x4), (5, iv x5), (6, iv x6), (7, iv x7), (8, iv x8), (9, iv x9), (10, iv x10)] [] := fun x8 x9 x10 e => kk (x8, x9, x10) e
    have k1 : ∀ (x8 : Int) (x9 : Int), v = .inr ((x8, x9)) → Go X 384 (wM g ad o) [(0, .ref (ad 0)), (2, iv x2), (4, iv x4), (5, iv x5), (8, iv x8), (9, iv x9)] [] := fun x8 x9 e => k1 x8 x9 (kx _ e).symm
    unfold l_X12_line_292 at h
    refine g_iload E gdX12_line_292 8 rfl ?_
    refine g_iconst E gdX12_line_294 ?_
    refine g_icmp_ge E 384 gdX12_line_295 (by decide) h (fun h => ?_) (fun h => ?_)
    ·
      refine g_sub E [0, 1, 2, 3, 6, 7] rfl ?_
      exact k1 x8 x9 (Option.some.inj h).symm
    ·
      refine g_iload E gdX12_line_298 6 rfl ?_
      refine g_if_ge E 384 gdX12_line_300 (by decide) h (fun h => ?_) (fun h => ?_)
      ·
        refine g_sub E [0, 1, 2, 3, 6, 7] rfl ?_
        exact k1 x8 x9 (Option.some.inj h).symm
      ·
        refine g_iload E gdX12_line_303 4 rfl ?_
        refine g_iload E gdX12_line_305 8 rfl ?_
        obtain ⟨r12, hc13, h⟩ := qB_of h
        refine g_Si (r := r12) (As := [iv x6, iv x10]) (rest := []) (w := wM g ad o) E (c_X12_beside l g (wM g ad o) x6 x10 r12 hc13) okm_X12_beside w_1881 w_1880 rfl rfl (Nat.le_of_ble_eq_true rfl) ⟨Nat.le_of_ble_eq_true rfl, Nat.le_of_ble_eq_true rfl⟩ gdX12_line_307 ?_
        refine g_istore E [(11, iv r12), (0, .ref (ad 0)), (2, iv x2), (4, iv x4), (5, iv x5), (6, iv x6), (7, iv x7), (8, iv x8), (9, iv x9), (10, iv x10)] gdX12_line_310 (by decide) rfl ?_
        refine g_aload_n E gdX12_line_312 rfl 1 rfl ?_
        refine g_iload E gdX12_line_313 5 rfl ?_
        refine g_iload E gdX12_line_315 0 rfl ?_
        refine g_iload E gdX12_line_317 3 rfl ?_
        obtain ⟨r14, hc15, h⟩ := qB_of h
        refine g_Vi (r := r14) (As := [iv x6, iv r12, iv x4]) (rest := []) (w := wM g ad o) E (c_X12_leads l g ad o x6 r12 x4 r14 hc15) okm_X12_leads okw_X12_leads w_1883 rfl (wM_0 g ad o) rfl rfl (Nat.le_of_ble_eq_true rfl) ⟨Nat.le_of_ble_eq_true rfl, Nat.le_of_ble_eq_true rfl⟩ gdX12_line_319 ?_
        refine g_if_eq E 378 gdX12_line_322 (by decide) h (fun h => ?_) (fun h => ?_)
        ·
          refine g_sub E [1, 2, 3, 4, 5, 6, 7, 8, 9] rfl ?_
          exact j378 o x2 x4 x5 x6 x7 x8 x9 x10 v h k0 k1
        ·
          refine g_aload_n E gdX12_line_325 rfl 1 rfl ?_
          refine g_get (T := TX12) E fw_X12 0 (wM_0 g ad o) rfl 46 (by decide) w_1512 rfl rfl gdX12_line_326 ?_
          refine g_iconst E gdX12_line_329 ?_
          refine g_iload E gdX12_line_330 0 rfl ?_
          refine g_imul E gdX12_line_332 ?_
          refine g_iload E gdX12_line_333 9 rfl ?_
          refine g_iadd E gdX12_line_335 ?_
          obtain ⟨hi16, h⟩ := qIn_of h
          refine g_iald E 38 (wM_38 g ad o) (by decide) hi16 gdX12_line_336 ?_
          obtain ⟨n17, e_n17, h⟩ := qNm_of h
          refine g_nmi e_n17 ?_
          refine g_ldcw (k := 100000000) E gdX12_line_337 w_1879 (by decide) ?_
          refine g_icmp_ge E 378 gdX12_line_340 (by decide) h (fun h => ?_) (fun h => ?_)
          ·
            refine g_sub E [1, 2, 3, 4, 5, 6, 7, 8, 9] rfl ?_
            exact j378 o x2 x4 x5 x6 x7 x8 x9 x10 v h k0 k1
          ·
            refine g_aload_n E gdX12_line_343 rfl 1 rfl ?_
            refine g_iload E gdX12_line_344 5 rfl ?_
            refine g_iload E gdX12_line_346 6 rfl ?_
            refine g_iload E gdX12_line_348 9 rfl ?_
            refine g_iload E gdX12_line_350 0 rfl ?_
            obtain ⟨r18, hc19, h⟩ := qB_of h
            refine g_Vi (r := r18) (As := [iv x6, iv x7, iv x10, iv r12]) (rest := []) (w := wM g ad o) E (c_X12_goOn l g ad o x6 x7 x10 r12 r18 hc19) okm_X12_goOn okw_X12_goOn w_1891 rfl (wM_0 g ad o) rfl rfl (Nat.le_of_ble_eq_true rfl) ⟨Nat.le_of_ble_eq_true rfl, Nat.le_of_ble_eq_true rfl⟩ gdX12_line_352 ?_
            refine g_aload_n E gdX12_line_355 rfl 1 rfl ?_
            refine g_get (T := TX12) E fw_X12 0 (wM_0 g ad o) rfl 46 (by decide) w_1512 rfl rfl gdX12_line_356 ?_
            refine g_iconst E gdX12_line_359 ?_
            refine g_iload E gdX12_line_360 5 rfl ?_
            refine g_imul E gdX12_line_362 ?_
            refine g_iload E gdX12_line_363 6 rfl ?_
            refine g_iadd E gdX12_line_365 ?_
            obtain ⟨hi20, h⟩ := qIn_of h
            refine g_iald E 38 (wM_38 g ad o) (by decide) hi20 gdX12_line_366 ?_
            obtain ⟨n21, e_n21, h⟩ := qNm_of h
            refine g_nmi e_n21 ?_
            refine g_icmp_ne E 378 gdX12_line_367 (by decide) h (fun h => ?_) (fun h => ?_)
            ·
              refine g_sub E [1, 2, 3, 4, 5, 6, 7, 8, 9] rfl ?_
              exact j378 o x2 x4 x5 x6 x7 x8 x9 x10 v h k0 k1
            ·
              refine g_iload E gdX12_line_370 0 rfl ?_
              refine g_istore E [(8, iv r12), (11, iv r12), (0, .ref (ad 0)), (2, iv x2), (4, iv x4), (5, iv x5), (6, iv x6), (7, iv x7), (9, iv x9), (10, iv x10)] gdX12_line_372 (by decide) rfl ?_
              refine g_iload E gdX12_line_374 9 rfl ?_
              refine g_istore E [(9, iv x10), (8, iv r12), (11, iv r12), (0, .ref (ad 0)), (2, iv x2), (4, iv x4), (5, iv x5), (6, iv x6), (7, iv x7), (10, iv x10)] gdX12_line_376 (by decide) rfl ?_
              refine g_sub E [3, 4, 5, 6, 7, 8, 1, 0, 9] rfl ?_
              exact j378 o x2 x4 x5 x6 x7 r12 x10 x10 v h k0 k1
  have j292 : ∀ (o : OO) (x2 : Int) (x4 : Int) (x5 : Int) (x6 : Int) (x7 : Int) (x8 : Int) (x9 : Int) (x10 : Int) (v : (OO × Int × Int) ⊕ ((OO))), e_X12_line_292 o x2 x4 x5 x6 x7 x8 x9 x10 = some v → (∀ (o : OO) (x6 : Int) (x7 : Int), v = .inl (o, x6, x7) → Go X 276 (wM g ad o) [(0, .ref (ad 0)), (2, iv x2), (4, iv x4), (5, iv x5), (6, iv x6), (7, iv x7)] []) → (∀ (o : OO), v = .inr (o) → Go X 426 (wM g ad o) [(5, iv x5)] []) → Go X 292 (wM g ad o) [(0, .ref (ad 0)), (2, iv x2), (4, iv x4), (5, iv x5), (6, iv x6), (7, iv x7), (8, iv x8), (9, iv x9), (10, iv x10)] [] := by
    intro o x2 x4 x5 x6 x7 x8 x9 x10 v h k0 k1
    unfold e_X12_line_292 at h
    obtain ⟨r, hr, h⟩ := qB_of h
    refine l292 o x2 x4 x5 x6 x7 r _ hr ?_
    ·
      intro u0 u1 e
      subst e
      have h : b_X12_line_384 o x2 x4 x5 u0 u1 = some v := h
      exact j384 o x2 x4 x5 u0 u1 v h k0 k1
  have l276 : ∀ (x2 : Int) (x4 : Int) (x5 : Int) (r : (OO)) (s0 : OO × Int × Int), loopW (fun s => l_X12_line_276 x2 x4 x5 s.1 s.2.1 s.2.2) s0 = some r → (∀ (o : OO), r = (o) → Go X 426 (wM g ad o) [(5, iv x5)] []) → Go X 276 (wM g ad s0.1) [(0, .ref (ad 0)), (2, iv x2), (4, iv x4), (5, iv x5), (6, iv s0.2.1), (7, iv s0.2.2)] [] := by
    intro x2 x4 x5 r s0 h k1
    refine loop_rule (Head := fun s0 => Go X 276 (wM g ad s0.1) [(0, .ref (ad 0)), (2, iv x2), (4, iv x4), (5, iv x5), (6, iv s0.2.1), (7, iv s0.2.2)] []) h ?_
    intro s v h kk kx
    obtain ⟨o, x6, x7⟩ := s
    have h : l_X12_line_276 x2 x4 x5 o x6 x7 = some v := h
    have k0 : ∀ (o : OO) (x6 : Int) (x7 : Int), v = .inl (o, x6, x7) → Go X 276 (wM g ad o) [(0, .ref (ad 0)), (2, iv x2), (4, iv x4), (5, iv x5), (6, iv x6), (7, iv x7)] [] := fun o x6 x7 e => kk (o, x6, x7) e
    have k1 : ∀ (o : OO), v = .inr (o) → Go X 426 (wM g ad o) [(5, iv x5)] [] := fun o e => k1 o (kx _ e).symm
    unfold l_X12_line_276 at h
    refine g_iload E gdX12_line_276 4 rfl ?_
    refine g_iload_n E gdX12_line_278 rfl 1 rfl ?_
    refine g_icmp_eq E 426 gdX12_line_279 (by decide) h (fun h => ?_) (fun h => ?_)
    ·
      refine g_sub E [3] rfl ?_
      exact k1 o (Option.some.inj h).symm
    ·
      refine g_bipush E gdX12_line_282 (by decide) ?_
      refine g_istore E [(8, iv (-9)), (0, .ref (ad 0)), (2, iv x2), (4, iv x4), (5, iv x5), (6, iv x6), (7, iv x7)] gdX12_line_284 (by decide) rfl ?_
      refine g_iconst E gdX12_line_286 ?_
      refine g_istore E [(9, iv 0), (8, iv (-9)), (0, .ref (ad 0)), (2, iv x2), (4, iv x4), (5, iv x5), (6, iv x6), (7, iv x7)] gdX12_line_287 (by decide) rfl ?_
      refine g_iconst E gdX12_line_289 ?_
      refine g_istore E [(10, iv 0), (9, iv 0), (8, iv (-9)), (0, .ref (ad 0)), (2, iv x2), (4, iv x4), (5, iv x5), (6, iv x6), (7, iv x7)] gdX12_line_290 (by decide) rfl ?_
      refine g_sub E [3, 4, 5, 6, 7, 8, 2, 1, 0] rfl ?_
      exact j292 o x2 x4 x5 x6 x7 (-9) 0 0 v h k0 k1
  have j276 : ∀ (o : OO) (x2 : Int) (x4 : Int) (x5 : Int) (x6 : Int) (x7 : Int), e_X12_line_276 o x2 x4 x5 x6 x7 = some v → Go X 276 (wM g ad o) [(0, .ref (ad 0)), (2, iv x2), (4, iv x4), (5, iv x5), (6, iv x6), (7, iv x7)] [] := by
    intro o x2 x4 x5 x6 x7 h
    unfold e_X12_line_276 at h
    obtain ⟨r, hr, h⟩ := qB_of h
    refine l276 x2 x4 x5 r _ hr ?_
    ·
      intro u0 e
      have e := e.symm
      subst e
      have h : b_X12_line_426 u0 x5 = some v := h
      exact j426 u0 x5 h
  have j182 : ∀ (o : OO) (x1 : Int) (x2 : Int), b_X12_line_182 o x1 x2 = some v → Go X 182 (wM g ad o) [(0, .ref (ad 0)), (1, iv x1), (2, iv x2)] [] := by
    intro o x1 x2 h
    unfold b_X12_line_182 at h
    refine g_aload_n E gdX12_line_182 rfl 0 rfl ?_
    refine g_iconst E gdX12_line_183 ?_
    obtain ⟨r22, hc23, h⟩ := qB_of h
    refine g_Vi (r := r22) (As := [iv 0]) (rest := []) (w := wM g ad o) E (c_X12_nowInForce l g ad o 0 r22 hc23) okm_X12_nowInForce okw_X12_nowInForce w_1871 rfl (wM_0 g ad o) rfl rfl (Nat.le_of_ble_eq_true rfl) ⟨Nat.le_of_ble_eq_true rfl, Nat.le_of_ble_eq_true rfl⟩ gdX12_line_184 ?_
    refine g_istore E [(4, iv r22), (0, .ref (ad 0)), (1, iv x1), (2, iv x2)] gdX12_line_187 (by decide) rfl ?_
    refine g_aload_n E gdX12_line_189 rfl 1 rfl ?_
    refine g_iload_n E gdX12_line_190 rfl 3 rfl ?_
    refine g_iload E gdX12_line_191 0 rfl ?_
    obtain ⟨o26, hc25, h⟩ := qB_of h
    refine g_Vv (As := [iv x2, iv r22]) (rest := []) (w := wM g ad o26) E (c_X12_setLeft l g ad o x2 r22 o26 hc25) okm_X12_setLeft okw_X12_setLeft w_1875 rfl (wM_0 g ad o) rfl rfl (Nat.le_of_ble_eq_true rfl) ⟨Nat.le_of_ble_eq_true rfl, Nat.le_of_ble_eq_true rfl⟩ gdX12_line_193 ?_
    refine g_aload_n E gdX12_line_196 rfl 1 rfl ?_
    refine g_get (T := TX12) E fw_X12 0 (wM_0 g ad o26) rfl 46 (by decide) w_1512 rfl rfl gdX12_line_197 ?_
    refine g_iconst E gdX12_line_200 ?_
    refine g_iload_n E gdX12_line_201 rfl 2 rfl ?_
    refine g_imul E gdX12_line_202 ?_
    refine g_iconst E gdX12_line_203 ?_
    refine g_iadd E gdX12_line_204 ?_
    obtain ⟨hi27, h⟩ := qIn_of h
    refine g_iald E 38 (wM_38 g ad o26) (by decide) hi27 gdX12_line_205 ?_
    obtain ⟨n28, e_n28, h⟩ := qNm_of h
    refine g_nmi e_n28 ?_
    refine g_ldcw (k := 100000000) E gdX12_line_206 w_1879 (by decide) ?_
    refine g_icmp_ne E 218 gdX12_line_209 (by decide) h (fun h => ?_) (fun h => ?_)
    ·
      refine g_aload_n E gdX12_line_218 rfl 1 rfl ?_
      refine g_iconst E gdX12_line_219 ?_
      refine g_bipush E gdX12_line_220 (by decide) ?_
      obtain ⟨r29, o31, hc30, h⟩ := qB2_of h
      refine g_Vi (r := r29) (As := [iv 1, iv (-9)]) (rest := []) (w := wM g ad o31) E (c_X12_enter l g ad o26 1 (-9) (r29, o31) hc30) okm_X12_enter okw_X12_enter w_1895 rfl (wM_0 g ad o26) rfl rfl (Nat.le_of_ble_eq_true rfl) ⟨Nat.le_of_ble_eq_true rfl, Nat.le_of_ble_eq_true rfl⟩ gdX12_line_222 ?_
      refine g_istore E [(5, iv r29), (4, iv r22), (0, .ref (ad 0)), (1, iv x1), (2, iv x2)] gdX12_line_225 (by decide) rfl ?_
      refine g_aload_n E gdX12_line_227 rfl 2 rfl ?_
      refine g_get (T := TX12) E fw_X12 0 (wM_0 g ad o31) rfl 36 (by decide) w_1502 rfl rfl gdX12_line_228 ?_
      refine g_iload E gdX12_line_231 0 rfl ?_
      refine g_aload_n E gdX12_line_233 rfl 2 rfl ?_
      refine g_get (T := TX12) E fw_X12 0 (wM_0 g ad o31) rfl 47 (by decide) w_1513 rfl rfl gdX12_line_234 ?_
      refine g_iload_n E gdX12_line_237 rfl 3 rfl ?_
      obtain ⟨hi32, h⟩ := qIn_of h
      refine g_iald E 39 (wM_39 g ad o31) (by decide) hi32 gdX12_line_238 ?_
      obtain ⟨n33, e_n33, h⟩ := qNm_of h
      refine g_nmi e_n33 ?_
      refine g_aload_n E gdX12_line_239 rfl 2 rfl ?_
      refine g_get (T := TX12) E fw_X12 0 (wM_0 g ad o31) rfl 46 (by decide) w_1512 rfl rfl gdX12_line_240 ?_
      refine g_iconst E gdX12_line_243 ?_
      refine g_iload_n E gdX12_line_244 rfl 3 rfl ?_
      refine g_imul E gdX12_line_245 ?_
      refine g_iconst E gdX12_line_246 ?_
      refine g_iadd E gdX12_line_247 ?_
      obtain ⟨hi34, h⟩ := qIn_of h
      refine g_iald E 38 (wM_38 g ad o31) (by decide) hi34 gdX12_line_248 ?_
      obtain ⟨n35, e_n35, h⟩ := qNm_of h
      refine g_nmi e_n35 ?_
      refine g_iadd E gdX12_line_249 ?_
      obtain ⟨hi36, h⟩ := qIn_of h
      obtain ⟨o37, e_o37, h⟩ := qNm_of h
      refine g_iast (ws' := wM g ad o37) E 28 (wM_28 g ad o31) (by decide) hi36 (by rw [e_o37]; exact wM_s28 g ad o31 _ _) gdX12_line_250 ?_
      refine g_iload_n E gdX12_line_251 rfl 3 rfl ?_
      refine g_istore E [(6, iv x1), (5, iv r29), (4, iv r22), (0, .ref (ad 0)), (1, iv x1), (2, iv x2)] gdX12_line_252 (by decide) rfl ?_
      refine g_iconst E gdX12_line_254 ?_
      refine g_istore E [(7, iv 4), (6, iv x1), (5, iv r29), (4, iv r22), (0, .ref (ad 0)), (1, iv x1), (2, iv x2)] gdX12_line_255 (by decide) rfl ?_
      refine g_aload_n E gdX12_line_257 rfl 4 rfl ?_
      refine g_get (T := TX12) E fw_X12 0 (wM_0 g ad o37) rfl 39 (by decide) w_1505 rfl rfl gdX12_line_258 ?_
      refine g_bipush E gdX12_line_261 (by decide) ?_
      refine g_iload E gdX12_line_263 2 rfl ?_
      refine g_imul E gdX12_line_265 ?_
      refine g_iload_n E gdX12_line_266 rfl 5 rfl ?_
      obtain ⟨hi38, h⟩ := qIn_of h
      obtain ⟨o39, e_o39, h⟩ := qNm_of h
      refine g_iast (ws' := wM g ad o39) E 31 (wM_31 g ad o37) (by decide) hi38 (by rw [e_o39]; exact wM_s31 g ad o37 _ _) gdX12_line_267 ?_
      refine g_aload_n E gdX12_line_268 rfl 4 rfl ?_
      refine g_get (T := TX12) E fw_X12 0 (wM_0 g ad o39) rfl 38 (by decide) w_1504 rfl rfl gdX12_line_269 ?_
      refine g_iload E gdX12_line_272 2 rfl ?_
      refine g_iconst E gdX12_line_274 ?_
      obtain ⟨hi40, h⟩ := qIn_of h
      obtain ⟨o41, e_o41, h⟩ := qNm_of h
      refine g_iast (ws' := wM g ad o41) E 30 (wM_30 g ad o39) (by decide) hi40 (by rw [e_o41]; exact wM_s30 g ad o39 _ _) gdX12_line_275 ?_
      refine g_sub E [4, 6, 3, 2, 1, 0] rfl ?_
      exact j276 o41 x2 r22 r29 x1 4 h
    ·
      refine g_aload_n E gdX12_line_212 rfl 1 rfl ?_
      refine g_iconst E gdX12_line_213 ?_
      obtain ⟨r42, o44, hc43, h⟩ := qB2_of h
      refine g_Vi (r := r42) (As := [iv 1]) (rest := []) (w := wM g ad o44) E (c_X12_meets l g ad o26 1 (r42, o44) hc43) okm_X12_meets okw_X12_meets w_1708 rfl (wM_0 g ad o26) rfl rfl (Nat.le_of_ble_eq_true rfl) ⟨Nat.le_of_ble_eq_true rfl, Nat.le_of_ble_eq_true rfl⟩ gdX12_line_214 ?_
      exact g_iret E hQ (by rw [← Option.some.inj h]) (by rw [← Option.some.inj h]) gdX12_line_217
  have j175 : ∀ (o : OO) (x1 : Int) (x2 : Int) (x3 : Int) (x4 : Int) (y1 : Int) (y2 : Int) (v : (OO × Int) ⊕ ((OO))), b_X12_line_175 o x1 x2 x3 x4 y1 y2 = some v → (∀ (o : OO) (x4 : Int), v = .inl (o, x4) → Go X 140 (wM g ad o) [(0, .ref (ad 0)), (1, iv x1), (2, iv x2), (3, iv x3), (4, iv x4)] []) → (∀ (o : OO), v = .inr (o) → Go X 182 (wM g ad o) [(0, .ref (ad 0)), (1, iv x1), (2, iv x2)] []) → Go X 175 (wM g ad o) [(0, .ref (ad 0)), (1, iv x1), (2, iv x2), (3, iv x3), (4, iv x4)] [iv y2, iv y1, .ref (ad 39)] := by
    intro o x1 x2 x3 x4 y1 y2 v h k0 k1
    unfold b_X12_line_175 at h
    obtain ⟨hi45, h⟩ := qIn_of h
    obtain ⟨o46, e_o46, h⟩ := qNm_of h
    refine g_iast (ws' := wM g ad o46) E 39 (wM_39 g ad o) (by decide) hi45 (by rw [e_o46]; exact wM_s39 g ad o _ _) gdX12_line_175 ?_
    refine g_iinc E [(4, iv (x4 + 1)), (0, .ref (ad 0)), (1, iv x1), (2, iv x2), (3, iv x3)] gdX12_line_176 4 rfl (by decide) rfl ?_
    refine g_goto E 140 gdX12_line_179 (by decide) ?_
    refine g_sub E [1, 2, 3, 4, 0] rfl ?_
    exact k0 o46 (x4 + 1) (Option.some.inj h).symm
  have l140 : ∀ (x1 : Int) (x2 : Int) (x3 : Int) (r : (OO)) (s0 : OO × Int), loopW (fun s => l_X12_line_140 x1 x2 x3 s.1 s.2) s0 = some r → (∀ (o : OO), r = (o) → Go X 182 (wM g ad o) [(0, .ref (ad 0)), (1, iv x1), (2, iv x2)] []) → Go X 140 (wM g ad s0.1) [(0, .ref (ad 0)), (1, iv x1), (2, iv x2), (3, iv x3), (4, iv s0.2)] [] := by
    intro x1 x2 x3 r s0 h k1
    refine loop_rule (Head := fun s0 => Go X 140 (wM g ad s0.1) [(0, .ref (ad 0)), (1, iv x1), (2, iv x2), (3, iv x3), (4, iv s0.2)] []) h ?_
    intro s v h kk kx
    obtain ⟨o, x4⟩ := s
    have h : l_X12_line_140 x1 x2 x3 o x4 = some v := h
    have k0 : ∀ (o : OO) (x4 : Int), v = .inl (o, x4) → Go X 140 (wM g ad o) [(0, .ref (ad 0)), (1, iv x1), (2, iv x2), (3, iv x3), (4, iv x4)] [] := fun o x4 e => kk (o, x4) e
    have k1 : ∀ (o : OO), v = .inr (o) → Go X 182 (wM g ad o) [(0, .ref (ad 0)), (1, iv x1), (2, iv x2)] [] := fun o e => k1 o (kx _ e).symm
    unfold l_X12_line_140 at h
    refine g_iload E gdX12_line_140 4 rfl ?_
    refine g_bipush E gdX12_line_142 (by decide) ?_
    refine g_icmp_ge E 182 gdX12_line_144 (by decide) h (fun h => ?_) (fun h => ?_)
    ·
      refine g_sub E [0, 1, 2] rfl ?_
      exact k1 o (Option.some.inj h).symm
    ·
      refine g_aload_n E gdX12_line_147 rfl 0 rfl ?_
      refine g_get (T := TX12) E fw_X12 0 (wM_0 g ad o) rfl 47 (by decide) w_1513 rfl rfl gdX12_line_148 ?_
      refine g_iload E gdX12_line_151 4 rfl ?_
      refine g_aload_n E gdX12_line_153 rfl 0 rfl ?_
      refine g_get (T := TX12) E fw_X12 0 (wM_0 g ad o) rfl 15 (by decide) w_1481 rfl rfl gdX12_line_154 ?_
      refine g_iload E gdX12_line_157 4 rfl ?_
      obtain ⟨hi47, h⟩ := qIn_of h
      refine g_iald E 11 (wM_11 g ad o) (by decide) hi47 gdX12_line_159 ?_
      obtain ⟨n48, e_n48, h⟩ := qNm_of h
      refine g_nmi e_n48 ?_
      refine g_iconst E gdX12_line_160 ?_
      refine g_icmp_ne E 168 gdX12_line_161 (by decide) h (fun h => ?_) (fun h => ?_)
      ·
        refine g_aload_n E gdX12_line_168 rfl 0 rfl ?_
        refine g_iload E gdX12_line_169 4 rfl ?_
        refine g_iload_n E gdX12_line_171 rfl 3 rfl ?_
        obtain ⟨r49, hc50, h⟩ := qB_of h
        refine g_Vi (r := r49) (As := [iv x4, iv x3]) (rest := [iv x4, .ref (ad 39)]) (w := wM g ad o) E (c_X12_costOf l g ad o x4 x3 r49 hc50) okm_X12_costOf okw_X12_costOf w_1867 rfl (wM_0 g ad o) rfl rfl (Nat.le_of_ble_eq_true rfl) ⟨Nat.le_of_ble_eq_true rfl, Nat.le_of_ble_eq_true rfl⟩ gdX12_line_172 ?_
        exact j175 o x1 x2 x3 x4 x4 r49 v h k0 k1
      ·
        refine g_iconst E gdX12_line_164 ?_
        refine g_goto E 175 gdX12_line_165 (by decide) ?_
        exact j175 o x1 x2 x3 x4 x4 0 v h k0 k1
  have j140 : ∀ (o : OO) (x1 : Int) (x2 : Int) (x3 : Int) (x4 : Int), e_X12_line_140 o x1 x2 x3 x4 = some v → Go X 140 (wM g ad o) [(0, .ref (ad 0)), (1, iv x1), (2, iv x2), (3, iv x3), (4, iv x4)] [] := by
    intro o x1 x2 x3 x4 h
    unfold e_X12_line_140 at h
    obtain ⟨r, hr, h⟩ := qB_of h
    refine l140 x1 x2 x3 r _ hr ?_
    ·
      intro u0 e
      have e := e.symm
      subst e
      have h : b_X12_line_182 u0 x1 x2 = some v := h
      exact j182 u0 x1 x2 h
  have j114 : ∀ (o : OO) (x1 : Int) (x2 : Int) (x3 : Int), b_X12_line_114 o x1 x2 x3 = some v → Go X 114 (wM g ad o) [(0, .ref (ad 0)), (1, iv x1), (2, iv x2), (3, iv x3)] [] := by
    intro o x1 x2 x3 h
    unfold b_X12_line_114 at h
    refine g_aload_n E gdX12_line_114 rfl 0 rfl ?_
    refine g_get (T := TX12) E fw_X12 0 (wM_0 g ad o) rfl 15 (by decide) w_1481 rfl rfl gdX12_line_115 ?_
    refine g_iload_n E gdX12_line_118 rfl 1 rfl ?_
    obtain ⟨hi51, h⟩ := qIn_of h
    refine g_iald E 11 (wM_11 g ad o) (by decide) hi51 gdX12_line_119 ?_
    obtain ⟨n52, e_n52, h⟩ := qNm_of h
    refine g_nmi e_n52 ?_
    refine g_iconst E gdX12_line_120 ?_
    refine g_icmp_eq E 134 gdX12_line_121 (by decide) h (fun h => ?_) (fun h => ?_)
    ·
      refine g_sub E [] rfl ?_
      exact j134 o h
    ·
      refine g_aload_n E gdX12_line_124 rfl 0 rfl ?_
      refine g_get (T := TX12) E fw_X12 0 (wM_0 g ad o) rfl 15 (by decide) w_1481 rfl rfl gdX12_line_125 ?_
      refine g_iload_n E gdX12_line_128 rfl 2 rfl ?_
      obtain ⟨hi53, h⟩ := qIn_of h
      refine g_iald E 11 (wM_11 g ad o) (by decide) hi53 gdX12_line_129 ?_
      obtain ⟨n54, e_n54, h⟩ := qNm_of h
      refine g_nmi e_n54 ?_
      refine g_iconst E gdX12_line_130 ?_
      refine g_icmp_ne E 137 gdX12_line_131 (by decide) h (fun h => ?_) (fun h => ?_)
      ·
        refine g_iconst E gdX12_line_137 ?_
        refine g_istore E [(4, iv 0), (0, .ref (ad 0)), (1, iv x1), (2, iv x2), (3, iv x3)] gdX12_line_138 (by decide) rfl ?_
        refine g_sub E [1, 2, 3, 4, 0] rfl ?_
        exact j140 o x1 x2 x3 0 h
      ·
        refine g_sub E [] rfl ?_
        exact j134 o h
  have l74 : ∀ (o : OO) (x1 : Int) (x2 : Int) (x3 : Int) (r : (Unit) ⊕ (Unit)) (s0 : Int), loopW (fun s => l_X12_line_74 o x1 x2 x3 s) s0 = some r → (r = (.inl ()) → Go X 102 (wM g ad o) [(0, .ref (ad 0))] []) → (r = (.inr ()) → Go X 114 (wM g ad o) [(0, .ref (ad 0)), (1, iv x1), (2, iv x2), (3, iv x3)] []) → Go X 74 (wM g ad o) [(0, .ref (ad 0)), (1, iv x1), (2, iv x2), (3, iv x3), (4, iv s0)] [] := by
    intro o x1 x2 x3 r s0 h k1 k2
    refine loop_rule (Head := fun s0 => Go X 74 (wM g ad o) [(0, .ref (ad 0)), (1, iv x1), (2, iv x2), (3, iv x3), (4, iv s0)] []) h ?_
    intro s v h kk kx
    obtain ⟨x4, hs⟩ : ∃ q, q = s := ⟨_, rfl⟩
    subst hs
    have h : l_X12_line_74 o x1 x2 x3 x4 = some v := h
    have k0 : ∀ (x4 : Int), v = .inl x4 → Go X 74 (wM g ad o) [(0, .ref (ad 0)), (1, iv x1), (2, iv x2), (3, iv x3), (4, iv x4)] [] := fun x4 e => kk x4 e
    have k1 : v = .inr (.inl ()) → Go X 102 (wM g ad o) [(0, .ref (ad 0))] [] := fun e => k1 (kx _ e).symm
    have k2 : v = .inr (.inr ()) → Go X 114 (wM g ad o) [(0, .ref (ad 0)), (1, iv x1), (2, iv x2), (3, iv x3)] [] := fun e => k2 (kx _ e).symm
    unfold l_X12_line_74 at h
    refine g_iload E gdX12_line_74 4 rfl ?_
    refine g_iconst E gdX12_line_76 ?_
    refine g_icmp_ge E 114 gdX12_line_77 (by decide) h (fun h => ?_) (fun h => ?_)
    ·
      refine g_sub E [0, 1, 2, 3] rfl ?_
      exact k2  (Option.some.inj h).symm
    ·
      refine g_aload_n E gdX12_line_80 rfl 0 rfl ?_
      refine g_get (T := TX12) E fw_X12 0 (wM_0 g ad o) rfl 6 (by decide) w_1472 rfl rfl gdX12_line_81 ?_
      refine g_bipush E gdX12_line_84 (by decide) ?_
      refine g_iload_n E gdX12_line_86 rfl 3 rfl ?_
      refine g_imul E gdX12_line_87 ?_
      refine g_iload E gdX12_line_88 4 rfl ?_
      refine g_iadd E gdX12_line_90 ?_
      obtain ⟨hi55, h⟩ := qIn_of h
      refine g_iald E 3 (wM_3 g ad o) (by decide) hi55 gdX12_line_91 ?_
      obtain ⟨n56, e_n56, h⟩ := qNm_of h
      refine g_nmi e_n56 ?_
      refine g_iconst E gdX12_line_92 ?_
      refine g_sipush E gdX12_line_93 (by decide) ?_
      obtain ⟨r57, hc58, h⟩ := qB_of h
      refine g_Si (r := r57) (As := [iv n56, iv 0, iv 1000]) (rest := []) (w := wM g ad o) E (c_X12_in l g (wM g ad o) n56 0 1000 r57 hc58) okm_X12_in w_1706 w_1705 rfl rfl (Nat.le_of_ble_eq_true rfl) ⟨Nat.le_of_ble_eq_true rfl, Nat.le_of_ble_eq_true rfl⟩ gdX12_line_96 ?_
      refine g_if_ne E 108 gdX12_line_99 (by decide) h (fun h => ?_) (fun h => ?_)
      ·
        refine g_iinc E [(4, iv (x4 + 1)), (0, .ref (ad 0)), (1, iv x1), (2, iv x2), (3, iv x3)] gdX12_line_108 4 rfl (by decide) rfl ?_
        refine g_goto E 74 gdX12_line_111 (by decide) ?_
        refine g_sub E [1, 2, 3, 4, 0] rfl ?_
        exact k0 (x4 + 1) (Option.some.inj h).symm
      ·
        refine g_sub E [0] rfl ?_
        exact k1  (Option.some.inj h).symm
  have j74 : ∀ (o : OO) (x1 : Int) (x2 : Int) (x3 : Int) (x4 : Int), e_X12_line_74 o x1 x2 x3 x4 = some v → Go X 74 (wM g ad o) [(0, .ref (ad 0)), (1, iv x1), (2, iv x2), (3, iv x3), (4, iv x4)] [] := by
    intro o x1 x2 x3 x4 h
    unfold e_X12_line_74 at h
    obtain ⟨r, hr, h⟩ := qB_of h
    refine l74 o x1 x2 x3 r _ hr ?_ ?_
    ·
      intro e
      subst e
      have h : b_X12_line_102 o = some v := h
      exact j102 o h
    ·
      intro e
      subst e
      have h : b_X12_line_114 o x1 x2 x3 = some v := h
      exact j114 o x1 x2 x3 h
  unfold s_X12_line at h
  refine g_iload_n E gdX12_line_0 rfl 1 rfl ?_
  obtain ⟨r59, hc60, h⟩ := qB_of h
  refine g_Si (r := r59) (As := [iv x1]) (rest := []) (w := wM g ad o) E (c_X12_isCell l g (wM g ad o) x1 r59 hc60) okm_X12_isCell w_1789 w_1788 rfl rfl (Nat.le_of_ble_eq_true rfl) ⟨Nat.le_of_ble_eq_true rfl, Nat.le_of_ble_eq_true rfl⟩ gdX12_line_1 ?_
  refine g_if_eq E 26 gdX12_line_4 (by decide) h (fun h => ?_) (fun h => ?_)
  ·
    refine g_sub E [] rfl ?_
    exact j26 o h
  ·
    refine g_iload_n E gdX12_line_7 rfl 2 rfl ?_
    obtain ⟨r61, hc62, h⟩ := qB_of h
    refine g_Si (r := r61) (As := [iv x2]) (rest := []) (w := wM g ad o) E (c_X12_isCell l g (wM g ad o) x2 r61 hc62) okm_X12_isCell w_1789 w_1788 rfl rfl (Nat.le_of_ble_eq_true rfl) ⟨Nat.le_of_ble_eq_true rfl, Nat.le_of_ble_eq_true rfl⟩ gdX12_line_8 ?_
    refine g_if_eq E 26 gdX12_line_11 (by decide) h (fun h => ?_) (fun h => ?_)
    ·
      refine g_sub E [] rfl ?_
      exact j26 o h
    ·
      refine g_iload_n E gdX12_line_14 rfl 1 rfl ?_
      refine g_iload_n E gdX12_line_15 rfl 2 rfl ?_
      refine g_icmp_eq E 26 gdX12_line_16 (by decide) h (fun h => ?_) (fun h => ?_)
      ·
        refine g_sub E [] rfl ?_
        exact j26 o h
      ·
        refine g_iload_n E gdX12_line_19 rfl 3 rfl ?_
        obtain ⟨r63, hc64, h⟩ := qB_of h
        refine g_Si (r := r63) (As := [iv x3]) (rest := []) (w := wM g ad o) E (c_X12_isRow l g (wM g ad o) x3 r63 hc64) okm_X12_isRow w_1703 w_1702 rfl rfl (Nat.le_of_ble_eq_true rfl) ⟨Nat.le_of_ble_eq_true rfl, Nat.le_of_ble_eq_true rfl⟩ gdX12_line_20 ?_
        refine g_if_ne E 28 gdX12_line_23 (by decide) h (fun h => ?_) (fun h => ?_)
        ·
          refine g_aload_n E gdX12_line_28 rfl 0 rfl ?_
          refine g_get (T := TX12) E fw_X12 0 (wM_0 g ad o) rfl 32 (by decide) w_1498 rfl rfl gdX12_line_29 ?_
          refine g_bipush E gdX12_line_32 (by decide) ?_
          refine g_icmp_ne E 40 gdX12_line_34 (by decide) h (fun h => ?_) (fun h => ?_)
          ·
            refine g_aload_n E gdX12_line_40 rfl 0 rfl ?_
            refine g_get (T := TX12) E fw_X12 0 (wM_0 g ad o) rfl 5 (by decide) w_1471 rfl rfl gdX12_line_41 ?_
            refine g_iload_n E gdX12_line_44 rfl 3 rfl ?_
            obtain ⟨hi65, h⟩ := qIn_of h
            refine g_iald E 2 (wM_2 g ad o) (by decide) hi65 gdX12_line_45 ?_
            obtain ⟨n66, e_n66, h⟩ := qNm_of h
            refine g_nmi e_n66 ?_
            refine g_if_ge E 55 gdX12_line_46 (by decide) h (fun h => ?_) (fun h => ?_)
            ·
              refine g_aload_n E gdX12_line_55 rfl 0 rfl ?_
              refine g_get (T := TX12) E fw_X12 0 (wM_0 g ad o) rfl 5 (by decide) w_1471 rfl rfl gdX12_line_56 ?_
              refine g_iload_n E gdX12_line_59 rfl 3 rfl ?_
              obtain ⟨hi67, h⟩ := qIn_of h
              refine g_iald E 2 (wM_2 g ad o) (by decide) hi67 gdX12_line_60 ?_
              obtain ⟨n68, e_n68, h⟩ := qNm_of h
              refine g_nmi e_n68 ?_
              refine g_iconst E gdX12_line_61 ?_
              refine g_icmp_eq E 71 gdX12_line_62 (by decide) h (fun h => ?_) (fun h => ?_)
              ·
                refine g_iconst E gdX12_line_71 ?_
                refine g_istore E [(4, iv 0), (0, .ref (ad 0)), (1, iv x1), (2, iv x2), (3, iv x3)] gdX12_line_72 (by decide) rfl ?_
                refine g_sub E [1, 2, 3, 4, 0] rfl ?_
                exact j74 o x1 x2 x3 0 h
              ·
                refine g_aload_n E gdX12_line_65 rfl 0 rfl ?_
                refine g_iconst E gdX12_line_66 ?_
                obtain ⟨r69, o71, hc70, h⟩ := qB2_of h
                refine g_Vi (r := r69) (As := [iv 5]) (rest := []) (w := wM g ad o71) E (c_X12_meets l g ad o 5 (r69, o71) hc70) okm_X12_meets okw_X12_meets w_1708 rfl (wM_0 g ad o) rfl rfl (Nat.le_of_ble_eq_true rfl) ⟨Nat.le_of_ble_eq_true rfl, Nat.le_of_ble_eq_true rfl⟩ gdX12_line_67 ?_
                exact g_iret E hQ (by rw [← Option.some.inj h]) (by rw [← Option.some.inj h]) gdX12_line_70
            ·
              refine g_aload_n E gdX12_line_49 rfl 0 rfl ?_
              refine g_iconst E gdX12_line_50 ?_
              obtain ⟨r72, o74, hc73, h⟩ := qB2_of h
              refine g_Vi (r := r72) (As := [iv 1]) (rest := []) (w := wM g ad o74) E (c_X12_meets l g ad o 1 (r72, o74) hc73) okm_X12_meets okw_X12_meets w_1708 rfl (wM_0 g ad o) rfl rfl (Nat.le_of_ble_eq_true rfl) ⟨Nat.le_of_ble_eq_true rfl, Nat.le_of_ble_eq_true rfl⟩ gdX12_line_51 ?_
              exact g_iret E hQ (by rw [← Option.some.inj h]) (by rw [← Option.some.inj h]) gdX12_line_54
          ·
            refine g_bipush E gdX12_line_37 (by decide) ?_
            exact g_iret E hQ (by rw [← Option.some.inj h]) (by rw [← Option.some.inj h]) gdX12_line_39
        ·
          refine g_sub E [] rfl ?_
          exact j26 o h
noncomputable def b_X12_mark_18 (o : OO) : Option (Int × OO) := some ((-1), o)
noncomputable def b_X12_mark_65 (o : OO) (x1 : Int) (x2 : Int) (y0 : Int) : Option (Int × OO) := qEq y0 0 (qB2 (s_X12_meets o 3) (fun r13 o15 => some (r13, o15))) (qEq x2 1 (qIn x1 24 (qNm (o.1 30 x1.toNat) (fun n2 => some (n2, o)))) (qEq x2 2 (qIn (64 * x1) 1536 (qNm (o.1 31 (64 * x1).toNat) (fun n4 => some (n4, o)))) (qEq x2 3 (qIn x1 24 (qNm (o.1 32 x1.toNat) (fun n6 => some (n6, o)))) (qEq x2 4 (qIn x1 24 (qNm (o.1 33 x1.toNat) (fun n8 => some (n8, o)))) (qEq x2 5 (qIn x1 24 (qNm (o.1 35 x1.toNat) (fun n10 => some (n10, o)))) (qB (s_X12_couldCome o x1) (fun r11 => some (r11, o))))))))
noncomputable def b_X12_mark_60 (o : OO) (x1 : Int) (x2 : Int) : Option (Int × OO) := b_X12_mark_65 o x1 x2 1
noncomputable def b_X12_mark_64 (o : OO) (x1 : Int) (x2 : Int) : Option (Int × OO) := b_X12_mark_65 o x1 x2 0
noncomputable def b_X12_mark_45 (o : OO) (x1 : Int) (x2 : Int) : Option (Int × OO) := qEq x2 3 (qIn x1 24 (qNm (o.1 25 x1.toNat) (fun n17 => qEq n17 4 (b_X12_mark_60 o x1 x2) (b_X12_mark_64 o x1 x2)))) (b_X12_mark_64 o x1 x2)
noncomputable def s_X12_mark (o : OO) (x1 : Int) (x2 : Int) : Option (Int × OO) := qB (s_X12_isMark o x1) (fun r18 => qEq r18 0 (b_X12_mark_18 o) (qB (s_X12_in x2 1 6) (fun r20 => qEq r20 0 (b_X12_mark_18 o) (qIn x1 24 (qNm (o.1 25 x1.toNat) (fun n23 => qEq n23 x2 (b_X12_mark_60 o x1 x2) (qEq x2 1 (qIn x1 24 (qNm (o.1 25 x1.toNat) (fun n25 => qEq n25 2 (b_X12_mark_60 o x1 x2) (b_X12_mark_45 o x1 x2)))) (b_X12_mark_45 o x1 x2))))))))
set_option maxHeartbeats 4000000 in
set_option maxRecDepth 100000 in
theorem c_X12_mark (l : Launch) (g : GG) (ad : Nat → Nat) (o : OO) (x1 : Int) (x2 : Int) (v : Int × OO) (h : s_X12_mark o x1 x2 = some v) : CI l g yX12_mark cX12_mark 4 (some .int) 2 48 (wM g ad o) [.ref (ad 0), iv x1, iv x2] v.1 (wM g ad v.2) := by
  refine met_I (by decide) (Nat.le_of_ble_eq_true rfl) ?_
  intro X E hQ
  show Go X 0 (wM g ad o) [(0, .ref (ad 0)), (1, iv x1), (2, iv x2)] []
  have j18 : ∀ (o : OO), b_X12_mark_18 o = some v → Go X 18 (wM g ad o) [] [] := by
    intro o h
    unfold b_X12_mark_18 at h
    refine g_iconst E gdX12_mark_18 ?_
    exact g_iret E hQ (by rw [← Option.some.inj h]) (by rw [← Option.some.inj h]) gdX12_mark_19
  have j65 : ∀ (o : OO) (x1 : Int) (x2 : Int) (y0 : Int), b_X12_mark_65 o x1 x2 y0 = some v → Go X 65 (wM g ad o) [(0, .ref (ad 0)), (1, iv x1), (2, iv x2)] [iv y0] := by
    intro o x1 x2 y0 h
    unfold b_X12_mark_65 at h
    refine g_istore_n E [(3, iv y0), (0, .ref (ad 0)), (1, iv x1), (2, iv x2)] gdX12_mark_65 rfl (by decide) rfl ?_
    refine g_iload_n E gdX12_mark_66 rfl 0 rfl ?_
    refine g_if_ne E 76 gdX12_mark_67 (by decide) h (fun h => ?_) (fun h => ?_)
    ·
      refine g_iload_n E gdX12_mark_76 rfl 3 rfl ?_
      obtain ⟨h1, -, ⟨hx, h⟩ | ⟨hx0, h⟩⟩ := qEq_of h
      ·
        refine g_tabIn (kx := 1) (off := 35) E 112 gdX12_mark_77 hx (by decide) (by decide) (by decide) (by decide) (by decide) ?_
        refine g_aload_n E gdX12_mark_112 rfl 1 rfl ?_
        refine g_get (T := TX12) E fw_X12 0 (wM_0 g ad o) rfl 38 (by decide) w_1504 rfl rfl gdX12_mark_113 ?_
        refine g_iload_n E gdX12_mark_116 rfl 2 rfl ?_
        obtain ⟨hi1, h⟩ := qIn_of h
        refine g_iald E 30 (wM_30 g ad o) (by decide) hi1 gdX12_mark_117 ?_
        obtain ⟨n2, e_n2, h⟩ := qNm_of h
        refine g_nmi e_n2 ?_
        exact g_iret E hQ (by rw [← Option.some.inj h]) (by rw [← Option.some.inj h]) gdX12_mark_118
      ·
        obtain ⟨h1, -, ⟨hx, h⟩ | ⟨hx1, h⟩⟩ := qEq_of h
        ·
          refine g_tabIn (kx := 2) (off := 42) E 119 gdX12_mark_77 hx (by decide) (by decide) (by decide) (by decide) (by decide) ?_
          refine g_aload_n E gdX12_mark_119 rfl 1 rfl ?_
          refine g_get (T := TX12) E fw_X12 0 (wM_0 g ad o) rfl 39 (by decide) w_1505 rfl rfl gdX12_mark_120 ?_
          refine g_bipush E gdX12_mark_123 (by decide) ?_
          refine g_iload_n E gdX12_mark_125 rfl 2 rfl ?_
          refine g_imul E gdX12_mark_126 ?_
          obtain ⟨hi3, h⟩ := qIn_of h
          refine g_iald E 31 (wM_31 g ad o) (by decide) hi3 gdX12_mark_127 ?_
          obtain ⟨n4, e_n4, h⟩ := qNm_of h
          refine g_nmi e_n4 ?_
          exact g_iret E hQ (by rw [← Option.some.inj h]) (by rw [← Option.some.inj h]) gdX12_mark_128
        ·
          obtain ⟨h1, -, ⟨hx, h⟩ | ⟨hx2, h⟩⟩ := qEq_of h
          ·
            refine g_tabIn (kx := 3) (off := 52) E 129 gdX12_mark_77 hx (by decide) (by decide) (by decide) (by decide) (by decide) ?_
            refine g_aload_n E gdX12_mark_129 rfl 1 rfl ?_
            refine g_get (T := TX12) E fw_X12 0 (wM_0 g ad o) rfl 40 (by decide) w_1506 rfl rfl gdX12_mark_130 ?_
            refine g_iload_n E gdX12_mark_133 rfl 2 rfl ?_
            obtain ⟨hi5, h⟩ := qIn_of h
            refine g_iald E 32 (wM_32 g ad o) (by decide) hi5 gdX12_mark_134 ?_
            obtain ⟨n6, e_n6, h⟩ := qNm_of h
            refine g_nmi e_n6 ?_
            exact g_iret E hQ (by rw [← Option.some.inj h]) (by rw [← Option.some.inj h]) gdX12_mark_135
          ·
            obtain ⟨h1, -, ⟨hx, h⟩ | ⟨hx3, h⟩⟩ := qEq_of h
            ·
              refine g_tabIn (kx := 4) (off := 59) E 136 gdX12_mark_77 hx (by decide) (by decide) (by decide) (by decide) (by decide) ?_
              refine g_aload_n E gdX12_mark_136 rfl 1 rfl ?_
              refine g_get (T := TX12) E fw_X12 0 (wM_0 g ad o) rfl 41 (by decide) w_1507 rfl rfl gdX12_mark_137 ?_
              refine g_iload_n E gdX12_mark_140 rfl 2 rfl ?_
              obtain ⟨hi7, h⟩ := qIn_of h
              refine g_iald E 33 (wM_33 g ad o) (by decide) hi7 gdX12_mark_141 ?_
              obtain ⟨n8, e_n8, h⟩ := qNm_of h
              refine g_nmi e_n8 ?_
              exact g_iret E hQ (by rw [← Option.some.inj h]) (by rw [← Option.some.inj h]) gdX12_mark_142
            ·
              obtain ⟨h1, -, ⟨hx, h⟩ | ⟨hx4, h⟩⟩ := qEq_of h
              ·
                refine g_tabIn (kx := 5) (off := 66) E 143 gdX12_mark_77 hx (by decide) (by decide) (by decide) (by decide) (by decide) ?_
                refine g_aload_n E gdX12_mark_143 rfl 1 rfl ?_
                refine g_get (T := TX12) E fw_X12 0 (wM_0 g ad o) rfl 43 (by decide) w_1509 rfl rfl gdX12_mark_144 ?_
                refine g_iload_n E gdX12_mark_147 rfl 2 rfl ?_
                obtain ⟨hi9, h⟩ := qIn_of h
                refine g_iald E 35 (wM_35 g ad o) (by decide) hi9 gdX12_mark_148 ?_
                obtain ⟨n10, e_n10, h⟩ := qNm_of h
                refine g_nmi e_n10 ?_
                exact g_iret E hQ (by rw [← Option.some.inj h]) (by rw [← Option.some.inj h]) gdX12_mark_149
              ·
                refine g_tabOut E 150 gdX12_mark_77 h1 (by omega) (by decide) ?_
                refine g_aload_n E gdX12_mark_150 rfl 1 rfl ?_
                refine g_iload_n E gdX12_mark_151 rfl 2 rfl ?_
                obtain ⟨r11, hc12, h⟩ := qB_of h
                refine g_Vi (r := r11) (As := [iv x1]) (rest := []) (w := wM g ad o) E (c_X12_couldCome l g ad o x1 r11 hc12) okm_X12_couldCome okw_X12_couldCome w_1969 rfl (wM_0 g ad o) rfl rfl (Nat.le_of_ble_eq_true rfl) ⟨Nat.le_of_ble_eq_true rfl, Nat.le_of_ble_eq_true rfl⟩ gdX12_mark_152 ?_
                exact g_iret E hQ (by rw [← Option.some.inj h]) (by rw [← Option.some.inj h]) gdX12_mark_155
    ·
      refine g_aload_n E gdX12_mark_70 rfl 1 rfl ?_
      refine g_iconst E gdX12_mark_71 ?_
      obtain ⟨r13, o15, hc14, h⟩ := qB2_of h
      refine g_Vi (r := r13) (As := [iv 3]) (rest := []) (w := wM g ad o15) E (c_X12_meets l g ad o 3 (r13, o15) hc14) okm_X12_meets okw_X12_meets w_1708 rfl (wM_0 g ad o) rfl rfl (Nat.le_of_ble_eq_true rfl) ⟨Nat.le_of_ble_eq_true rfl, Nat.le_of_ble_eq_true rfl⟩ gdX12_mark_72 ?_
      exact g_iret E hQ (by rw [← Option.some.inj h]) (by rw [← Option.some.inj h]) gdX12_mark_75
  have j60 : ∀ (o : OO) (x1 : Int) (x2 : Int), b_X12_mark_60 o x1 x2 = some v → Go X 60 (wM g ad o) [(0, .ref (ad 0)), (1, iv x1), (2, iv x2)] [] := by
    intro o x1 x2 h
    unfold b_X12_mark_60 at h
    refine g_iconst E gdX12_mark_60 ?_
    refine g_goto E 65 gdX12_mark_61 (by decide) ?_
    exact j65 o x1 x2 1 h
  have j64 : ∀ (o : OO) (x1 : Int) (x2 : Int), b_X12_mark_64 o x1 x2 = some v → Go X 64 (wM g ad o) [(0, .ref (ad 0)), (1, iv x1), (2, iv x2)] [] := by
    intro o x1 x2 h
    unfold b_X12_mark_64 at h
    refine g_iconst E gdX12_mark_64 ?_
    exact j65 o x1 x2 0 h
  have j45 : ∀ (o : OO) (x1 : Int) (x2 : Int), b_X12_mark_45 o x1 x2 = some v → Go X 45 (wM g ad o) [(0, .ref (ad 0)), (1, iv x1), (2, iv x2)] [] := by
    intro o x1 x2 h
    unfold b_X12_mark_45 at h
    refine g_iload_n E gdX12_mark_45 rfl 2 rfl ?_
    refine g_iconst E gdX12_mark_46 ?_
    refine g_icmp_ne E 64 gdX12_mark_47 (by decide) h (fun h => ?_) (fun h => ?_)
    ·
      exact j64 o x1 x2 h
    ·
      refine g_aload_n E gdX12_mark_50 rfl 0 rfl ?_
      refine g_get (T := TX12) E fw_X12 0 (wM_0 g ad o) rfl 33 (by decide) w_1499 rfl rfl gdX12_mark_51 ?_
      refine g_iload_n E gdX12_mark_54 rfl 1 rfl ?_
      obtain ⟨hi16, h⟩ := qIn_of h
      refine g_iald E 25 (wM_25 g ad o) (by decide) hi16 gdX12_mark_55 ?_
      obtain ⟨n17, e_n17, h⟩ := qNm_of h
      refine g_nmi e_n17 ?_
      refine g_iconst E gdX12_mark_56 ?_
      refine g_icmp_ne E 64 gdX12_mark_57 (by decide) h (fun h => ?_) (fun h => ?_)
      ·
        exact j64 o x1 x2 h
      ·
        exact j60 o x1 x2 h
  unfold s_X12_mark at h
  refine g_aload_n E gdX12_mark_0 rfl 0 rfl ?_
  refine g_iload_n E gdX12_mark_1 rfl 1 rfl ?_
  obtain ⟨r18, hc19, h⟩ := qB_of h
  refine g_Vi (r := r18) (As := [iv x1]) (rest := []) (w := wM g ad o) E (c_X12_isMark l g ad o x1 r18 hc19) okm_X12_isMark okw_X12_isMark w_1903 rfl (wM_0 g ad o) rfl rfl (Nat.le_of_ble_eq_true rfl) ⟨Nat.le_of_ble_eq_true rfl, Nat.le_of_ble_eq_true rfl⟩ gdX12_mark_2 ?_
  refine g_if_eq E 18 gdX12_mark_5 (by decide) h (fun h => ?_) (fun h => ?_)
  ·
    refine g_sub E [] rfl ?_
    exact j18 o h
  ·
    refine g_iload_n E gdX12_mark_8 rfl 2 rfl ?_
    refine g_iconst E gdX12_mark_9 ?_
    refine g_bipush E gdX12_mark_10 (by decide) ?_
    obtain ⟨r20, hc21, h⟩ := qB_of h
    refine g_Si (r := r20) (As := [iv x2, iv 1, iv 6]) (rest := []) (w := wM g ad o) E (c_X12_in l g (wM g ad o) x2 1 6 r20 hc21) okm_X12_in w_1706 w_1705 rfl rfl (Nat.le_of_ble_eq_true rfl) ⟨Nat.le_of_ble_eq_true rfl, Nat.le_of_ble_eq_true rfl⟩ gdX12_mark_12 ?_
    refine g_if_ne E 20 gdX12_mark_15 (by decide) h (fun h => ?_) (fun h => ?_)
    ·
      refine g_aload_n E gdX12_mark_20 rfl 0 rfl ?_
      refine g_get (T := TX12) E fw_X12 0 (wM_0 g ad o) rfl 33 (by decide) w_1499 rfl rfl gdX12_mark_21 ?_
      refine g_iload_n E gdX12_mark_24 rfl 1 rfl ?_
      obtain ⟨hi22, h⟩ := qIn_of h
      refine g_iald E 25 (wM_25 g ad o) (by decide) hi22 gdX12_mark_25 ?_
      obtain ⟨n23, e_n23, h⟩ := qNm_of h
      refine g_nmi e_n23 ?_
      refine g_iload_n E gdX12_mark_26 rfl 2 rfl ?_
      refine g_icmp_eq E 60 gdX12_mark_27 (by decide) h (fun h => ?_) (fun h => ?_)
      ·
        exact j60 o x1 x2 h
      ·
        refine g_iload_n E gdX12_mark_30 rfl 2 rfl ?_
        refine g_iconst E gdX12_mark_31 ?_
        refine g_icmp_ne E 45 gdX12_mark_32 (by decide) h (fun h => ?_) (fun h => ?_)
        ·
          exact j45 o x1 x2 h
        ·
          refine g_aload_n E gdX12_mark_35 rfl 0 rfl ?_
          refine g_get (T := TX12) E fw_X12 0 (wM_0 g ad o) rfl 33 (by decide) w_1499 rfl rfl gdX12_mark_36 ?_
          refine g_iload_n E gdX12_mark_39 rfl 1 rfl ?_
          obtain ⟨hi24, h⟩ := qIn_of h
          refine g_iald E 25 (wM_25 g ad o) (by decide) hi24 gdX12_mark_40 ?_
          obtain ⟨n25, e_n25, h⟩ := qNm_of h
          refine g_nmi e_n25 ?_
          refine g_iconst E gdX12_mark_41 ?_
          refine g_icmp_eq E 60 gdX12_mark_42 (by decide) h (fun h => ?_) (fun h => ?_)
          ·
            exact j60 o x1 x2 h
          ·
            exact j45 o x1 x2 h
    ·
      refine g_sub E [] rfl ?_
      exact j18 o h
noncomputable def b_X12_mean_116 (o : OO) (y0 : Int) : Option (Int × OO) := some (y0, o)
noncomputable def b_X12_mean_96 (o : OO) (x2 : Int) (x3 : Int) : Option (Int × OO) := qEq x2 0 (qB2 (s_X12_meets o 4) (fun r5 o7 => b_X12_mean_116 o7 r5)) (qDv x3 x2 (qB2 (s_X12_ask o (jq x3 x2) 1) (fun r2 o4 => b_X12_mean_116 o4 r2)))
noncomputable def b_X12_mean_88 (o : OO) (x1 : Int) (x2 : Int) (x4 : Int) (y0 : Int) (y1 : Int) : Option ((Int × Int × Int) ⊕ ((Int × Int))) := qNm (y0 + y1) (fun n8 => some (.inl (x2, n8, x4 + 1)))
noncomputable def b_X12_mean_66 (o : OO) (x1 : Int) (x3 : Int) (x4 : Int) (x5 : Int) (y0 : Int) (y1 : Int) : Option ((Int × Int × Int) ⊕ ((Int × Int))) := qNm (y0 + y1) (fun n9 => qEq x5 0 (b_X12_mean_88 o x1 n9 x4 x3 0) (qB (s_X12_valueOf o x4 (o.1 0 4)) (fun r10 => b_X12_mean_88 o x1 n9 x4 x3 r10)))
noncomputable def b_X12_mean_53 (o : OO) (x1 : Int) (x2 : Int) (x3 : Int) (x4 : Int) (y0 : Int) : Option ((Int × Int × Int) ⊕ ((Int × Int))) := qEq y0 0 (b_X12_mean_66 o x1 x3 x4 y0 x2 0) (b_X12_mean_66 o x1 x3 x4 y0 x2 1)
noncomputable def b_X12_mean_52 (o : OO) (x1 : Int) (x2 : Int) (x3 : Int) (x4 : Int) : Option ((Int × Int × Int) ⊕ ((Int × Int))) := b_X12_mean_53 o x1 x2 x3 x4 0
noncomputable def l_X12_mean_18 (o : OO) (x1 : Int) (x2 : Int) (x3 : Int) (x4 : Int) : Option ((Int × Int × Int) ⊕ ((Int × Int))) := qLt x4 (o.1 0 17) (qIn x4 32 (qNm (o.1 14 x4.toNat) (fun n13 => qEq n13 x1 (qIn x4 32 (qNm (o.1 16 x4.toNat) (fun n15 => qEq n15 0 (b_X12_mean_53 o x1 x2 x3 x4 1) (b_X12_mean_52 o x1 x2 x3 x4)))) (b_X12_mean_52 o x1 x2 x3 x4)))) (some (.inr ((x2, x3))))
noncomputable def e_X12_mean_18 (o : OO) (x1 : Int) (x2 : Int) (x3 : Int) (x4 : Int) : Option (Int × OO) := qB (loopW (fun s => l_X12_mean_18 o x1 s.1 s.2.1 s.2.2) (x2, x3, x4)) (fun r => b_X12_mean_96 o r.1 r.2)
noncomputable def s_X12_mean (o : OO) (x1 : Int) : Option (Int × OO) := qB (s_X12_in x1 0 2) (fun r16 => qEq r16 0 (some ((-1), o)) (e_X12_mean_18 o x1 0 0 0))
set_option maxHeartbeats 4000000 in
set_option maxRecDepth 100000 in
theorem c_X12_mean (l : Launch) (g : GG) (ad : Nat → Nat) (o : OO) (x1 : Int) (v : Int × OO) (h : s_X12_mean o x1 = some v) : CI l g yX12_mean cX12_mean 6 (some .int) 1 24 (wM g ad o) [.ref (ad 0), iv x1] v.1 (wM g ad v.2) := by
  refine met_I (by decide) (Nat.le_of_ble_eq_true rfl) ?_
  intro X E hQ
  show Go X 0 (wM g ad o) [(0, .ref (ad 0)), (1, iv x1)] []
  have j116 : ∀ (o : OO) (y0 : Int), b_X12_mean_116 o y0 = some v → Go X 116 (wM g ad o) [] [iv y0] := by
    intro o y0 h
    unfold b_X12_mean_116 at h
    exact g_iret E hQ (by rw [← Option.some.inj h]) (by rw [← Option.some.inj h]) gdX12_mean_116
  have j96 : ∀ (o : OO) (x2 : Int) (x3 : Int), b_X12_mean_96 o x2 x3 = some v → Go X 96 (wM g ad o) [(0, .ref (ad 0)), (2, iv x2), (3, iv x3)] [] := by
    intro o x2 x3 h
    unfold b_X12_mean_96 at h
    refine g_iload_n E gdX12_mean_96 rfl 1 rfl ?_
    refine g_if_ne E 108 gdX12_mean_97 (by decide) h (fun h => ?_) (fun h => ?_)
    ·
      refine g_aload_n E gdX12_mean_108 rfl 0 rfl ?_
      refine g_iload_n E gdX12_mean_109 rfl 2 rfl ?_
      refine g_iload_n E gdX12_mean_110 rfl 1 rfl ?_
      obtain ⟨hd1, h⟩ := qDv_of h
      refine g_idiv E hd1 gdX12_mean_111 ?_
      refine g_iconst E gdX12_mean_112 ?_
      obtain ⟨r2, o4, hc3, h⟩ := qB2_of h
      refine g_Vi (r := r2) (As := [iv (jq x3 x2), iv 1]) (rest := []) (w := wM g ad o4) E (c_X12_ask l g ad o (jq x3 x2) 1 (r2, o4) hc3) okm_X12_ask okw_X12_ask w_1835 rfl (wM_0 g ad o) rfl rfl (Nat.le_of_ble_eq_true rfl) ⟨Nat.le_of_ble_eq_true rfl, Nat.le_of_ble_eq_true rfl⟩ gdX12_mean_113 ?_
      refine g_sub E [] rfl ?_
      exact j116 o4 r2 h
    ·
      refine g_aload_n E gdX12_mean_100 rfl 0 rfl ?_
      refine g_iconst E gdX12_mean_101 ?_
      obtain ⟨r5, o7, hc6, h⟩ := qB2_of h
      refine g_Vi (r := r5) (As := [iv 4]) (rest := []) (w := wM g ad o7) E (c_X12_meets l g ad o 4 (r5, o7) hc6) okm_X12_meets okw_X12_meets w_1708 rfl (wM_0 g ad o) rfl rfl (Nat.le_of_ble_eq_true rfl) ⟨Nat.le_of_ble_eq_true rfl, Nat.le_of_ble_eq_true rfl⟩ gdX12_mean_102 ?_
      refine g_goto E 116 gdX12_mean_105 (by decide) ?_
      refine g_sub E [] rfl ?_
      exact j116 o7 r5 h
  have j88 : ∀ (o : OO) (x1 : Int) (x2 : Int) (x4 : Int) (y0 : Int) (y1 : Int) (v : (Int × Int × Int) ⊕ ((Int × Int))), b_X12_mean_88 o x1 x2 x4 y0 y1 = some v → (∀ (x2 : Int) (x3 : Int) (x4 : Int), v = .inl (x2, x3, x4) → Go X 18 (wM g ad o) [(0, .ref (ad 0)), (1, iv x1), (2, iv x2), (3, iv x3), (4, iv x4)] []) → (∀ (x2 : Int) (x3 : Int), v = .inr ((x2, x3)) → Go X 96 (wM g ad o) [(0, .ref (ad 0)), (2, iv x2), (3, iv x3)] []) → Go X 88 (wM g ad o) [(0, .ref (ad 0)), (1, iv x1), (2, iv x2), (4, iv x4)] [iv y1, iv y0] := by
    intro o x1 x2 x4 y0 y1 v h k0 k1
    unfold b_X12_mean_88 at h
    refine g_iadd E gdX12_mean_88 ?_
    obtain ⟨n8, e_n8, h⟩ := qNm_of h
    refine g_nmi e_n8 ?_
    refine g_istore_n E [(3, iv n8), (0, .ref (ad 0)), (1, iv x1), (2, iv x2), (4, iv x4)] gdX12_mean_89 rfl (by decide) rfl ?_
    refine g_iinc E [(4, iv (x4 + 1)), (3, iv n8), (0, .ref (ad 0)), (1, iv x1), (2, iv x2)] gdX12_mean_90 4 rfl (by decide) rfl ?_
    refine g_goto E 18 gdX12_mean_93 (by decide) ?_
    refine g_sub E [2, 3, 4, 1, 0] rfl ?_
    exact k0 x2 n8 (x4 + 1) (Option.some.inj h).symm
  have j66 : ∀ (o : OO) (x1 : Int) (x3 : Int) (x4 : Int) (x5 : Int) (y0 : Int) (y1 : Int) (v : (Int × Int × Int) ⊕ ((Int × Int))), b_X12_mean_66 o x1 x3 x4 x5 y0 y1 = some v → (∀ (x2 : Int) (x3 : Int) (x4 : Int), v = .inl (x2, x3, x4) → Go X 18 (wM g ad o) [(0, .ref (ad 0)), (1, iv x1), (2, iv x2), (3, iv x3), (4, iv x4)] []) → (∀ (x2 : Int) (x3 : Int), v = .inr ((x2, x3)) → Go X 96 (wM g ad o) [(0, .ref (ad 0)), (2, iv x2), (3, iv x3)] []) → Go X 66 (wM g ad o) [(0, .ref (ad 0)), (1, iv x1), (3, iv x3), (4, iv x4), (5, iv x5)] [iv y1, iv y0] := by
    intro o x1 x3 x4 x5 y0 y1 v h k0 k1
    unfold b_X12_mean_66 at h
    refine g_iadd E gdX12_mean_66 ?_
    obtain ⟨n9, e_n9, h⟩ := qNm_of h
    refine g_nmi e_n9 ?_
    refine g_istore_n E [(2, iv n9), (0, .ref (ad 0)), (1, iv x1), (3, iv x3), (4, iv x4), (5, iv x5)] gdX12_mean_67 rfl (by decide) rfl ?_
    refine g_iload_n E gdX12_mean_68 rfl 3 rfl ?_
    refine g_iload E gdX12_mean_69 5 rfl ?_
    refine g_if_eq E 87 gdX12_mean_71 (by decide) h (fun h => ?_) (fun h => ?_)
    ·
      refine g_iconst E gdX12_mean_87 ?_
      refine g_sub E [1, 2, 0, 4] rfl ?_
      exact j88 o x1 n9 x4 x3 0 v h k0 k1
    ·
      refine g_aload_n E gdX12_mean_74 rfl 1 rfl ?_
      refine g_iload E gdX12_mean_75 4 rfl ?_
      refine g_aload_n E gdX12_mean_77 rfl 1 rfl ?_
      refine g_get (T := TX12) E fw_X12 0 (wM_0 g ad o) rfl 4 (by decide) w_1470 rfl rfl gdX12_mean_78 ?_
      obtain ⟨r10, hc11, h⟩ := qB_of h
      refine g_Vi (r := r10) (As := [iv x4, iv (o.1 0 4)]) (rest := [iv x3]) (w := wM g ad o) E (c_X12_valueOf l g ad o x4 (o.1 0 4) r10 hc11) okm_X12_valueOf okw_X12_valueOf w_1815 rfl (wM_0 g ad o) rfl rfl (Nat.le_of_ble_eq_true rfl) ⟨Nat.le_of_ble_eq_true rfl, Nat.le_of_ble_eq_true rfl⟩ gdX12_mean_81 ?_
      refine g_goto E 88 gdX12_mean_84 (by decide) ?_
      refine g_sub E [1, 2, 0, 4] rfl ?_
      exact j88 o x1 n9 x4 x3 r10 v h k0 k1
  have j53 : ∀ (o : OO) (x1 : Int) (x2 : Int) (x3 : Int) (x4 : Int) (y0 : Int) (v : (Int × Int × Int) ⊕ ((Int × Int))), b_X12_mean_53 o x1 x2 x3 x4 y0 = some v → (∀ (x2 : Int) (x3 : Int) (x4 : Int), v = .inl (x2, x3, x4) → Go X 18 (wM g ad o) [(0, .ref (ad 0)), (1, iv x1), (2, iv x2), (3, iv x3), (4, iv x4)] []) → (∀ (x2 : Int) (x3 : Int), v = .inr ((x2, x3)) → Go X 96 (wM g ad o) [(0, .ref (ad 0)), (2, iv x2), (3, iv x3)] []) → Go X 53 (wM g ad o) [(0, .ref (ad 0)), (1, iv x1), (2, iv x2), (3, iv x3), (4, iv x4)] [iv y0] := by
    intro o x1 x2 x3 x4 y0 v h k0 k1
    unfold b_X12_mean_53 at h
    refine g_istore E [(5, iv y0), (0, .ref (ad 0)), (1, iv x1), (2, iv x2), (3, iv x3), (4, iv x4)] gdX12_mean_53 (by decide) rfl ?_
    refine g_iload_n E gdX12_mean_55 rfl 3 rfl ?_
    refine g_iload E gdX12_mean_56 0 rfl ?_
    refine g_if_eq E 65 gdX12_mean_58 (by decide) h (fun h => ?_) (fun h => ?_)
    ·
      refine g_iconst E gdX12_mean_65 ?_
      refine g_sub E [1, 2, 4, 5, 0] rfl ?_
      exact j66 o x1 x3 x4 y0 x2 0 v h k0 k1
    ·
      refine g_iconst E gdX12_mean_61 ?_
      refine g_goto E 66 gdX12_mean_62 (by decide) ?_
      refine g_sub E [1, 2, 4, 5, 0] rfl ?_
      exact j66 o x1 x3 x4 y0 x2 1 v h k0 k1
  have j52 : ∀ (o : OO) (x1 : Int) (x2 : Int) (x3 : Int) (x4 : Int) (v : (Int × Int × Int) ⊕ ((Int × Int))), b_X12_mean_52 o x1 x2 x3 x4 = some v → (∀ (x2 : Int) (x3 : Int) (x4 : Int), v = .inl (x2, x3, x4) → Go X 18 (wM g ad o) [(0, .ref (ad 0)), (1, iv x1), (2, iv x2), (3, iv x3), (4, iv x4)] []) → (∀ (x2 : Int) (x3 : Int), v = .inr ((x2, x3)) → Go X 96 (wM g ad o) [(0, .ref (ad 0)), (2, iv x2), (3, iv x3)] []) → Go X 52 (wM g ad o) [(0, .ref (ad 0)), (1, iv x1), (2, iv x2), (3, iv x3), (4, iv x4)] [] := by
    intro o x1 x2 x3 x4 v h k0 k1
    unfold b_X12_mean_52 at h
    refine g_iconst E gdX12_mean_52 ?_
    exact j53 o x1 x2 x3 x4 0 v h k0 k1
  have l18 : ∀ (o : OO) (x1 : Int) (r : (Int × Int)) (s0 : Int × Int × Int), loopW (fun s => l_X12_mean_18 o x1 s.1 s.2.1 s.2.2) s0 = some r → (∀ (x2 : Int) (x3 : Int), r = ((x2, x3)) → Go X 96 (wM g ad o) [(0, .ref (ad 0)), (2, iv x2), (3, iv x3)] []) → Go X 18 (wM g ad o) [(0, .ref (ad 0)), (1, iv x1), (2, iv s0.1), (3, iv s0.2.1), (4, iv s0.2.2)] [] := by
    intro o x1 r s0 h k1
    refine loop_rule (Head := fun s0 => Go X 18 (wM g ad o) [(0, .ref (ad 0)), (1, iv x1), (2, iv s0.1), (3, iv s0.2.1), (4, iv s0.2.2)] []) h ?_
    intro s v h kk kx
    obtain ⟨x2, x3, x4⟩ := s
    have h : l_X12_mean_18 o x1 x2 x3 x4 = some v := h
    have k0 : ∀ (x2 : Int) (x3 : Int) (x4 : Int), v = .inl (x2, x3, x4) → Go X 18 (wM g ad o) [(0, .ref (ad 0)), (1, iv x1), (2, iv x2), (3, iv x3), (4, iv x4)] [] := fun x2 x3 x4 e => kk (x2, x3, x4) e
    have k1 : ∀ (x2 : Int) (x3 : Int), v = .inr ((x2, x3)) → Go X 96 (wM g ad o) [(0, .ref (ad 0)), (2, iv x2), (3, iv x3)] [] := fun x2 x3 e => k1 x2 x3 (kx _ e).symm
    unfold l_X12_mean_18 at h
    refine g_iload E gdX12_mean_18 4 rfl ?_
    refine g_aload_n E gdX12_mean_20 rfl 0 rfl ?_
    refine g_get (T := TX12) E fw_X12 0 (wM_0 g ad o) rfl 17 (by decide) w_1483 rfl rfl gdX12_mean_21 ?_
    refine g_icmp_ge E 96 gdX12_mean_24 (by decide) h (fun h => ?_) (fun h => ?_)
    ·
      refine g_sub E [0, 2, 3] rfl ?_
      exact k1 x2 x3 (Option.some.inj h).symm
    ·
      refine g_aload_n E gdX12_mean_27 rfl 0 rfl ?_
      refine g_get (T := TX12) E fw_X12 0 (wM_0 g ad o) rfl 19 (by decide) w_1485 rfl rfl gdX12_mean_28 ?_
      refine g_iload E gdX12_mean_31 4 rfl ?_
      obtain ⟨hi12, h⟩ := qIn_of h
      refine g_iald E 14 (wM_14 g ad o) (by decide) hi12 gdX12_mean_33 ?_
      obtain ⟨n13, e_n13, h⟩ := qNm_of h
      refine g_nmi e_n13 ?_
      refine g_iload_n E gdX12_mean_34 rfl 1 rfl ?_
      refine g_icmp_ne E 52 gdX12_mean_35 (by decide) h (fun h => ?_) (fun h => ?_)
      ·
        exact j52 o x1 x2 x3 x4 v h k0 k1
      ·
        refine g_aload_n E gdX12_mean_38 rfl 0 rfl ?_
        refine g_get (T := TX12) E fw_X12 0 (wM_0 g ad o) rfl 21 (by decide) w_1487 rfl rfl gdX12_mean_39 ?_
        refine g_iload E gdX12_mean_42 4 rfl ?_
        obtain ⟨hi14, h⟩ := qIn_of h
        refine g_zald E 16 (wM_16 g ad o) (by decide) hi14 gdX12_mean_44 ?_
        obtain ⟨n15, e_n15, h⟩ := qNm_of h
        refine g_nmi e_n15 ?_
        refine g_if_ne E 52 gdX12_mean_45 (by decide) h (fun h => ?_) (fun h => ?_)
        ·
          exact j52 o x1 x2 x3 x4 v h k0 k1
        ·
          refine g_iconst E gdX12_mean_48 ?_
          refine g_goto E 53 gdX12_mean_49 (by decide) ?_
          exact j53 o x1 x2 x3 x4 1 v h k0 k1
  have j18 : ∀ (o : OO) (x1 : Int) (x2 : Int) (x3 : Int) (x4 : Int), e_X12_mean_18 o x1 x2 x3 x4 = some v → Go X 18 (wM g ad o) [(0, .ref (ad 0)), (1, iv x1), (2, iv x2), (3, iv x3), (4, iv x4)] [] := by
    intro o x1 x2 x3 x4 h
    unfold e_X12_mean_18 at h
    obtain ⟨r, hr, h⟩ := qB_of h
    refine l18 o x1 r _ hr ?_
    ·
      intro u0 u1 e
      subst e
      have h : b_X12_mean_96 o u0 u1 = some v := h
      exact j96 o u0 u1 h
  unfold s_X12_mean at h
  refine g_iload_n E gdX12_mean_0 rfl 1 rfl ?_
  refine g_iconst E gdX12_mean_1 ?_
  refine g_iconst E gdX12_mean_2 ?_
  obtain ⟨r16, hc17, h⟩ := qB_of h
  refine g_Si (r := r16) (As := [iv x1, iv 0, iv 2]) (rest := []) (w := wM g ad o) E (c_X12_in l g (wM g ad o) x1 0 2 r16 hc17) okm_X12_in w_1706 w_1705 rfl rfl (Nat.le_of_ble_eq_true rfl) ⟨Nat.le_of_ble_eq_true rfl, Nat.le_of_ble_eq_true rfl⟩ gdX12_mean_3 ?_
  refine g_if_ne E 11 gdX12_mean_6 (by decide) h (fun h => ?_) (fun h => ?_)
  ·
    refine g_iconst E gdX12_mean_11 ?_
    refine g_istore_n E [(2, iv 0), (0, .ref (ad 0)), (1, iv x1)] gdX12_mean_12 rfl (by decide) rfl ?_
    refine g_iconst E gdX12_mean_13 ?_
    refine g_istore_n E [(3, iv 0), (2, iv 0), (0, .ref (ad 0)), (1, iv x1)] gdX12_mean_14 rfl (by decide) rfl ?_
    refine g_iconst E gdX12_mean_15 ?_
    refine g_istore E [(4, iv 0), (3, iv 0), (2, iv 0), (0, .ref (ad 0)), (1, iv x1)] gdX12_mean_16 (by decide) rfl ?_
    refine g_sub E [3, 4, 2, 1, 0] rfl ?_
    exact j18 o x1 0 0 0 h
  ·
    refine g_iconst E gdX12_mean_9 ?_
    exact g_iret E hQ (by rw [← Option.some.inj h]) (by rw [← Option.some.inj h]) gdX12_mean_10
noncomputable def b_X12_hasRoom_37 (o : OO) (y0 : Int) : Option (Int) := qZ y0 (some y0)
noncomputable def b_X12_hasRoom_36 (o : OO) : Option (Int) := b_X12_hasRoom_37 o 0
noncomputable def s_X12_hasRoom (o : OO) (x1 : Int) : Option (Int) := qIn x1 32 (qNm (o.1 14 x1.toNat) (fun n2 => qEq n2 0 (qIn x1 32 (qNm (o.1 16 x1.toNat) (fun n4 => qEq n4 0 (qB (s_X12_living o x1) (fun r5 => qIn x1 32 (qNm (o.1 15 x1.toNat) (fun n8 => qLt r5 n8 (b_X12_hasRoom_37 o 1) (b_X12_hasRoom_36 o))))) (b_X12_hasRoom_36 o)))) (b_X12_hasRoom_36 o)))
set_option maxHeartbeats 4000000 in
set_option maxRecDepth 100000 in
theorem c_X12_hasRoom (l : Launch) (g : GG) (ad : Nat → Nat) (o : OO) (x1 : Int) (v : Int) (h : s_X12_hasRoom o x1 = some v) : CI l g yX12_hasRoom cX12_hasRoom 2 (some .boolean) 1 23 (wM g ad o) [.ref (ad 0), iv x1] v (wM g ad o) := by
  refine met_I (by decide) (Nat.le_of_ble_eq_true rfl) ?_
  intro X E hQ
  show Go X 0 (wM g ad o) [(0, .ref (ad 0)), (1, iv x1)] []
  have j37 : ∀ (y0 : Int), b_X12_hasRoom_37 o y0 = some v → Go X 37 (wM g ad o) [] [iv y0] := by
    intro y0 h
    unfold b_X12_hasRoom_37 at h
    obtain ⟨hz, h⟩ := qZ_of h
    exact g_zret E hQ hz (Option.some.inj h) rfl gdX12_hasRoom_37
  have j36 : b_X12_hasRoom_36 o = some v → Go X 36 (wM g ad o) [] [] := by
    intro h
    unfold b_X12_hasRoom_36 at h
    refine g_iconst E gdX12_hasRoom_36 ?_
    exact j37 0 h
  unfold s_X12_hasRoom at h
  refine g_aload_n E gdX12_hasRoom_0 rfl 0 rfl ?_
  refine g_get (T := TX12) E fw_X12 0 (wM_0 g ad o) rfl 19 (by decide) w_1485 rfl rfl gdX12_hasRoom_1 ?_
  refine g_iload_n E gdX12_hasRoom_4 rfl 1 rfl ?_
  obtain ⟨hi1, h⟩ := qIn_of h
  refine g_iald E 14 (wM_14 g ad o) (by decide) hi1 gdX12_hasRoom_5 ?_
  obtain ⟨n2, e_n2, h⟩ := qNm_of h
  refine g_nmi e_n2 ?_
  refine g_if_ne E 36 gdX12_hasRoom_6 (by decide) h (fun h => ?_) (fun h => ?_)
  ·
    refine g_sub E [] rfl ?_
    exact j36  h
  ·
    refine g_aload_n E gdX12_hasRoom_9 rfl 0 rfl ?_
    refine g_get (T := TX12) E fw_X12 0 (wM_0 g ad o) rfl 21 (by decide) w_1487 rfl rfl gdX12_hasRoom_10 ?_
    refine g_iload_n E gdX12_hasRoom_13 rfl 1 rfl ?_
    obtain ⟨hi3, h⟩ := qIn_of h
    refine g_zald E 16 (wM_16 g ad o) (by decide) hi3 gdX12_hasRoom_14 ?_
    obtain ⟨n4, e_n4, h⟩ := qNm_of h
    refine g_nmi e_n4 ?_
    refine g_if_ne E 36 gdX12_hasRoom_15 (by decide) h (fun h => ?_) (fun h => ?_)
    ·
      refine g_sub E [] rfl ?_
      exact j36  h
    ·
      refine g_aload_n E gdX12_hasRoom_18 rfl 0 rfl ?_
      refine g_iload_n E gdX12_hasRoom_19 rfl 1 rfl ?_
      obtain ⟨r5, hc6, h⟩ := qB_of h
      refine g_Vi (r := r5) (As := [iv x1]) (rest := []) (w := wM g ad o) E (c_X12_living l g ad o x1 r5 hc6) okm_X12_living okw_X12_living w_1831 rfl (wM_0 g ad o) rfl rfl (Nat.le_of_ble_eq_true rfl) ⟨Nat.le_of_ble_eq_true rfl, Nat.le_of_ble_eq_true rfl⟩ gdX12_hasRoom_20 ?_
      refine g_aload_n E gdX12_hasRoom_23 rfl 0 rfl ?_
      refine g_get (T := TX12) E fw_X12 0 (wM_0 g ad o) rfl 20 (by decide) w_1486 rfl rfl gdX12_hasRoom_24 ?_
      refine g_iload_n E gdX12_hasRoom_27 rfl 1 rfl ?_
      obtain ⟨hi7, h⟩ := qIn_of h
      refine g_iald E 15 (wM_15 g ad o) (by decide) hi7 gdX12_hasRoom_28 ?_
      obtain ⟨n8, e_n8, h⟩ := qNm_of h
      refine g_nmi e_n8 ?_
      refine g_icmp_ge E 36 gdX12_hasRoom_29 (by decide) h (fun h => ?_) (fun h => ?_)
      ·
        refine g_sub E [] rfl ?_
        exact j36  h
      ·
        refine g_iconst E gdX12_hasRoom_32 ?_
        refine g_goto E 37 gdX12_hasRoom_33 (by decide) ?_
        refine g_sub E [] rfl ?_
        exact j37 1 h
noncomputable def b_X12_moved_24 (o : OO) : Option (Int × OO) := some ((-1), o)
noncomputable def b_X12_moved_84 (o : OO) : Option (Int × OO) := some ((-4), o)
noncomputable def s_X12_moved (o : OO) (x1 : Int) (x2 : Int) (x3 : Int) : Option (Int × OO) := qB (s_X12_isMark o x1) (fun r1 => qEq r1 0 (b_X12_moved_24 o) (qB (s_X12_isPerson o x2) (fun r3 => qEq r3 0 (b_X12_moved_24 o) (qB (s_X12_isBuilding o x3) (fun r5 => qEq r5 0 (b_X12_moved_24 o) (qEq (o.1 0 32) 24 (some ((-2), o)) (qIn x1 24 (qNm (o.1 25 x1.toNat) (fun n8 => qEq n8 3 (qIn x1 24 (qNm (o.2 34 x1.toNat) (fun m10 => qB (s_X12_has m10 x2) (fun r11 => qEq r11 0 (b_X12_moved_84 o) (qIn x2 40 (qNm (o.1 21 x2.toNat) (fun n14 => qLt n14 0 (qB (s_X12_hasRoom o x3) (fun r15 => qEq r15 0 (b_X12_moved_84 o) (qB2 (s_X12_enter o 4 x1) (fun r17 o19 => qB (s_X12_nowInForce o19 3) (fun r20 => qIn r17 24 (qNm (st1 o19 32 r17.toNat r20) (fun o23 => qIn r17 24 (qNm (st1 o23 33 r17.toNat x2) (fun o25 => qIn x2 40 (qNm (st1 o25 21 x2.toNat x3) (fun o27 => qIn r17 24 (qNm (o27.1 32 r17.toNat) (fun n29 => qB2 (s_X12_ask o27 n29 r17) (fun r30 o32 => some (r30, o32))))))))))))))) (b_X12_moved_84 o)))))))) (qB2 (s_X12_meets o 3) (fun r33 o35 => some (r33, o35))))))))))))
set_option maxHeartbeats 4000000 in
set_option maxRecDepth 100000 in
theorem c_X12_moved (l : Launch) (g : GG) (ad : Nat → Nat) (o : OO) (x1 : Int) (x2 : Int) (x3 : Int) (v : Int × OO) (h : s_X12_moved o x1 x2 x3 = some v) : CI l g yX12_moved cX12_moved 5 (some .int) 3 71 (wM g ad o) [.ref (ad 0), iv x1, iv x2, iv x3] v.1 (wM g ad v.2) := by
  refine met_I (by decide) (Nat.le_of_ble_eq_true rfl) ?_
  intro X E hQ
  show Go X 0 (wM g ad o) [(0, .ref (ad 0)), (1, iv x1), (2, iv x2), (3, iv x3)] []
  have j24 : ∀ (o : OO), b_X12_moved_24 o = some v → Go X 24 (wM g ad o) [] [] := by
    intro o h
    unfold b_X12_moved_24 at h
    refine g_iconst E gdX12_moved_24 ?_
    exact g_iret E hQ (by rw [← Option.some.inj h]) (by rw [← Option.some.inj h]) gdX12_moved_25
  have j84 : ∀ (o : OO), b_X12_moved_84 o = some v → Go X 84 (wM g ad o) [] [] := by
    intro o h
    unfold b_X12_moved_84 at h
    refine g_bipush E gdX12_moved_84 (by decide) ?_
    exact g_iret E hQ (by rw [← Option.some.inj h]) (by rw [← Option.some.inj h]) gdX12_moved_86
  unfold s_X12_moved at h
  refine g_aload_n E gdX12_moved_0 rfl 0 rfl ?_
  refine g_iload_n E gdX12_moved_1 rfl 1 rfl ?_
  obtain ⟨r1, hc2, h⟩ := qB_of h
  refine g_Vi (r := r1) (As := [iv x1]) (rest := []) (w := wM g ad o) E (c_X12_isMark l g ad o x1 r1 hc2) okm_X12_isMark okw_X12_isMark w_1903 rfl (wM_0 g ad o) rfl rfl (Nat.le_of_ble_eq_true rfl) ⟨Nat.le_of_ble_eq_true rfl, Nat.le_of_ble_eq_true rfl⟩ gdX12_moved_2 ?_
  refine g_if_eq E 24 gdX12_moved_5 (by decide) h (fun h => ?_) (fun h => ?_)
  ·
    refine g_sub E [] rfl ?_
    exact j24 o h
  ·
    refine g_aload_n E gdX12_moved_8 rfl 0 rfl ?_
    refine g_iload_n E gdX12_moved_9 rfl 2 rfl ?_
    obtain ⟨r3, hc4, h⟩ := qB_of h
    refine g_Vi (r := r3) (As := [iv x2]) (rest := []) (w := wM g ad o) E (c_X12_isPerson l g ad o x2 r3 hc4) okm_X12_isPerson okw_X12_isPerson w_1851 rfl (wM_0 g ad o) rfl rfl (Nat.le_of_ble_eq_true rfl) ⟨Nat.le_of_ble_eq_true rfl, Nat.le_of_ble_eq_true rfl⟩ gdX12_moved_10 ?_
    refine g_if_eq E 24 gdX12_moved_13 (by decide) h (fun h => ?_) (fun h => ?_)
    ·
      refine g_sub E [] rfl ?_
      exact j24 o h
    ·
      refine g_aload_n E gdX12_moved_16 rfl 0 rfl ?_
      refine g_iload_n E gdX12_moved_17 rfl 3 rfl ?_
      obtain ⟨r5, hc6, h⟩ := qB_of h
      refine g_Vi (r := r5) (As := [iv x3]) (rest := []) (w := wM g ad o) E (c_X12_isBuilding l g ad o x3 r5 hc6) okm_X12_isBuilding okw_X12_isBuilding w_1811 rfl (wM_0 g ad o) rfl rfl (Nat.le_of_ble_eq_true rfl) ⟨Nat.le_of_ble_eq_true rfl, Nat.le_of_ble_eq_true rfl⟩ gdX12_moved_18 ?_
      refine g_if_ne E 26 gdX12_moved_21 (by decide) h (fun h => ?_) (fun h => ?_)
      ·
        refine g_aload_n E gdX12_moved_26 rfl 0 rfl ?_
        refine g_get (T := TX12) E fw_X12 0 (wM_0 g ad o) rfl 32 (by decide) w_1498 rfl rfl gdX12_moved_27 ?_
        refine g_bipush E gdX12_moved_30 (by decide) ?_
        refine g_icmp_ne E 38 gdX12_moved_32 (by decide) h (fun h => ?_) (fun h => ?_)
        ·
          refine g_aload_n E gdX12_moved_38 rfl 0 rfl ?_
          refine g_get (T := TX12) E fw_X12 0 (wM_0 g ad o) rfl 33 (by decide) w_1499 rfl rfl gdX12_moved_39 ?_
          refine g_iload_n E gdX12_moved_42 rfl 1 rfl ?_
          obtain ⟨hi7, h⟩ := qIn_of h
          refine g_iald E 25 (wM_25 g ad o) (by decide) hi7 gdX12_moved_43 ?_
          obtain ⟨n8, e_n8, h⟩ := qNm_of h
          refine g_nmi e_n8 ?_
          refine g_iconst E gdX12_moved_44 ?_
          refine g_icmp_eq E 54 gdX12_moved_45 (by decide) h (fun h => ?_) (fun h => ?_)
          ·
            refine g_aload_n E gdX12_moved_54 rfl 0 rfl ?_
            refine g_get (T := TX12) E fw_X12 0 (wM_0 g ad o) rfl 42 (by decide) w_1508 rfl rfl gdX12_moved_55 ?_
            refine g_iload_n E gdX12_moved_58 rfl 1 rfl ?_
            obtain ⟨hi9, h⟩ := qIn_of h
            refine g_lald E 34 (wM_34 g ad o) (by decide) hi9 gdX12_moved_59 ?_
            obtain ⟨m10, e_m10, h⟩ := qNm_of h
            refine g_nml e_m10 ?_
            refine g_iload_n E gdX12_moved_60 rfl 2 rfl ?_
            obtain ⟨r11, hc12, h⟩ := qB_of h
            refine g_Si (r := r11) (As := [.long m10, iv x2]) (rest := []) (w := wM g ad o) E (c_X12_has l g (wM g ad o) m10 x2 r11 hc12) okm_X12_has w_1919 w_1918 rfl rfl (Nat.le_of_ble_eq_true rfl) ⟨Nat.le_of_ble_eq_true rfl, Nat.le_of_ble_eq_true rfl⟩ gdX12_moved_61 ?_
            refine g_if_eq E 84 gdX12_moved_64 (by decide) h (fun h => ?_) (fun h => ?_)
            ·
              refine g_sub E [] rfl ?_
              exact j84 o h
            ·
              refine g_aload_n E gdX12_moved_67 rfl 0 rfl ?_
              refine g_get (T := TX12) E fw_X12 0 (wM_0 g ad o) rfl 28 (by decide) w_1494 rfl rfl gdX12_moved_68 ?_
              refine g_iload_n E gdX12_moved_71 rfl 2 rfl ?_
              obtain ⟨hi13, h⟩ := qIn_of h
              refine g_iald E 21 (wM_21 g ad o) (by decide) hi13 gdX12_moved_72 ?_
              obtain ⟨n14, e_n14, h⟩ := qNm_of h
              refine g_nmi e_n14 ?_
              refine g_if_ge E 84 gdX12_moved_73 (by decide) h (fun h => ?_) (fun h => ?_)
              ·
                refine g_sub E [] rfl ?_
                exact j84 o h
              ·
                refine g_aload_n E gdX12_moved_76 rfl 0 rfl ?_
                refine g_iload_n E gdX12_moved_77 rfl 3 rfl ?_
                obtain ⟨r15, hc16, h⟩ := qB_of h
                refine g_Vi (r := r15) (As := [iv x3]) (rest := []) (w := wM g ad o) E (c_X12_hasRoom l g ad o x3 r15 hc16) okm_X12_hasRoom okw_X12_hasRoom w_1843 rfl (wM_0 g ad o) rfl rfl (Nat.le_of_ble_eq_true rfl) ⟨Nat.le_of_ble_eq_true rfl, Nat.le_of_ble_eq_true rfl⟩ gdX12_moved_78 ?_
                refine g_if_ne E 87 gdX12_moved_81 (by decide) h (fun h => ?_) (fun h => ?_)
                ·
                  refine g_aload_n E gdX12_moved_87 rfl 0 rfl ?_
                  refine g_iconst E gdX12_moved_88 ?_
                  refine g_iload_n E gdX12_moved_89 rfl 1 rfl ?_
                  obtain ⟨r17, o19, hc18, h⟩ := qB2_of h
                  refine g_Vi (r := r17) (As := [iv 4, iv x1]) (rest := []) (w := wM g ad o19) E (c_X12_enter l g ad o 4 x1 (r17, o19) hc18) okm_X12_enter okw_X12_enter w_1895 rfl (wM_0 g ad o) rfl rfl (Nat.le_of_ble_eq_true rfl) ⟨Nat.le_of_ble_eq_true rfl, Nat.le_of_ble_eq_true rfl⟩ gdX12_moved_90 ?_
                  refine g_istore E [(4, iv r17), (0, .ref (ad 0)), (1, iv x1), (2, iv x2), (3, iv x3)] gdX12_moved_93 (by decide) rfl ?_
                  refine g_aload_n E gdX12_moved_95 rfl 1 rfl ?_
                  refine g_get (T := TX12) E fw_X12 0 (wM_0 g ad o19) rfl 40 (by decide) w_1506 rfl rfl gdX12_moved_96 ?_
                  refine g_iload E gdX12_moved_99 0 rfl ?_
                  refine g_aload_n E gdX12_moved_101 rfl 1 rfl ?_
                  refine g_iconst E gdX12_moved_102 ?_
                  obtain ⟨r20, hc21, h⟩ := qB_of h
                  refine g_Vi (r := r20) (As := [iv 3]) (rest := [iv r17, .ref (ad 32)]) (w := wM g ad o19) E (c_X12_nowInForce l g ad o19 3 r20 hc21) okm_X12_nowInForce okw_X12_nowInForce w_1871 rfl (wM_0 g ad o19) rfl rfl (Nat.le_of_ble_eq_true rfl) ⟨Nat.le_of_ble_eq_true rfl, Nat.le_of_ble_eq_true rfl⟩ gdX12_moved_103 ?_
                  obtain ⟨hi22, h⟩ := qIn_of h
                  obtain ⟨o23, e_o23, h⟩ := qNm_of h
                  refine g_iast (ws' := wM g ad o23) E 32 (wM_32 g ad o19) (by decide) hi22 (by rw [e_o23]; exact wM_s32 g ad o19 _ _) gdX12_moved_106 ?_
                  refine g_aload_n E gdX12_moved_107 rfl 1 rfl ?_
                  refine g_get (T := TX12) E fw_X12 0 (wM_0 g ad o23) rfl 41 (by decide) w_1507 rfl rfl gdX12_moved_108 ?_
                  refine g_iload E gdX12_moved_111 0 rfl ?_
                  refine g_iload_n E gdX12_moved_113 rfl 3 rfl ?_
                  obtain ⟨hi24, h⟩ := qIn_of h
                  obtain ⟨o25, e_o25, h⟩ := qNm_of h
                  refine g_iast (ws' := wM g ad o25) E 33 (wM_33 g ad o23) (by decide) hi24 (by rw [e_o25]; exact wM_s33 g ad o23 _ _) gdX12_moved_114 ?_
                  refine g_aload_n E gdX12_moved_115 rfl 1 rfl ?_
                  refine g_get (T := TX12) E fw_X12 0 (wM_0 g ad o25) rfl 28 (by decide) w_1494 rfl rfl gdX12_moved_116 ?_
                  refine g_iload_n E gdX12_moved_119 rfl 3 rfl ?_
                  refine g_iload_n E gdX12_moved_120 rfl 4 rfl ?_
                  obtain ⟨hi26, h⟩ := qIn_of h
                  obtain ⟨o27, e_o27, h⟩ := qNm_of h
                  refine g_iast (ws' := wM g ad o27) E 21 (wM_21 g ad o25) (by decide) hi26 (by rw [e_o27]; exact wM_s21 g ad o25 _ _) gdX12_moved_121 ?_
                  refine g_aload_n E gdX12_moved_122 rfl 1 rfl ?_
                  refine g_aload_n E gdX12_moved_123 rfl 1 rfl ?_
                  refine g_get (T := TX12) E fw_X12 0 (wM_0 g ad o27) rfl 40 (by decide) w_1506 rfl rfl gdX12_moved_124 ?_
                  refine g_iload E gdX12_moved_127 0 rfl ?_
                  obtain ⟨hi28, h⟩ := qIn_of h
                  refine g_iald E 32 (wM_32 g ad o27) (by decide) hi28 gdX12_moved_129 ?_
                  obtain ⟨n29, e_n29, h⟩ := qNm_of h
                  refine g_nmi e_n29 ?_
                  refine g_iload E gdX12_moved_130 0 rfl ?_
                  obtain ⟨r30, o32, hc31, h⟩ := qB2_of h
                  refine g_Vi (r := r30) (As := [iv n29, iv r17]) (rest := []) (w := wM g ad o32) E (c_X12_ask l g ad o27 n29 r17 (r30, o32) hc31) okm_X12_ask okw_X12_ask w_1835 rfl (wM_0 g ad o27) rfl rfl (Nat.le_of_ble_eq_true rfl) ⟨Nat.le_of_ble_eq_true rfl, Nat.le_of_ble_eq_true rfl⟩ gdX12_moved_132 ?_
                  exact g_iret E hQ (by rw [← Option.some.inj h]) (by rw [← Option.some.inj h]) gdX12_moved_135
                ·
                  refine g_sub E [] rfl ?_
                  exact j84 o h
          ·
            refine g_aload_n E gdX12_moved_48 rfl 0 rfl ?_
            refine g_iconst E gdX12_moved_49 ?_
            obtain ⟨r33, o35, hc34, h⟩ := qB2_of h
            refine g_Vi (r := r33) (As := [iv 3]) (rest := []) (w := wM g ad o35) E (c_X12_meets l g ad o 3 (r33, o35) hc34) okm_X12_meets okw_X12_meets w_1708 rfl (wM_0 g ad o) rfl rfl (Nat.le_of_ble_eq_true rfl) ⟨Nat.le_of_ble_eq_true rfl, Nat.le_of_ble_eq_true rfl⟩ gdX12_moved_50 ?_
            exact g_iret E hQ (by rw [← Option.some.inj h]) (by rw [← Option.some.inj h]) gdX12_moved_53
        ·
          refine g_bipush E gdX12_moved_35 (by decide) ?_
          exact g_iret E hQ (by rw [← Option.some.inj h]) (by rw [← Option.some.inj h]) gdX12_moved_37
      ·
        refine g_sub E [] rfl ?_
        exact j24 o h
noncomputable def b_X12_noise_15 (o : OO) : Option (Int × OO) := some ((-1), o)
noncomputable def b_X12_noise_66 (o : OO) (y0 : Int) : Option (Int × OO) := some (y0, o)
noncomputable def s_X12_noise (o : OO) (x1 : Int) (x2 : Int) : Option (Int × OO) := qB (s_X12_isMark o x1) (fun r1 => qEq r1 0 (b_X12_noise_15 o) (qB (s_X12_isRow x2) (fun r3 => qEq r3 0 (b_X12_noise_15 o) (qB (s_X12_isLine o x1) (fun r5 => qEq r5 0 (qB2 (s_X12_meets o 3) (fun r19 o21 => some (r19, o21))) (qIn x2 6 (qNm (o.1 2 x2.toNat) (fun n8 => qLt n8 0 (qB2 (s_X12_meets o 1) (fun r16 o18 => b_X12_noise_66 o18 r16)) (qB (s_X12_loud o x1 x2 1) (fun r9 => qB (s_X12_loud o x1 x2 0) (fun r11 => qB2 (s_X12_ask o r9 r11) (fun r13 o15 => b_X12_noise_66 o15 r13))))))))))))
set_option maxHeartbeats 4000000 in
set_option maxRecDepth 100000 in
theorem c_X12_noise (l : Launch) (g : GG) (ad : Nat → Nat) (o : OO) (x1 : Int) (x2 : Int) (v : Int × OO) (h : s_X12_noise o x1 x2 = some v) : CI l g yX12_noise cX12_noise 3 (some .int) 4 98 (wM g ad o) [.ref (ad 0), iv x1, iv x2] v.1 (wM g ad v.2) := by
  refine met_I (by decide) (Nat.le_of_ble_eq_true rfl) ?_
  intro X E hQ
  show Go X 0 (wM g ad o) [(0, .ref (ad 0)), (1, iv x1), (2, iv x2)] []
  have j15 : ∀ (o : OO), b_X12_noise_15 o = some v → Go X 15 (wM g ad o) [] [] := by
    intro o h
    unfold b_X12_noise_15 at h
    refine g_iconst E gdX12_noise_15 ?_
    exact g_iret E hQ (by rw [← Option.some.inj h]) (by rw [← Option.some.inj h]) gdX12_noise_16
  have j66 : ∀ (o : OO) (y0 : Int), b_X12_noise_66 o y0 = some v → Go X 66 (wM g ad o) [] [iv y0] := by
    intro o y0 h
    unfold b_X12_noise_66 at h
    exact g_iret E hQ (by rw [← Option.some.inj h]) (by rw [← Option.some.inj h]) gdX12_noise_66
  unfold s_X12_noise at h
  refine g_aload_n E gdX12_noise_0 rfl 0 rfl ?_
  refine g_iload_n E gdX12_noise_1 rfl 1 rfl ?_
  obtain ⟨r1, hc2, h⟩ := qB_of h
  refine g_Vi (r := r1) (As := [iv x1]) (rest := []) (w := wM g ad o) E (c_X12_isMark l g ad o x1 r1 hc2) okm_X12_isMark okw_X12_isMark w_1903 rfl (wM_0 g ad o) rfl rfl (Nat.le_of_ble_eq_true rfl) ⟨Nat.le_of_ble_eq_true rfl, Nat.le_of_ble_eq_true rfl⟩ gdX12_noise_2 ?_
  refine g_if_eq E 15 gdX12_noise_5 (by decide) h (fun h => ?_) (fun h => ?_)
  ·
    refine g_sub E [] rfl ?_
    exact j15 o h
  ·
    refine g_iload_n E gdX12_noise_8 rfl 2 rfl ?_
    obtain ⟨r3, hc4, h⟩ := qB_of h
    refine g_Si (r := r3) (As := [iv x2]) (rest := []) (w := wM g ad o) E (c_X12_isRow l g (wM g ad o) x2 r3 hc4) okm_X12_isRow w_1703 w_1702 rfl rfl (Nat.le_of_ble_eq_true rfl) ⟨Nat.le_of_ble_eq_true rfl, Nat.le_of_ble_eq_true rfl⟩ gdX12_noise_9 ?_
    refine g_if_ne E 17 gdX12_noise_12 (by decide) h (fun h => ?_) (fun h => ?_)
    ·
      refine g_aload_n E gdX12_noise_17 rfl 0 rfl ?_
      refine g_iload_n E gdX12_noise_18 rfl 1 rfl ?_
      obtain ⟨r5, hc6, h⟩ := qB_of h
      refine g_Vi (r := r5) (As := [iv x1]) (rest := []) (w := wM g ad o) E (c_X12_isLine l g ad o x1 r5 hc6) okm_X12_isLine okw_X12_isLine w_1907 rfl (wM_0 g ad o) rfl rfl (Nat.le_of_ble_eq_true rfl) ⟨Nat.le_of_ble_eq_true rfl, Nat.le_of_ble_eq_true rfl⟩ gdX12_noise_19 ?_
      refine g_if_ne E 31 gdX12_noise_22 (by decide) h (fun h => ?_) (fun h => ?_)
      ·
        refine g_aload_n E gdX12_noise_31 rfl 0 rfl ?_
        refine g_get (T := TX12) E fw_X12 0 (wM_0 g ad o) rfl 5 (by decide) w_1471 rfl rfl gdX12_noise_32 ?_
        refine g_iload_n E gdX12_noise_35 rfl 2 rfl ?_
        obtain ⟨hi7, h⟩ := qIn_of h
        refine g_iald E 2 (wM_2 g ad o) (by decide) hi7 gdX12_noise_36 ?_
        obtain ⟨n8, e_n8, h⟩ := qNm_of h
        refine g_nmi e_n8 ?_
        refine g_if_ge E 48 gdX12_noise_37 (by decide) h (fun h => ?_) (fun h => ?_)
        ·
          refine g_aload_n E gdX12_noise_48 rfl 0 rfl ?_
          refine g_aload_n E gdX12_noise_49 rfl 0 rfl ?_
          refine g_iload_n E gdX12_noise_50 rfl 1 rfl ?_
          refine g_iload_n E gdX12_noise_51 rfl 2 rfl ?_
          refine g_iconst E gdX12_noise_52 ?_
          obtain ⟨r9, hc10, h⟩ := qB_of h
          refine g_Vi (r := r9) (As := [iv x1, iv x2, iv 1]) (rest := [.ref (ad 0)]) (w := wM g ad o) E (c_X12_loud l g ad o x1 x2 1 r9 hc10) okm_X12_loud okw_X12_loud w_2034 rfl (wM_0 g ad o) rfl rfl (Nat.le_of_ble_eq_true rfl) ⟨Nat.le_of_ble_eq_true rfl, Nat.le_of_ble_eq_true rfl⟩ gdX12_noise_53 ?_
          refine g_aload_n E gdX12_noise_56 rfl 0 rfl ?_
          refine g_iload_n E gdX12_noise_57 rfl 1 rfl ?_
          refine g_iload_n E gdX12_noise_58 rfl 2 rfl ?_
          refine g_iconst E gdX12_noise_59 ?_
          obtain ⟨r11, hc12, h⟩ := qB_of h
          refine g_Vi (r := r11) (As := [iv x1, iv x2, iv 0]) (rest := [iv r9, .ref (ad 0)]) (w := wM g ad o) E (c_X12_loud l g ad o x1 x2 0 r11 hc12) okm_X12_loud okw_X12_loud w_2034 rfl (wM_0 g ad o) rfl rfl (Nat.le_of_ble_eq_true rfl) ⟨Nat.le_of_ble_eq_true rfl, Nat.le_of_ble_eq_true rfl⟩ gdX12_noise_60 ?_
          obtain ⟨r13, o15, hc14, h⟩ := qB2_of h
          refine g_Vi (r := r13) (As := [iv r9, iv r11]) (rest := []) (w := wM g ad o15) E (c_X12_ask l g ad o r9 r11 (r13, o15) hc14) okm_X12_ask okw_X12_ask w_1835 rfl (wM_0 g ad o) rfl rfl (Nat.le_of_ble_eq_true rfl) ⟨Nat.le_of_ble_eq_true rfl, Nat.le_of_ble_eq_true rfl⟩ gdX12_noise_63 ?_
          refine g_sub E [] rfl ?_
          exact j66 o15 r13 h
        ·
          refine g_aload_n E gdX12_noise_40 rfl 0 rfl ?_
          refine g_iconst E gdX12_noise_41 ?_
          obtain ⟨r16, o18, hc17, h⟩ := qB2_of h
          refine g_Vi (r := r16) (As := [iv 1]) (rest := []) (w := wM g ad o18) E (c_X12_meets l g ad o 1 (r16, o18) hc17) okm_X12_meets okw_X12_meets w_1708 rfl (wM_0 g ad o) rfl rfl (Nat.le_of_ble_eq_true rfl) ⟨Nat.le_of_ble_eq_true rfl, Nat.le_of_ble_eq_true rfl⟩ gdX12_noise_42 ?_
          refine g_goto E 66 gdX12_noise_45 (by decide) ?_
          refine g_sub E [] rfl ?_
          exact j66 o18 r16 h
      ·
        refine g_aload_n E gdX12_noise_25 rfl 0 rfl ?_
        refine g_iconst E gdX12_noise_26 ?_
        obtain ⟨r19, o21, hc20, h⟩ := qB2_of h
        refine g_Vi (r := r19) (As := [iv 3]) (rest := []) (w := wM g ad o21) E (c_X12_meets l g ad o 3 (r19, o21) hc20) okm_X12_meets okw_X12_meets w_1708 rfl (wM_0 g ad o) rfl rfl (Nat.le_of_ble_eq_true rfl) ⟨Nat.le_of_ble_eq_true rfl, Nat.le_of_ble_eq_true rfl⟩ gdX12_noise_27 ?_
        exact g_iret E hQ (by rw [← Option.some.inj h]) (by rw [← Option.some.inj h]) gdX12_noise_30
    ·
      refine g_sub E [] rfl ?_
      exact j15 o h
noncomputable def s_X12_over (o : OO) (x1 : Int) : Option (Int × OO) := qB2 (s_X12_askedLine o x1) (fun r1 o3 => qLt r1 0 (some (r1, o3)) (qB (s_X12_cellsOf o3 x1) (fun p4 => qNm (st2 o3 0 3 p4) (fun o6 => qIn x1 24 (qNm (o6.1 30 x1.toNat) (fun n8 => some (n8, o6)))))))
set_option maxHeartbeats 4000000 in
set_option maxRecDepth 100000 in
theorem c_X12_over (l : Launch) (g : GG) (ad : Nat → Nat) (o : OO) (x1 : Int) (v : Int × OO) (h : s_X12_over o x1 = some v) : CI l g yX12_over cX12_over 3 (some .int) 3 64 (wM g ad o) [.ref (ad 0), iv x1] v.1 (wM g ad v.2) := by
  refine met_I (by decide) (Nat.le_of_ble_eq_true rfl) ?_
  intro X E hQ
  show Go X 0 (wM g ad o) [(0, .ref (ad 0)), (1, iv x1)] []
  unfold s_X12_over at h
  refine g_aload_n E gdX12_over_0 rfl 0 rfl ?_
  refine g_iload_n E gdX12_over_1 rfl 1 rfl ?_
  obtain ⟨r1, o3, hc2, h⟩ := qB2_of h
  refine g_Vi (r := r1) (As := [iv x1]) (rest := []) (w := wM g ad o3) E (c_X12_askedLine l g ad o x1 (r1, o3) hc2) okm_X12_askedLine okw_X12_askedLine w_1925 rfl (wM_0 g ad o) rfl rfl (Nat.le_of_ble_eq_true rfl) ⟨Nat.le_of_ble_eq_true rfl, Nat.le_of_ble_eq_true rfl⟩ gdX12_over_2 ?_
  refine g_istore_n E [(2, iv r1), (0, .ref (ad 0)), (1, iv x1)] gdX12_over_5 rfl (by decide) rfl ?_
  refine g_iload_n E gdX12_over_6 rfl 0 rfl ?_
  refine g_if_ge E 12 gdX12_over_7 (by decide) h (fun h => ?_) (fun h => ?_)
  ·
    refine g_aload_n E gdX12_over_12 rfl 1 rfl ?_
    refine g_aload_n E gdX12_over_13 rfl 1 rfl ?_
    refine g_iload_n E gdX12_over_14 rfl 2 rfl ?_
    obtain ⟨p4, hc5, h⟩ := qB_of h
    refine g_Vl (r := p4) (As := [iv x1]) (rest := [.ref (ad 0)]) (w := wM g ad o3) E (c_X12_cellsOf l g ad o3 x1 p4 hc5) okm_X12_cellsOf okw_X12_cellsOf w_1914 rfl (wM_0 g ad o3) rfl rfl (Nat.le_of_ble_eq_true rfl) ⟨Nat.le_of_ble_eq_true rfl, Nat.le_of_ble_eq_true rfl⟩ gdX12_over_15 ?_
    obtain ⟨o6, e_o6, h⟩ := qNm_of h
    refine g_putl (T := TX12) (ws' := wM g ad o6) E fw_X12 tyX12 tyX12_ok nmX12 0 (wM_0 g ad o3) rfl 3 (by decide) w_1469 rfl rfl (by decide +kernel) (Nat.le_of_ble_eq_true rfl) (by rw [e_o6]; exact wM_p0_3 g ad o3 _) gdX12_over_18 ?_
    refine g_aload_n E gdX12_over_21 rfl 1 rfl ?_
    refine g_get (T := TX12) E fw_X12 0 (wM_0 g ad o6) rfl 38 (by decide) w_1504 rfl rfl gdX12_over_22 ?_
    refine g_iload_n E gdX12_over_25 rfl 2 rfl ?_
    obtain ⟨hi7, h⟩ := qIn_of h
    refine g_iald E 30 (wM_30 g ad o6) (by decide) hi7 gdX12_over_26 ?_
    obtain ⟨n8, e_n8, h⟩ := qNm_of h
    refine g_nmi e_n8 ?_
    exact g_iret E hQ (by rw [← Option.some.inj h]) (by rw [← Option.some.inj h]) gdX12_over_27
  ·
    refine g_iload_n E gdX12_over_10 rfl 0 rfl ?_
    exact g_iret E hQ (by rw [← Option.some.inj h]) (by rw [← Option.some.inj h]) gdX12_over_11
noncomputable def b_X12_owed_89 (o : OO) (x1 : Int) : Option (Int × OO) := some (x1, o)
noncomputable def b_X12_owed_81 (o : OO) (x2 : Int) (y0 : Int) (y1 : Int) : Option ((OO × Int × Int) ⊕ ((OO × Int))) := qNm (y0 + y1) (fun n1 => some (.inl (o, n1, x2 + 1)))
noncomputable def b_X12_owed_80 (o : OO) (x2 : Int) (y0 : Int) : Option ((OO × Int × Int) ⊕ ((OO × Int))) := b_X12_owed_81 o x2 y0 0
noncomputable def b_X12_owed_53 (o : OO) (x1 : Int) (x2 : Int) (y1 : Int64) (y2 : Int64) : Option ((OO × Int × Int) ⊕ ((OO × Int))) := qNm (st2 o 0 64 (y1 + y2)) (fun o2 => qIn x2 24 (qNm (o2.1 25 x2.toNat) (fun n4 => qEq n4 3 (qB (s_X12_isVoidTaking o2 x2) (fun r5 => qEq r5 0 (b_X12_owed_80 o2 x2 x1) (b_X12_owed_81 o2 x2 x1 1))) (b_X12_owed_80 o2 x2 x1))))
noncomputable def b_X12_owed_42 (o : OO) (x1 : Int) (x2 : Int) (y1 : Int64) : Option ((OO × Int × Int) ⊕ ((OO × Int))) := qIn x2 24 (qNm (o.1 32 x2.toNat) (fun n8 => b_X12_owed_53 o x1 x2 y1 (jl n8)))
noncomputable def l_X12_owed_9 (o : OO) (x1 : Int) (x2 : Int) : Option ((OO × Int × Int) ⊕ ((OO × Int))) := qLt x2 (o.1 0 32) (qIn x2 24 (qNm (o.1 25 x2.toNat) (fun n10 => qEq n10 3 (b_X12_owed_42 o x1 x2 (o.2 0 64)) (qIn x2 24 (qNm (o.1 25 x2.toNat) (fun n12 => qEq n12 4 (b_X12_owed_42 o x1 x2 (o.2 0 64)) (b_X12_owed_53 o x1 x2 (o.2 0 64) (0 : Int64)))))))) (some (.inr ((o, x1))))
noncomputable def e_X12_owed_9 (o : OO) (x1 : Int) (x2 : Int) : Option (Int × OO) := qB (loopW (fun s => l_X12_owed_9 s.1 s.2.1 s.2.2) (o, x1, x2)) (fun r => b_X12_owed_89 r.1 r.2)
noncomputable def s_X12_owed (o : OO) : Option (Int × OO) := qNm (st2 o 0 64 (0 : Int64)) (fun o13 => e_X12_owed_9 o13 0 0)
set_option maxHeartbeats 4000000 in
set_option maxRecDepth 100000 in
theorem c_X12_owed (l : Launch) (g : GG) (ad : Nat → Nat) (o : OO) (v : Int × OO) (h : s_X12_owed o = some v) : CI l g yX12_owed cX12_owed 3 (some .int) 4 94 (wM g ad o) [.ref (ad 0)] v.1 (wM g ad v.2) := by
  refine met_I (by decide) (Nat.le_of_ble_eq_true rfl) ?_
  intro X E hQ
  show Go X 0 (wM g ad o) [(0, .ref (ad 0))] []
  have j89 : ∀ (o : OO) (x1 : Int), b_X12_owed_89 o x1 = some v → Go X 89 (wM g ad o) [(1, iv x1)] [] := by
    intro o x1 h
    unfold b_X12_owed_89 at h
    refine g_iload_n E gdX12_owed_89 rfl 0 rfl ?_
    exact g_iret E hQ (by rw [← Option.some.inj h]) (by rw [← Option.some.inj h]) gdX12_owed_90
  have j81 : ∀ (o : OO) (x2 : Int) (y0 : Int) (y1 : Int) (v : (OO × Int × Int) ⊕ ((OO × Int))), b_X12_owed_81 o x2 y0 y1 = some v → (∀ (o : OO) (x1 : Int) (x2 : Int), v = .inl (o, x1, x2) → Go X 9 (wM g ad o) [(0, .ref (ad 0)), (1, iv x1), (2, iv x2)] []) → (∀ (o : OO) (x1 : Int), v = .inr ((o, x1)) → Go X 89 (wM g ad o) [(1, iv x1)] []) → Go X 81 (wM g ad o) [(0, .ref (ad 0)), (2, iv x2)] [iv y1, iv y0] := by
    intro o x2 y0 y1 v h k0 k1
    unfold b_X12_owed_81 at h
    refine g_iadd E gdX12_owed_81 ?_
    obtain ⟨n1, e_n1, h⟩ := qNm_of h
    refine g_nmi e_n1 ?_
    refine g_istore_n E [(1, iv n1), (0, .ref (ad 0)), (2, iv x2)] gdX12_owed_82 rfl (by decide) rfl ?_
    refine g_iinc E [(2, iv (x2 + 1)), (1, iv n1), (0, .ref (ad 0))] gdX12_owed_83 2 rfl (by decide) rfl ?_
    refine g_goto E 9 gdX12_owed_86 (by decide) ?_
    refine g_sub E [2, 1, 0] rfl ?_
    exact k0 o n1 (x2 + 1) (Option.some.inj h).symm
  have j80 : ∀ (o : OO) (x2 : Int) (y0 : Int) (v : (OO × Int × Int) ⊕ ((OO × Int))), b_X12_owed_80 o x2 y0 = some v → (∀ (o : OO) (x1 : Int) (x2 : Int), v = .inl (o, x1, x2) → Go X 9 (wM g ad o) [(0, .ref (ad 0)), (1, iv x1), (2, iv x2)] []) → (∀ (o : OO) (x1 : Int), v = .inr ((o, x1)) → Go X 89 (wM g ad o) [(1, iv x1)] []) → Go X 80 (wM g ad o) [(0, .ref (ad 0)), (2, iv x2)] [iv y0] := by
    intro o x2 y0 v h k0 k1
    unfold b_X12_owed_80 at h
    refine g_iconst E gdX12_owed_80 ?_
    exact j81 o x2 y0 0 v h k0 k1
  have j53 : ∀ (o : OO) (x1 : Int) (x2 : Int) (y1 : Int64) (y2 : Int64) (v : (OO × Int × Int) ⊕ ((OO × Int))), b_X12_owed_53 o x1 x2 y1 y2 = some v → (∀ (o : OO) (x1 : Int) (x2 : Int), v = .inl (o, x1, x2) → Go X 9 (wM g ad o) [(0, .ref (ad 0)), (1, iv x1), (2, iv x2)] []) → (∀ (o : OO) (x1 : Int), v = .inr ((o, x1)) → Go X 89 (wM g ad o) [(1, iv x1)] []) → Go X 53 (wM g ad o) [(0, .ref (ad 0)), (1, iv x1), (2, iv x2)] [.long y2, .long y1, .ref (ad 0)] := by
    intro o x1 x2 y1 y2 v h k0 k1
    unfold b_X12_owed_53 at h
    refine g_ladd E gdX12_owed_53 ?_
    obtain ⟨o2, e_o2, h⟩ := qNm_of h
    refine g_putl (T := TX12) (ws' := wM g ad o2) E fw_X12 tyX12 tyX12_ok nmX12 0 (wM_0 g ad o) rfl 64 (by decide) w_1530 rfl rfl (by decide +kernel) (Nat.le_of_ble_eq_true rfl) (by rw [e_o2]; exact wM_p0_64 g ad o _) gdX12_owed_54 ?_
    refine g_iload_n E gdX12_owed_57 rfl 1 rfl ?_
    refine g_aload_n E gdX12_owed_58 rfl 0 rfl ?_
    refine g_get (T := TX12) E fw_X12 0 (wM_0 g ad o2) rfl 33 (by decide) w_1499 rfl rfl gdX12_owed_59 ?_
    refine g_iload_n E gdX12_owed_62 rfl 2 rfl ?_
    obtain ⟨hi3, h⟩ := qIn_of h
    refine g_iald E 25 (wM_25 g ad o2) (by decide) hi3 gdX12_owed_63 ?_
    obtain ⟨n4, e_n4, h⟩ := qNm_of h
    refine g_nmi e_n4 ?_
    refine g_iconst E gdX12_owed_64 ?_
    refine g_icmp_ne E 80 gdX12_owed_65 (by decide) h (fun h => ?_) (fun h => ?_)
    ·
      refine g_sub E [0, 2] rfl ?_
      exact j80 o2 x2 x1 v h k0 k1
    ·
      refine g_aload_n E gdX12_owed_68 rfl 0 rfl ?_
      refine g_iload_n E gdX12_owed_69 rfl 2 rfl ?_
      obtain ⟨r5, hc6, h⟩ := qB_of h
      refine g_Vi (r := r5) (As := [iv x2]) (rest := [iv x1]) (w := wM g ad o2) E (c_X12_isVoidTaking l g ad o2 x2 r5 hc6) okm_X12_isVoidTaking okw_X12_isVoidTaking w_2058 rfl (wM_0 g ad o2) rfl rfl (Nat.le_of_ble_eq_true rfl) ⟨Nat.le_of_ble_eq_true rfl, Nat.le_of_ble_eq_true rfl⟩ gdX12_owed_70 ?_
      refine g_if_eq E 80 gdX12_owed_73 (by decide) h (fun h => ?_) (fun h => ?_)
      ·
        refine g_sub E [0, 2] rfl ?_
        exact j80 o2 x2 x1 v h k0 k1
      ·
        refine g_iconst E gdX12_owed_76 ?_
        refine g_goto E 81 gdX12_owed_77 (by decide) ?_
        refine g_sub E [0, 2] rfl ?_
        exact j81 o2 x2 x1 1 v h k0 k1
  have j42 : ∀ (o : OO) (x1 : Int) (x2 : Int) (y1 : Int64) (v : (OO × Int × Int) ⊕ ((OO × Int))), b_X12_owed_42 o x1 x2 y1 = some v → (∀ (o : OO) (x1 : Int) (x2 : Int), v = .inl (o, x1, x2) → Go X 9 (wM g ad o) [(0, .ref (ad 0)), (1, iv x1), (2, iv x2)] []) → (∀ (o : OO) (x1 : Int), v = .inr ((o, x1)) → Go X 89 (wM g ad o) [(1, iv x1)] []) → Go X 42 (wM g ad o) [(0, .ref (ad 0)), (1, iv x1), (2, iv x2)] [.long y1, .ref (ad 0)] := by
    intro o x1 x2 y1 v h k0 k1
    unfold b_X12_owed_42 at h
    refine g_aload_n E gdX12_owed_42 rfl 0 rfl ?_
    refine g_get (T := TX12) E fw_X12 0 (wM_0 g ad o) rfl 40 (by decide) w_1506 rfl rfl gdX12_owed_43 ?_
    refine g_iload_n E gdX12_owed_46 rfl 2 rfl ?_
    obtain ⟨hi7, h⟩ := qIn_of h
    refine g_iald E 32 (wM_32 g ad o) (by decide) hi7 gdX12_owed_47 ?_
    obtain ⟨n8, e_n8, h⟩ := qNm_of h
    refine g_nmi e_n8 ?_
    refine g_i2l E gdX12_owed_48 ?_
    refine g_goto E 53 gdX12_owed_49 (by decide) ?_
    exact j53 o x1 x2 y1 (jl n8) v h k0 k1
  have l9 : ∀  (r : (OO × Int)) (s0 : OO × Int × Int), loopW (fun s => l_X12_owed_9 s.1 s.2.1 s.2.2) s0 = some r → (∀ (o : OO) (x1 : Int), r = ((o, x1)) → Go X 89 (wM g ad o) [(1, iv x1)] []) → Go X 9 (wM g ad s0.1) [(0, .ref (ad 0)), (1, iv s0.2.1), (2, iv s0.2.2)] [] := by
    intro r s0 h k1
    refine loop_rule (Head := fun s0 => Go X 9 (wM g ad s0.1) [(0, .ref (ad 0)), (1, iv s0.2.1), (2, iv s0.2.2)] []) h ?_
    intro s v h kk kx
    obtain ⟨o, x1, x2⟩ := s
    have h : l_X12_owed_9 o x1 x2 = some v := h
    have k0 : ∀ (o : OO) (x1 : Int) (x2 : Int), v = .inl (o, x1, x2) → Go X 9 (wM g ad o) [(0, .ref (ad 0)), (1, iv x1), (2, iv x2)] [] := fun o x1 x2 e => kk (o, x1, x2) e
    have k1 : ∀ (o : OO) (x1 : Int), v = .inr ((o, x1)) → Go X 89 (wM g ad o) [(1, iv x1)] [] := fun o x1 e => k1 o x1 (kx _ e).symm
    unfold l_X12_owed_9 at h
    refine g_iload_n E gdX12_owed_9 rfl 2 rfl ?_
    refine g_aload_n E gdX12_owed_10 rfl 0 rfl ?_
    refine g_get (T := TX12) E fw_X12 0 (wM_0 g ad o) rfl 32 (by decide) w_1498 rfl rfl gdX12_owed_11 ?_
    refine g_icmp_ge E 89 gdX12_owed_14 (by decide) h (fun h => ?_) (fun h => ?_)
    ·
      refine g_sub E [1] rfl ?_
      exact k1 o x1 (Option.some.inj h).symm
    ·
      refine g_aload_n E gdX12_owed_17 rfl 0 rfl ?_
      refine g_dup E gdX12_owed_18 rfl ?_
      refine g_get (T := TX12) E fw_X12 0 (wM_0 g ad o) rfl 64 (by decide) w_1530 rfl rfl gdX12_owed_19 ?_
      refine g_aload_n E gdX12_owed_22 rfl 0 rfl ?_
      refine g_get (T := TX12) E fw_X12 0 (wM_0 g ad o) rfl 33 (by decide) w_1499 rfl rfl gdX12_owed_23 ?_
      refine g_iload_n E gdX12_owed_26 rfl 2 rfl ?_
      obtain ⟨hi9, h⟩ := qIn_of h
      refine g_iald E 25 (wM_25 g ad o) (by decide) hi9 gdX12_owed_27 ?_
      obtain ⟨n10, e_n10, h⟩ := qNm_of h
      refine g_nmi e_n10 ?_
      refine g_iconst E gdX12_owed_28 ?_
      refine g_icmp_eq E 42 gdX12_owed_29 (by decide) h (fun h => ?_) (fun h => ?_)
      ·
        exact j42 o x1 x2 (o.2 0 64) v h k0 k1
      ·
        refine g_aload_n E gdX12_owed_32 rfl 0 rfl ?_
        refine g_get (T := TX12) E fw_X12 0 (wM_0 g ad o) rfl 33 (by decide) w_1499 rfl rfl gdX12_owed_33 ?_
        refine g_iload_n E gdX12_owed_36 rfl 2 rfl ?_
        obtain ⟨hi11, h⟩ := qIn_of h
        refine g_iald E 25 (wM_25 g ad o) (by decide) hi11 gdX12_owed_37 ?_
        obtain ⟨n12, e_n12, h⟩ := qNm_of h
        refine g_nmi e_n12 ?_
        refine g_iconst E gdX12_owed_38 ?_
        refine g_icmp_ne E 52 gdX12_owed_39 (by decide) h (fun h => ?_) (fun h => ?_)
        ·
          refine g_lconst (v := 0) E gdX12_owed_52 (by decide) ?_
          exact j53 o x1 x2 (o.2 0 64) (0 : Int64) v h k0 k1
        ·
          exact j42 o x1 x2 (o.2 0 64) v h k0 k1
  have j9 : ∀ (o : OO) (x1 : Int) (x2 : Int), e_X12_owed_9 o x1 x2 = some v → Go X 9 (wM g ad o) [(0, .ref (ad 0)), (1, iv x1), (2, iv x2)] [] := by
    intro o x1 x2 h
    unfold e_X12_owed_9 at h
    obtain ⟨r, hr, h⟩ := qB_of h
    refine l9  r _ hr ?_
    ·
      intro u0 u1 e
      subst e
      have h : b_X12_owed_89 u0 u1 = some v := h
      exact j89 u0 u1 h
  unfold s_X12_owed at h
  refine g_iconst E gdX12_owed_0 ?_
  refine g_istore_n E [(1, iv 0), (0, .ref (ad 0))] gdX12_owed_1 rfl (by decide) rfl ?_
  refine g_aload_n E gdX12_owed_2 rfl 1 rfl ?_
  refine g_lconst (v := 0) E gdX12_owed_3 (by decide) ?_
  obtain ⟨o13, e_o13, h⟩ := qNm_of h
  refine g_putl (T := TX12) (ws' := wM g ad o13) E fw_X12 tyX12 tyX12_ok nmX12 0 (wM_0 g ad o) rfl 64 (by decide) w_1530 rfl rfl (by decide +kernel) (Nat.le_of_ble_eq_true rfl) (by rw [e_o13]; exact wM_p0_64 g ad o _) gdX12_owed_4 ?_
  refine g_iconst E gdX12_owed_7 ?_
  refine g_istore_n E [(2, iv 0), (1, iv 0), (0, .ref (ad 0))] gdX12_owed_8 rfl (by decide) rfl ?_
  refine g_sub E [2, 1, 0] rfl ?_
  exact j9 o13 0 0 h
noncomputable def b_X12_park_42 (o : OO) (y0 : Int) : Option (Int × OO) := some (y0, o)
noncomputable def b_X12_park_39 (o : OO) (y1 : Int) (y2 : Int) : Option (Int × OO) := qB2 (s_X12_ask o y1 y2) (fun r1 o3 => b_X12_park_42 o3 r1)
noncomputable def s_X12_park (o : OO) (x1 : Int) : Option (Int × OO) := qB2 (s_X12_askedLine o x1) (fun r4 o6 => qLt r4 0 (b_X12_park_42 o6 r4) (qB (s_X12_parks o6 x1) (fun r7 => qB (s_X12_parks o6 x1) (fun r9 => qB (s_X12_nowInForce o6 6) (fun r11 => qLt r11 r9 (b_X12_park_39 o6 r7 0) (b_X12_park_39 o6 r7 1))))))
set_option maxHeartbeats 4000000 in
set_option maxRecDepth 100000 in
theorem c_X12_park (l : Launch) (g : GG) (ad : Nat → Nat) (o : OO) (x1 : Int) (v : Int × OO) (h : s_X12_park o x1 = some v) : CI l g yX12_park cX12_park 3 (some .int) 3 71 (wM g ad o) [.ref (ad 0), iv x1] v.1 (wM g ad v.2) := by
  refine met_I (by decide) (Nat.le_of_ble_eq_true rfl) ?_
  intro X E hQ
  show Go X 0 (wM g ad o) [(0, .ref (ad 0)), (1, iv x1)] []
  have j42 : ∀ (o : OO) (y0 : Int), b_X12_park_42 o y0 = some v → Go X 42 (wM g ad o) [] [iv y0] := by
    intro o y0 h
    unfold b_X12_park_42 at h
    exact g_iret E hQ (by rw [← Option.some.inj h]) (by rw [← Option.some.inj h]) gdX12_park_42
  have j39 : ∀ (o : OO) (y1 : Int) (y2 : Int), b_X12_park_39 o y1 y2 = some v → Go X 39 (wM g ad o) [] [iv y2, iv y1, .ref (ad 0)] := by
    intro o y1 y2 h
    unfold b_X12_park_39 at h
    obtain ⟨r1, o3, hc2, h⟩ := qB2_of h
    refine g_Vi (r := r1) (As := [iv y1, iv y2]) (rest := []) (w := wM g ad o3) E (c_X12_ask l g ad o y1 y2 (r1, o3) hc2) okm_X12_ask okw_X12_ask w_1835 rfl (wM_0 g ad o) rfl rfl (Nat.le_of_ble_eq_true rfl) ⟨Nat.le_of_ble_eq_true rfl, Nat.le_of_ble_eq_true rfl⟩ gdX12_park_39 ?_
    exact j42 o3 r1 h
  unfold s_X12_park at h
  refine g_aload_n E gdX12_park_0 rfl 0 rfl ?_
  refine g_iload_n E gdX12_park_1 rfl 1 rfl ?_
  obtain ⟨r4, o6, hc5, h⟩ := qB2_of h
  refine g_Vi (r := r4) (As := [iv x1]) (rest := []) (w := wM g ad o6) E (c_X12_askedLine l g ad o x1 (r4, o6) hc5) okm_X12_askedLine okw_X12_askedLine w_1925 rfl (wM_0 g ad o) rfl rfl (Nat.le_of_ble_eq_true rfl) ⟨Nat.le_of_ble_eq_true rfl, Nat.le_of_ble_eq_true rfl⟩ gdX12_park_2 ?_
  refine g_istore_n E [(2, iv r4), (0, .ref (ad 0)), (1, iv x1)] gdX12_park_5 rfl (by decide) rfl ?_
  refine g_iload_n E gdX12_park_6 rfl 0 rfl ?_
  refine g_if_ge E 14 gdX12_park_7 (by decide) h (fun h => ?_) (fun h => ?_)
  ·
    refine g_aload_n E gdX12_park_14 rfl 1 rfl ?_
    refine g_aload_n E gdX12_park_15 rfl 1 rfl ?_
    refine g_iload_n E gdX12_park_16 rfl 2 rfl ?_
    obtain ⟨r7, hc8, h⟩ := qB_of h
    refine g_Vi (r := r7) (As := [iv x1]) (rest := [.ref (ad 0)]) (w := wM g ad o6) E (c_X12_parks l g ad o6 x1 r7 hc8) okm_X12_parks okw_X12_parks w_2046 rfl (wM_0 g ad o6) rfl rfl (Nat.le_of_ble_eq_true rfl) ⟨Nat.le_of_ble_eq_true rfl, Nat.le_of_ble_eq_true rfl⟩ gdX12_park_17 ?_
    refine g_aload_n E gdX12_park_20 rfl 1 rfl ?_
    refine g_iload_n E gdX12_park_21 rfl 2 rfl ?_
    obtain ⟨r9, hc10, h⟩ := qB_of h
    refine g_Vi (r := r9) (As := [iv x1]) (rest := [iv r7, .ref (ad 0)]) (w := wM g ad o6) E (c_X12_parks l g ad o6 x1 r9 hc10) okm_X12_parks okw_X12_parks w_2046 rfl (wM_0 g ad o6) rfl rfl (Nat.le_of_ble_eq_true rfl) ⟨Nat.le_of_ble_eq_true rfl, Nat.le_of_ble_eq_true rfl⟩ gdX12_park_22 ?_
    refine g_aload_n E gdX12_park_25 rfl 1 rfl ?_
    refine g_bipush E gdX12_park_26 (by decide) ?_
    obtain ⟨r11, hc12, h⟩ := qB_of h
    refine g_Vi (r := r11) (As := [iv 6]) (rest := [iv r9, iv r7, .ref (ad 0)]) (w := wM g ad o6) E (c_X12_nowInForce l g ad o6 6 r11 hc12) okm_X12_nowInForce okw_X12_nowInForce w_1871 rfl (wM_0 g ad o6) rfl rfl (Nat.le_of_ble_eq_true rfl) ⟨Nat.le_of_ble_eq_true rfl, Nat.le_of_ble_eq_true rfl⟩ gdX12_park_28 ?_
    refine g_icmp_gt E 38 gdX12_park_31 (by decide) h (fun h => ?_) (fun h => ?_)
    ·
      refine g_iconst E gdX12_park_38 ?_
      refine g_sub E [] rfl ?_
      exact j39 o6 r7 0 h
    ·
      refine g_iconst E gdX12_park_34 ?_
      refine g_goto E 39 gdX12_park_35 (by decide) ?_
      refine g_sub E [] rfl ?_
      exact j39 o6 r7 1 h
  ·
    refine g_iload_n E gdX12_park_10 rfl 0 rfl ?_
    refine g_goto E 42 gdX12_park_11 (by decide) ?_
    refine g_sub E [] rfl ?_
    exact j42 o6 r4 h
noncomputable def b_X12_person_38 (o : OO) : Option (Int × OO) := some ((-1), o)
noncomputable def b_X12_person_69 (o : OO) (x1 : Int) (x2 : Int) (x3 : Int) (x4 : Int) : Option (Int × OO) := qIn (o.1 0 27) 40 (qNm (st1 o 21 ((o.1 0 27).toNat) x1) (fun o2 => qIn (o2.1 0 27) 40 (qNm (st1 o2 22 ((o2.1 0 27).toNat) x2) (fun o4 => qIn (o4.1 0 27) 40 (qZ x3 (qNm (st1 o4 23 ((o4.1 0 27).toNat) x3) (fun o7 => qIn (o7.1 0 27) 40 (qNm (st1 o7 24 ((o7.1 0 27).toNat) x4) (fun o9 => qNm (st1 o9 0 27 ((o9.1 0 27) + 1)) (fun o10 => some ((o10.1 0 27) - 1, o10)))))))))))
noncomputable def b_X12_person_27 (o : OO) (x1 : Int) (x2 : Int) (x3 : Int) (x4 : Int) : Option (Int × OO) := qB (s_X12_in x4 0 9) (fun r11 => qEq r11 0 (b_X12_person_38 o) (qEq (o.1 0 27) 40 (some ((-2), o)) (qEq x1 (-9) (b_X12_person_69 o x1 x2 x3 x4) (qB (s_X12_hasRoom o x1) (fun r13 => qEq r13 0 (some ((-4), o)) (b_X12_person_69 o x1 x2 x3 x4))))))
noncomputable def b_X12_person_14 (o : OO) (x1 : Int) (x2 : Int) (x3 : Int) (x4 : Int) : Option (Int × OO) := qEq x2 (-9) (b_X12_person_27 o x1 x2 x3 x4) (qB (s_X12_isCell x2) (fun r15 => qEq r15 0 (b_X12_person_38 o) (b_X12_person_27 o x1 x2 x3 x4)))
noncomputable def s_X12_person (o : OO) (x1 : Int) (x2 : Int) (x3 : Int) (x4 : Int) : Option (Int × OO) := qEq x1 (-9) (b_X12_person_14 o x1 x2 x3 x4) (qB (s_X12_isBuilding o x1) (fun r17 => qEq r17 0 (b_X12_person_38 o) (b_X12_person_14 o x1 x2 x3 x4)))
set_option maxHeartbeats 4000000 in
set_option maxRecDepth 100000 in
theorem c_X12_person (l : Launch) (g : GG) (ad : Nat → Nat) (o : OO) (x1 : Int) (x2 : Int) (x3 : Int) (x4 : Int) (v : Int × OO) (h : s_X12_person o x1 x2 x3 x4 = some v) : CI l g yX12_person cX12_person 5 (some .int) 2 44 (wM g ad o) [.ref (ad 0), iv x1, iv x2, iv x3, iv x4] v.1 (wM g ad v.2) := by
  refine met_I (by decide) (Nat.le_of_ble_eq_true rfl) ?_
  intro X E hQ
  show Go X 0 (wM g ad o) [(0, .ref (ad 0)), (1, iv x1), (2, iv x2), (3, iv x3), (4, iv x4)] []
  have j38 : ∀ (o : OO), b_X12_person_38 o = some v → Go X 38 (wM g ad o) [] [] := by
    intro o h
    unfold b_X12_person_38 at h
    refine g_iconst E gdX12_person_38 ?_
    exact g_iret E hQ (by rw [← Option.some.inj h]) (by rw [← Option.some.inj h]) gdX12_person_39
  have j69 : ∀ (o : OO) (x1 : Int) (x2 : Int) (x3 : Int) (x4 : Int), b_X12_person_69 o x1 x2 x3 x4 = some v → Go X 69 (wM g ad o) [(0, .ref (ad 0)), (1, iv x1), (2, iv x2), (3, iv x3), (4, iv x4)] [] := by
    intro o x1 x2 x3 x4 h
    unfold b_X12_person_69 at h
    refine g_aload_n E gdX12_person_69 rfl 0 rfl ?_
    refine g_get (T := TX12) E fw_X12 0 (wM_0 g ad o) rfl 28 (by decide) w_1494 rfl rfl gdX12_person_70 ?_
    refine g_aload_n E gdX12_person_73 rfl 0 rfl ?_
    refine g_get (T := TX12) E fw_X12 0 (wM_0 g ad o) rfl 27 (by decide) w_1493 rfl rfl gdX12_person_74 ?_
    refine g_iload_n E gdX12_person_77 rfl 1 rfl ?_
    obtain ⟨hi1, h⟩ := qIn_of h
    obtain ⟨o2, e_o2, h⟩ := qNm_of h
    refine g_iast (ws' := wM g ad o2) E 21 (wM_21 g ad o) (by decide) hi1 (by rw [e_o2]; exact wM_s21 g ad o _ _) gdX12_person_78 ?_
    refine g_aload_n E gdX12_person_79 rfl 0 rfl ?_
    refine g_get (T := TX12) E fw_X12 0 (wM_0 g ad o2) rfl 29 (by decide) w_1495 rfl rfl gdX12_person_80 ?_
    refine g_aload_n E gdX12_person_83 rfl 0 rfl ?_
    refine g_get (T := TX12) E fw_X12 0 (wM_0 g ad o2) rfl 27 (by decide) w_1493 rfl rfl gdX12_person_84 ?_
    refine g_iload_n E gdX12_person_87 rfl 2 rfl ?_
    obtain ⟨hi3, h⟩ := qIn_of h
    obtain ⟨o4, e_o4, h⟩ := qNm_of h
    refine g_iast (ws' := wM g ad o4) E 22 (wM_22 g ad o2) (by decide) hi3 (by rw [e_o4]; exact wM_s22 g ad o2 _ _) gdX12_person_88 ?_
    refine g_aload_n E gdX12_person_89 rfl 0 rfl ?_
    refine g_get (T := TX12) E fw_X12 0 (wM_0 g ad o4) rfl 30 (by decide) w_1496 rfl rfl gdX12_person_90 ?_
    refine g_aload_n E gdX12_person_93 rfl 0 rfl ?_
    refine g_get (T := TX12) E fw_X12 0 (wM_0 g ad o4) rfl 27 (by decide) w_1493 rfl rfl gdX12_person_94 ?_
    refine g_iload_n E gdX12_person_97 rfl 3 rfl ?_
    obtain ⟨hi5, h⟩ := qIn_of h
    obtain ⟨hz6, h⟩ := qZ_of h
    obtain ⟨o7, e_o7, h⟩ := qNm_of h
    refine g_zast (ws' := wM g ad o7) E 23 (wM_23 g ad o4) (by decide) hi5 hz6 (by rw [e_o7]; exact wM_s23 g ad o4 _ _) gdX12_person_98 ?_
    refine g_aload_n E gdX12_person_99 rfl 0 rfl ?_
    refine g_get (T := TX12) E fw_X12 0 (wM_0 g ad o7) rfl 31 (by decide) w_1497 rfl rfl gdX12_person_100 ?_
    refine g_aload_n E gdX12_person_103 rfl 0 rfl ?_
    refine g_get (T := TX12) E fw_X12 0 (wM_0 g ad o7) rfl 27 (by decide) w_1493 rfl rfl gdX12_person_104 ?_
    refine g_iload E gdX12_person_107 4 rfl ?_
    obtain ⟨hi8, h⟩ := qIn_of h
    obtain ⟨o9, e_o9, h⟩ := qNm_of h
    refine g_iast (ws' := wM g ad o9) E 24 (wM_24 g ad o7) (by decide) hi8 (by rw [e_o9]; exact wM_s24 g ad o7 _ _) gdX12_person_109 ?_
    refine g_aload_n E gdX12_person_110 rfl 0 rfl ?_
    refine g_dup E gdX12_person_111 rfl ?_
    refine g_get (T := TX12) E fw_X12 0 (wM_0 g ad o9) rfl 27 (by decide) w_1493 rfl rfl gdX12_person_112 ?_
    refine g_iconst E gdX12_person_115 ?_
    refine g_iadd E gdX12_person_116 ?_
    obtain ⟨o10, e_o10, h⟩ := qNm_of h
    refine g_puti (T := TX12) (ws' := wM g ad o10) E fw_X12 tyX12 tyX12_ok nmX12 0 (wM_0 g ad o9) rfl 27 (by decide) w_1493 rfl rfl (by decide +kernel) (Nat.le_of_ble_eq_true rfl) (by rw [e_o10]; exact wM_p0_27 g ad o9 _) gdX12_person_117 ?_
    refine g_aload_n E gdX12_person_120 rfl 0 rfl ?_
    refine g_get (T := TX12) E fw_X12 0 (wM_0 g ad o10) rfl 27 (by decide) w_1493 rfl rfl gdX12_person_121 ?_
    refine g_iconst E gdX12_person_124 ?_
    refine g_isub E gdX12_person_125 ?_
    exact g_iret E hQ (by rw [← Option.some.inj h]) (by rw [← Option.some.inj h]) gdX12_person_126
  have j27 : ∀ (o : OO) (x1 : Int) (x2 : Int) (x3 : Int) (x4 : Int), b_X12_person_27 o x1 x2 x3 x4 = some v → Go X 27 (wM g ad o) [(0, .ref (ad 0)), (1, iv x1), (2, iv x2), (3, iv x3), (4, iv x4)] [] := by
    intro o x1 x2 x3 x4 h
    unfold b_X12_person_27 at h
    refine g_iload E gdX12_person_27 4 rfl ?_
    refine g_iconst E gdX12_person_29 ?_
    refine g_bipush E gdX12_person_30 (by decide) ?_
    obtain ⟨r11, hc12, h⟩ := qB_of h
    refine g_Si (r := r11) (As := [iv x4, iv 0, iv 9]) (rest := []) (w := wM g ad o) E (c_X12_in l g (wM g ad o) x4 0 9 r11 hc12) okm_X12_in w_1706 w_1705 rfl rfl (Nat.le_of_ble_eq_true rfl) ⟨Nat.le_of_ble_eq_true rfl, Nat.le_of_ble_eq_true rfl⟩ gdX12_person_32 ?_
    refine g_if_ne E 40 gdX12_person_35 (by decide) h (fun h => ?_) (fun h => ?_)
    ·
      refine g_aload_n E gdX12_person_40 rfl 0 rfl ?_
      refine g_get (T := TX12) E fw_X12 0 (wM_0 g ad o) rfl 27 (by decide) w_1493 rfl rfl gdX12_person_41 ?_
      refine g_bipush E gdX12_person_44 (by decide) ?_
      refine g_icmp_ne E 52 gdX12_person_46 (by decide) h (fun h => ?_) (fun h => ?_)
      ·
        refine g_iload_n E gdX12_person_52 rfl 1 rfl ?_
        refine g_bipush E gdX12_person_53 (by decide) ?_
        refine g_icmp_eq E 69 gdX12_person_55 (by decide) h (fun h => ?_) (fun h => ?_)
        ·
          exact j69 o x1 x2 x3 x4 h
        ·
          refine g_aload_n E gdX12_person_58 rfl 0 rfl ?_
          refine g_iload_n E gdX12_person_59 rfl 1 rfl ?_
          obtain ⟨r13, hc14, h⟩ := qB_of h
          refine g_Vi (r := r13) (As := [iv x1]) (rest := []) (w := wM g ad o) E (c_X12_hasRoom l g ad o x1 r13 hc14) okm_X12_hasRoom okw_X12_hasRoom w_1843 rfl (wM_0 g ad o) rfl rfl (Nat.le_of_ble_eq_true rfl) ⟨Nat.le_of_ble_eq_true rfl, Nat.le_of_ble_eq_true rfl⟩ gdX12_person_60 ?_
          refine g_if_ne E 69 gdX12_person_63 (by decide) h (fun h => ?_) (fun h => ?_)
          ·
            exact j69 o x1 x2 x3 x4 h
          ·
            refine g_bipush E gdX12_person_66 (by decide) ?_
            exact g_iret E hQ (by rw [← Option.some.inj h]) (by rw [← Option.some.inj h]) gdX12_person_68
      ·
        refine g_bipush E gdX12_person_49 (by decide) ?_
        exact g_iret E hQ (by rw [← Option.some.inj h]) (by rw [← Option.some.inj h]) gdX12_person_51
    ·
      refine g_sub E [] rfl ?_
      exact j38 o h
  have j14 : ∀ (o : OO) (x1 : Int) (x2 : Int) (x3 : Int) (x4 : Int), b_X12_person_14 o x1 x2 x3 x4 = some v → Go X 14 (wM g ad o) [(0, .ref (ad 0)), (1, iv x1), (2, iv x2), (3, iv x3), (4, iv x4)] [] := by
    intro o x1 x2 x3 x4 h
    unfold b_X12_person_14 at h
    refine g_iload_n E gdX12_person_14 rfl 2 rfl ?_
    refine g_bipush E gdX12_person_15 (by decide) ?_
    refine g_icmp_eq E 27 gdX12_person_17 (by decide) h (fun h => ?_) (fun h => ?_)
    ·
      exact j27 o x1 x2 x3 x4 h
    ·
      refine g_iload_n E gdX12_person_20 rfl 2 rfl ?_
      obtain ⟨r15, hc16, h⟩ := qB_of h
      refine g_Si (r := r15) (As := [iv x2]) (rest := []) (w := wM g ad o) E (c_X12_isCell l g (wM g ad o) x2 r15 hc16) okm_X12_isCell w_1789 w_1788 rfl rfl (Nat.le_of_ble_eq_true rfl) ⟨Nat.le_of_ble_eq_true rfl, Nat.le_of_ble_eq_true rfl⟩ gdX12_person_21 ?_
      refine g_if_eq E 38 gdX12_person_24 (by decide) h (fun h => ?_) (fun h => ?_)
      ·
        refine g_sub E [] rfl ?_
        exact j38 o h
      ·
        exact j27 o x1 x2 x3 x4 h
  unfold s_X12_person at h
  refine g_iload_n E gdX12_person_0 rfl 1 rfl ?_
  refine g_bipush E gdX12_person_1 (by decide) ?_
  refine g_icmp_eq E 14 gdX12_person_3 (by decide) h (fun h => ?_) (fun h => ?_)
  ·
    exact j14 o x1 x2 x3 x4 h
  ·
    refine g_aload_n E gdX12_person_6 rfl 0 rfl ?_
    refine g_iload_n E gdX12_person_7 rfl 1 rfl ?_
    obtain ⟨r17, hc18, h⟩ := qB_of h
    refine g_Vi (r := r17) (As := [iv x1]) (rest := []) (w := wM g ad o) E (c_X12_isBuilding l g ad o x1 r17 hc18) okm_X12_isBuilding okw_X12_isBuilding w_1811 rfl (wM_0 g ad o) rfl rfl (Nat.le_of_ble_eq_true rfl) ⟨Nat.le_of_ble_eq_true rfl, Nat.le_of_ble_eq_true rfl⟩ gdX12_person_8 ?_
    refine g_if_eq E 38 gdX12_person_11 (by decide) h (fun h => ?_) (fun h => ?_)
    ·
      refine g_sub E [] rfl ?_
      exact j38 o h
    ·
      exact j14 o x1 x2 x3 x4 h
noncomputable def s_X12_put (o : OO) (x1 : Int) (x2 : Int) (x3 : Int) : Option (Int × OO) := qB2 (s_X12_askedText o x1) (fun r1 o3 => qLt r1 0 (some (r1, o3)) (qIn x1 4 (qNm (o3.1 5 x1.toNat) (fun n5 => qB (s_X12_in x2 0 (n5 - 1)) (fun r6 => qEq r6 0 (qB2 (s_X12_meets o3 2) (fun r12 o14 => some (r12, o14))) (qIn ((40 * x1) + x2) 160 (qNm (o3.1 6 ((40 * x1) + x2).toNat) (fun n9 => qIn ((40 * x1) + x2) 160 (qNm (st1 o3 6 (((40 * x1) + x2).toNat) (jb x3)) (fun o11 => some (n9 + 1000, o11)))))))))))
set_option maxHeartbeats 4000000 in
set_option maxRecDepth 100000 in
theorem c_X12_put (l : Launch) (g : GG) (ad : Nat → Nat) (o : OO) (x1 : Int) (x2 : Int) (x3 : Int) (v : Int × OO) (h : s_X12_put o x1 x2 x3 = some v) : CI l g yX12_put cX12_put 6 (some .int) 3 63 (wM g ad o) [.ref (ad 0), iv x1, iv x2, iv x3] v.1 (wM g ad v.2) := by
  refine met_I (by decide) (Nat.le_of_ble_eq_true rfl) ?_
  intro X E hQ
  show Go X 0 (wM g ad o) [(0, .ref (ad 0)), (1, iv x1), (2, iv x2), (3, iv x3)] []
  unfold s_X12_put at h
  refine g_aload_n E gdX12_put_0 rfl 0 rfl ?_
  refine g_iload_n E gdX12_put_1 rfl 1 rfl ?_
  obtain ⟨r1, o3, hc2, h⟩ := qB2_of h
  refine g_Vi (r := r1) (As := [iv x1]) (rest := []) (w := wM g ad o3) E (c_X12_askedText l g ad o x1 (r1, o3) hc2) okm_X12_askedText okw_X12_askedText w_1739 rfl (wM_0 g ad o) rfl rfl (Nat.le_of_ble_eq_true rfl) ⟨Nat.le_of_ble_eq_true rfl, Nat.le_of_ble_eq_true rfl⟩ gdX12_put_2 ?_
  refine g_istore E [(4, iv r1), (0, .ref (ad 0)), (1, iv x1), (2, iv x2), (3, iv x3)] gdX12_put_5 (by decide) rfl ?_
  refine g_iload E gdX12_put_7 0 rfl ?_
  refine g_if_ge E 15 gdX12_put_9 (by decide) h (fun h => ?_) (fun h => ?_)
  ·
    refine g_iload_n E gdX12_put_15 rfl 3 rfl ?_
    refine g_iconst E gdX12_put_16 ?_
    refine g_aload_n E gdX12_put_17 rfl 1 rfl ?_
    refine g_get (T := TX12) E fw_X12 0 (wM_0 g ad o3) rfl 8 (by decide) w_1474 rfl rfl gdX12_put_18 ?_
    refine g_iload_n E gdX12_put_21 rfl 2 rfl ?_
    obtain ⟨hi4, h⟩ := qIn_of h
    refine g_iald E 5 (wM_5 g ad o3) (by decide) hi4 gdX12_put_22 ?_
    obtain ⟨n5, e_n5, h⟩ := qNm_of h
    refine g_nmi e_n5 ?_
    refine g_iconst E gdX12_put_23 ?_
    refine g_isub E gdX12_put_24 ?_
    obtain ⟨r6, hc7, h⟩ := qB_of h
    refine g_Si (r := r6) (As := [iv x2, iv 0, iv (n5 - 1)]) (rest := []) (w := wM g ad o3) E (c_X12_in l g (wM g ad o3) x2 0 (n5 - 1) r6 hc7) okm_X12_in w_1706 w_1705 rfl rfl (Nat.le_of_ble_eq_true rfl) ⟨Nat.le_of_ble_eq_true rfl, Nat.le_of_ble_eq_true rfl⟩ gdX12_put_25 ?_
    refine g_if_ne E 37 gdX12_put_28 (by decide) h (fun h => ?_) (fun h => ?_)
    ·
      refine g_aload_n E gdX12_put_37 rfl 1 rfl ?_
      refine g_get (T := TX12) E fw_X12 0 (wM_0 g ad o3) rfl 9 (by decide) w_1475 rfl rfl gdX12_put_38 ?_
      refine g_bipush E gdX12_put_41 (by decide) ?_
      refine g_iload_n E gdX12_put_43 rfl 2 rfl ?_
      refine g_imul E gdX12_put_44 ?_
      refine g_iload_n E gdX12_put_45 rfl 3 rfl ?_
      refine g_iadd E gdX12_put_46 ?_
      obtain ⟨hi8, h⟩ := qIn_of h
      refine g_iald E 6 (wM_6 g ad o3) (by decide) hi8 gdX12_put_47 ?_
      obtain ⟨n9, e_n9, h⟩ := qNm_of h
      refine g_nmi e_n9 ?_
      refine g_istore E [(5, iv n9), (4, iv r1), (0, .ref (ad 0)), (1, iv x1), (2, iv x2), (3, iv x3)] gdX12_put_48 (by decide) rfl ?_
      refine g_aload_n E gdX12_put_50 rfl 2 rfl ?_
      refine g_get (T := TX12) E fw_X12 0 (wM_0 g ad o3) rfl 9 (by decide) w_1475 rfl rfl gdX12_put_51 ?_
      refine g_bipush E gdX12_put_54 (by decide) ?_
      refine g_iload_n E gdX12_put_56 rfl 3 rfl ?_
      refine g_imul E gdX12_put_57 ?_
      refine g_iload_n E gdX12_put_58 rfl 4 rfl ?_
      refine g_iadd E gdX12_put_59 ?_
      refine g_iload_n E gdX12_put_60 rfl 5 rfl ?_
      refine g_i2b E gdX12_put_61 ?_
      obtain ⟨hi10, h⟩ := qIn_of h
      obtain ⟨o11, e_o11, h⟩ := qNm_of h
      refine g_iast (ws' := wM g ad o11) E 6 (wM_6 g ad o3) (by decide) hi10 (by rw [e_o11]; exact wM_s6 g ad o3 _ _) gdX12_put_62 ?_
      refine g_iload E gdX12_put_63 0 rfl ?_
      refine g_sipush E gdX12_put_65 (by decide) ?_
      refine g_iadd E gdX12_put_68 ?_
      exact g_iret E hQ (by rw [← Option.some.inj h]) (by rw [← Option.some.inj h]) gdX12_put_69
    ·
      refine g_aload_n E gdX12_put_31 rfl 1 rfl ?_
      refine g_iconst E gdX12_put_32 ?_
      obtain ⟨r12, o14, hc13, h⟩ := qB2_of h
      refine g_Vi (r := r12) (As := [iv 2]) (rest := []) (w := wM g ad o14) E (c_X12_meets l g ad o3 2 (r12, o14) hc13) okm_X12_meets okw_X12_meets w_1708 rfl (wM_0 g ad o3) rfl rfl (Nat.le_of_ble_eq_true rfl) ⟨Nat.le_of_ble_eq_true rfl, Nat.le_of_ble_eq_true rfl⟩ gdX12_put_33 ?_
      exact g_iret E hQ (by rw [← Option.some.inj h]) (by rw [← Option.some.inj h]) gdX12_put_36
  ·
    refine g_iload E gdX12_put_12 0 rfl ?_
    exact g_iret E hQ (by rw [← Option.some.inj h]) (by rw [← Option.some.inj h]) gdX12_put_14
noncomputable def b_X12_ramp_15 (o : OO) : Option (Int × OO) := some ((-1), o)
noncomputable def b_X12_ramp_121 (o : OO) : Option (Int × OO) := some ((-4), o)
noncomputable def b_X12_ramp_95 (o : OO) (x1 : Int) (x2 : Int) (x3 : Int) : Option (Int × OO) := qIn x2 64 (qNm (o.1 11 x2.toNat) (fun n2 => qEq n2 4 (b_X12_ramp_121 o) (qEq x3 0 (b_X12_ramp_121 o) (qB (s_X12_cellsOf o x1) (fun p3 => qB (s_X12_has p3 x2) (fun r5 => qEq r5 0 (qB2 (s_X12_enter o 2 x1) (fun r7 o9 => qIn r7 24 (qNm (st1 o9 28 r7.toNat 0) (fun o11 => qIn (64 * r7) 1536 (qNm (st1 o11 31 ((64 * r7).toNat) x2) (fun o13 => qIn r7 24 (qNm (st1 o13 30 r7.toNat 1) (fun o15 => some (r7, o15))))))))) (b_X12_ramp_121 o)))))))
noncomputable def b_X12_ramp_88 (o : OO) (x1 : Int) (x2 : Int) (x4 : Int) (y0 : Int) : Option ((Int × Int) ⊕ ((Int))) := some (.inl (y0, x4 + 1))
noncomputable def b_X12_ramp_83 (o : OO) (x1 : Int) (x2 : Int) (x4 : Int) : Option ((Int × Int) ⊕ ((Int))) := b_X12_ramp_88 o x1 x2 x4 1
noncomputable def l_X12_ramp_48 (o : OO) (x1 : Int) (x2 : Int) (x3 : Int) (x4 : Int) : Option ((Int × Int) ⊕ ((Int))) := qIn x1 24 (qNm (o.1 30 x1.toNat) (fun n17 => qLt x4 n17 (qEq x3 0 (qIn ((64 * x1) + x4) 1536 (qNm (o.1 31 ((64 * x1) + x4).toNat) (fun n19 => qB (s_X12_apart n19 x2) (fun r20 => qEq r20 1 (b_X12_ramp_83 o x1 x2 x4) (b_X12_ramp_88 o x1 x2 x4 0))))) (b_X12_ramp_83 o x1 x2 x4)) (some (.inr (x3)))))
noncomputable def e_X12_ramp_48 (o : OO) (x1 : Int) (x2 : Int) (x3 : Int) (x4 : Int) : Option (Int × OO) := qB (loopW (fun s => l_X12_ramp_48 o x1 x2 s.1 s.2) (x3, x4)) (fun r => b_X12_ramp_95 o x1 x2 r)
noncomputable def s_X12_ramp (o : OO) (x1 : Int) (x2 : Int) : Option (Int × OO) := qB (s_X12_isMark o x1) (fun r22 => qEq r22 0 (b_X12_ramp_15 o) (qB (s_X12_isCell x2) (fun r24 => qEq r24 0 (b_X12_ramp_15 o) (qEq (o.1 0 32) 24 (some ((-2), o)) (qB (s_X12_isLine o x1) (fun r26 => qEq r26 0 (qB2 (s_X12_meets o 3) (fun r28 o30 => some (r28, o30))) (e_X12_ramp_48 o x1 x2 0 0)))))))
set_option maxHeartbeats 4000000 in
set_option maxRecDepth 100000 in
theorem c_X12_ramp (l : Launch) (g : GG) (ad : Nat → Nat) (o : OO) (x1 : Int) (x2 : Int) (v : Int × OO) (h : s_X12_ramp o x1 x2 = some v) : CI l g yX12_ramp cX12_ramp 5 (some .int) 2 43 (wM g ad o) [.ref (ad 0), iv x1, iv x2] v.1 (wM g ad v.2) := by
  refine met_I (by decide) (Nat.le_of_ble_eq_true rfl) ?_
  intro X E hQ
  show Go X 0 (wM g ad o) [(0, .ref (ad 0)), (1, iv x1), (2, iv x2)] []
  have j15 : ∀ (o : OO), b_X12_ramp_15 o = some v → Go X 15 (wM g ad o) [] [] := by
    intro o h
    unfold b_X12_ramp_15 at h
    refine g_iconst E gdX12_ramp_15 ?_
    exact g_iret E hQ (by rw [← Option.some.inj h]) (by rw [← Option.some.inj h]) gdX12_ramp_16
  have j121 : ∀ (o : OO), b_X12_ramp_121 o = some v → Go X 121 (wM g ad o) [] [] := by
    intro o h
    unfold b_X12_ramp_121 at h
    refine g_bipush E gdX12_ramp_121 (by decide) ?_
    exact g_iret E hQ (by rw [← Option.some.inj h]) (by rw [← Option.some.inj h]) gdX12_ramp_123
  have j95 : ∀ (o : OO) (x1 : Int) (x2 : Int) (x3 : Int), b_X12_ramp_95 o x1 x2 x3 = some v → Go X 95 (wM g ad o) [(0, .ref (ad 0)), (1, iv x1), (2, iv x2), (3, iv x3)] [] := by
    intro o x1 x2 x3 h
    unfold b_X12_ramp_95 at h
    refine g_aload_n E gdX12_ramp_95 rfl 0 rfl ?_
    refine g_get (T := TX12) E fw_X12 0 (wM_0 g ad o) rfl 15 (by decide) w_1481 rfl rfl gdX12_ramp_96 ?_
    refine g_iload_n E gdX12_ramp_99 rfl 2 rfl ?_
    obtain ⟨hi1, h⟩ := qIn_of h
    refine g_iald E 11 (wM_11 g ad o) (by decide) hi1 gdX12_ramp_100 ?_
    obtain ⟨n2, e_n2, h⟩ := qNm_of h
    refine g_nmi e_n2 ?_
    refine g_iconst E gdX12_ramp_101 ?_
    refine g_icmp_eq E 121 gdX12_ramp_102 (by decide) h (fun h => ?_) (fun h => ?_)
    ·
      refine g_sub E [] rfl ?_
      exact j121 o h
    ·
      refine g_iload_n E gdX12_ramp_105 rfl 3 rfl ?_
      refine g_if_eq E 121 gdX12_ramp_106 (by decide) h (fun h => ?_) (fun h => ?_)
      ·
        refine g_sub E [] rfl ?_
        exact j121 o h
      ·
        refine g_aload_n E gdX12_ramp_109 rfl 0 rfl ?_
        refine g_iload_n E gdX12_ramp_110 rfl 1 rfl ?_
        obtain ⟨p3, hc4, h⟩ := qB_of h
        refine g_Vl (r := p3) (As := [iv x1]) (rest := []) (w := wM g ad o) E (c_X12_cellsOf l g ad o x1 p3 hc4) okm_X12_cellsOf okw_X12_cellsOf w_1914 rfl (wM_0 g ad o) rfl rfl (Nat.le_of_ble_eq_true rfl) ⟨Nat.le_of_ble_eq_true rfl, Nat.le_of_ble_eq_true rfl⟩ gdX12_ramp_111 ?_
        refine g_iload_n E gdX12_ramp_114 rfl 2 rfl ?_
        obtain ⟨r5, hc6, h⟩ := qB_of h
        refine g_Si (r := r5) (As := [.long p3, iv x2]) (rest := []) (w := wM g ad o) E (c_X12_has l g (wM g ad o) p3 x2 r5 hc6) okm_X12_has w_1919 w_1918 rfl rfl (Nat.le_of_ble_eq_true rfl) ⟨Nat.le_of_ble_eq_true rfl, Nat.le_of_ble_eq_true rfl⟩ gdX12_ramp_115 ?_
        refine g_if_eq E 124 gdX12_ramp_118 (by decide) h (fun h => ?_) (fun h => ?_)
        ·
          refine g_aload_n E gdX12_ramp_124 rfl 0 rfl ?_
          refine g_iconst E gdX12_ramp_125 ?_
          refine g_iload_n E gdX12_ramp_126 rfl 1 rfl ?_
          obtain ⟨r7, o9, hc8, h⟩ := qB2_of h
          refine g_Vi (r := r7) (As := [iv 2, iv x1]) (rest := []) (w := wM g ad o9) E (c_X12_enter l g ad o 2 x1 (r7, o9) hc8) okm_X12_enter okw_X12_enter w_1895 rfl (wM_0 g ad o) rfl rfl (Nat.le_of_ble_eq_true rfl) ⟨Nat.le_of_ble_eq_true rfl, Nat.le_of_ble_eq_true rfl⟩ gdX12_ramp_127 ?_
          refine g_istore E [(4, iv r7), (0, .ref (ad 0)), (1, iv x1), (2, iv x2), (3, iv x3)] gdX12_ramp_130 (by decide) rfl ?_
          refine g_aload_n E gdX12_ramp_132 rfl 1 rfl ?_
          refine g_get (T := TX12) E fw_X12 0 (wM_0 g ad o9) rfl 36 (by decide) w_1502 rfl rfl gdX12_ramp_133 ?_
          refine g_iload E gdX12_ramp_136 0 rfl ?_
          refine g_iconst E gdX12_ramp_138 ?_
          obtain ⟨hi10, h⟩ := qIn_of h
          obtain ⟨o11, e_o11, h⟩ := qNm_of h
          refine g_iast (ws' := wM g ad o11) E 28 (wM_28 g ad o9) (by decide) hi10 (by rw [e_o11]; exact wM_s28 g ad o9 _ _) gdX12_ramp_139 ?_
          refine g_aload_n E gdX12_ramp_140 rfl 1 rfl ?_
          refine g_get (T := TX12) E fw_X12 0 (wM_0 g ad o11) rfl 39 (by decide) w_1505 rfl rfl gdX12_ramp_141 ?_
          refine g_bipush E gdX12_ramp_144 (by decide) ?_
          refine g_iload E gdX12_ramp_146 0 rfl ?_
          refine g_imul E gdX12_ramp_148 ?_
          refine g_iload_n E gdX12_ramp_149 rfl 3 rfl ?_
          obtain ⟨hi12, h⟩ := qIn_of h
          obtain ⟨o13, e_o13, h⟩ := qNm_of h
          refine g_iast (ws' := wM g ad o13) E 31 (wM_31 g ad o11) (by decide) hi12 (by rw [e_o13]; exact wM_s31 g ad o11 _ _) gdX12_ramp_150 ?_
          refine g_aload_n E gdX12_ramp_151 rfl 1 rfl ?_
          refine g_get (T := TX12) E fw_X12 0 (wM_0 g ad o13) rfl 38 (by decide) w_1504 rfl rfl gdX12_ramp_152 ?_
          refine g_iload E gdX12_ramp_155 0 rfl ?_
          refine g_iconst E gdX12_ramp_157 ?_
          obtain ⟨hi14, h⟩ := qIn_of h
          obtain ⟨o15, e_o15, h⟩ := qNm_of h
          refine g_iast (ws' := wM g ad o15) E 30 (wM_30 g ad o13) (by decide) hi14 (by rw [e_o15]; exact wM_s30 g ad o13 _ _) gdX12_ramp_158 ?_
          refine g_iload E gdX12_ramp_159 0 rfl ?_
          exact g_iret E hQ (by rw [← Option.some.inj h]) (by rw [← Option.some.inj h]) gdX12_ramp_161
        ·
          refine g_sub E [] rfl ?_
          exact j121 o h
  have j88 : ∀ (o : OO) (x1 : Int) (x2 : Int) (x4 : Int) (y0 : Int) (v : (Int × Int) ⊕ ((Int))), b_X12_ramp_88 o x1 x2 x4 y0 = some v → (∀ (x3 : Int) (x4 : Int), v = .inl (x3, x4) → Go X 48 (wM g ad o) [(0, .ref (ad 0)), (1, iv x1), (2, iv x2), (3, iv x3), (4, iv x4)] []) → (∀ (x3 : Int), v = .inr (x3) → Go X 95 (wM g ad o) [(0, .ref (ad 0)), (1, iv x1), (2, iv x2), (3, iv x3)] []) → Go X 88 (wM g ad o) [(0, .ref (ad 0)), (1, iv x1), (2, iv x2), (4, iv x4)] [iv y0] := by
    intro o x1 x2 x4 y0 v h k0 k1
    unfold b_X12_ramp_88 at h
    refine g_istore_n E [(3, iv y0), (0, .ref (ad 0)), (1, iv x1), (2, iv x2), (4, iv x4)] gdX12_ramp_88 rfl (by decide) rfl ?_
    refine g_iinc E [(4, iv (x4 + 1)), (3, iv y0), (0, .ref (ad 0)), (1, iv x1), (2, iv x2)] gdX12_ramp_89 4 rfl (by decide) rfl ?_
    refine g_goto E 48 gdX12_ramp_92 (by decide) ?_
    refine g_sub E [2, 3, 4, 1, 0] rfl ?_
    exact k0 y0 (x4 + 1) (Option.some.inj h).symm
  have j83 : ∀ (o : OO) (x1 : Int) (x2 : Int) (x4 : Int) (v : (Int × Int) ⊕ ((Int))), b_X12_ramp_83 o x1 x2 x4 = some v → (∀ (x3 : Int) (x4 : Int), v = .inl (x3, x4) → Go X 48 (wM g ad o) [(0, .ref (ad 0)), (1, iv x1), (2, iv x2), (3, iv x3), (4, iv x4)] []) → (∀ (x3 : Int), v = .inr (x3) → Go X 95 (wM g ad o) [(0, .ref (ad 0)), (1, iv x1), (2, iv x2), (3, iv x3)] []) → Go X 83 (wM g ad o) [(0, .ref (ad 0)), (1, iv x1), (2, iv x2), (4, iv x4)] [] := by
    intro o x1 x2 x4 v h k0 k1
    unfold b_X12_ramp_83 at h
    refine g_iconst E gdX12_ramp_83 ?_
    refine g_goto E 88 gdX12_ramp_84 (by decide) ?_
    exact j88 o x1 x2 x4 1 v h k0 k1
  have l48 : ∀ (o : OO) (x1 : Int) (x2 : Int) (r : (Int)) (s0 : Int × Int), loopW (fun s => l_X12_ramp_48 o x1 x2 s.1 s.2) s0 = some r → (∀ (x3 : Int), r = (x3) → Go X 95 (wM g ad o) [(0, .ref (ad 0)), (1, iv x1), (2, iv x2), (3, iv x3)] []) → Go X 48 (wM g ad o) [(0, .ref (ad 0)), (1, iv x1), (2, iv x2), (3, iv s0.1), (4, iv s0.2)] [] := by
    intro o x1 x2 r s0 h k1
    refine loop_rule (Head := fun s0 => Go X 48 (wM g ad o) [(0, .ref (ad 0)), (1, iv x1), (2, iv x2), (3, iv s0.1), (4, iv s0.2)] []) h ?_
    intro s v h kk kx
    obtain ⟨x3, x4⟩ := s
    have h : l_X12_ramp_48 o x1 x2 x3 x4 = some v := h
    have k0 : ∀ (x3 : Int) (x4 : Int), v = .inl (x3, x4) → Go X 48 (wM g ad o) [(0, .ref (ad 0)), (1, iv x1), (2, iv x2), (3, iv x3), (4, iv x4)] [] := fun x3 x4 e => kk (x3, x4) e
    have k1 : ∀ (x3 : Int), v = .inr (x3) → Go X 95 (wM g ad o) [(0, .ref (ad 0)), (1, iv x1), (2, iv x2), (3, iv x3)] [] := fun x3 e => k1 x3 (kx _ e).symm
    unfold l_X12_ramp_48 at h
    refine g_iload E gdX12_ramp_48 4 rfl ?_
    refine g_aload_n E gdX12_ramp_50 rfl 0 rfl ?_
    refine g_get (T := TX12) E fw_X12 0 (wM_0 g ad o) rfl 38 (by decide) w_1504 rfl rfl gdX12_ramp_51 ?_
    refine g_iload_n E gdX12_ramp_54 rfl 1 rfl ?_
    obtain ⟨hi16, h⟩ := qIn_of h
    refine g_iald E 30 (wM_30 g ad o) (by decide) hi16 gdX12_ramp_55 ?_
    obtain ⟨n17, e_n17, h⟩ := qNm_of h
    refine g_nmi e_n17 ?_
    refine g_icmp_ge E 95 gdX12_ramp_56 (by decide) h (fun h => ?_) (fun h => ?_)
    ·
      refine g_sub E [0, 1, 2, 3] rfl ?_
      exact k1 x3 (Option.some.inj h).symm
    ·
      refine g_iload_n E gdX12_ramp_59 rfl 3 rfl ?_
      refine g_if_ne E 83 gdX12_ramp_60 (by decide) h (fun h => ?_) (fun h => ?_)
      ·
        refine g_sub E [0, 1, 2, 4] rfl ?_
        exact j83 o x1 x2 x4 v h k0 k1
      ·
        refine g_aload_n E gdX12_ramp_63 rfl 0 rfl ?_
        refine g_get (T := TX12) E fw_X12 0 (wM_0 g ad o) rfl 39 (by decide) w_1505 rfl rfl gdX12_ramp_64 ?_
        refine g_bipush E gdX12_ramp_67 (by decide) ?_
        refine g_iload_n E gdX12_ramp_69 rfl 1 rfl ?_
        refine g_imul E gdX12_ramp_70 ?_
        refine g_iload E gdX12_ramp_71 4 rfl ?_
        refine g_iadd E gdX12_ramp_73 ?_
        obtain ⟨hi18, h⟩ := qIn_of h
        refine g_iald E 31 (wM_31 g ad o) (by decide) hi18 gdX12_ramp_74 ?_
        obtain ⟨n19, e_n19, h⟩ := qNm_of h
        refine g_nmi e_n19 ?_
        refine g_iload_n E gdX12_ramp_75 rfl 2 rfl ?_
        obtain ⟨r20, hc21, h⟩ := qB_of h
        refine g_Si (r := r20) (As := [iv n19, iv x2]) (rest := []) (w := wM g ad o) E (c_X12_apart l g (wM g ad o) n19 x2 r20 hc21) okm_X12_apart w_1912 w_1911 rfl rfl (Nat.le_of_ble_eq_true rfl) ⟨Nat.le_of_ble_eq_true rfl, Nat.le_of_ble_eq_true rfl⟩ gdX12_ramp_76 ?_
        refine g_iconst E gdX12_ramp_79 ?_
        refine g_icmp_ne E 87 gdX12_ramp_80 (by decide) h (fun h => ?_) (fun h => ?_)
        ·
          refine g_iconst E gdX12_ramp_87 ?_
          refine g_sub E [0, 1, 2, 4] rfl ?_
          exact j88 o x1 x2 x4 0 v h k0 k1
        ·
          refine g_sub E [0, 1, 2, 4] rfl ?_
          exact j83 o x1 x2 x4 v h k0 k1
  have j48 : ∀ (o : OO) (x1 : Int) (x2 : Int) (x3 : Int) (x4 : Int), e_X12_ramp_48 o x1 x2 x3 x4 = some v → Go X 48 (wM g ad o) [(0, .ref (ad 0)), (1, iv x1), (2, iv x2), (3, iv x3), (4, iv x4)] [] := by
    intro o x1 x2 x3 x4 h
    unfold e_X12_ramp_48 at h
    obtain ⟨r, hr, h⟩ := qB_of h
    refine l48 o x1 x2 r _ hr ?_
    ·
      intro u0 e
      have e := e.symm
      subst e
      have h : b_X12_ramp_95 o x1 x2 u0 = some v := h
      exact j95 o x1 x2 u0 h
  unfold s_X12_ramp at h
  refine g_aload_n E gdX12_ramp_0 rfl 0 rfl ?_
  refine g_iload_n E gdX12_ramp_1 rfl 1 rfl ?_
  obtain ⟨r22, hc23, h⟩ := qB_of h
  refine g_Vi (r := r22) (As := [iv x1]) (rest := []) (w := wM g ad o) E (c_X12_isMark l g ad o x1 r22 hc23) okm_X12_isMark okw_X12_isMark w_1903 rfl (wM_0 g ad o) rfl rfl (Nat.le_of_ble_eq_true rfl) ⟨Nat.le_of_ble_eq_true rfl, Nat.le_of_ble_eq_true rfl⟩ gdX12_ramp_2 ?_
  refine g_if_eq E 15 gdX12_ramp_5 (by decide) h (fun h => ?_) (fun h => ?_)
  ·
    refine g_sub E [] rfl ?_
    exact j15 o h
  ·
    refine g_iload_n E gdX12_ramp_8 rfl 2 rfl ?_
    obtain ⟨r24, hc25, h⟩ := qB_of h
    refine g_Si (r := r24) (As := [iv x2]) (rest := []) (w := wM g ad o) E (c_X12_isCell l g (wM g ad o) x2 r24 hc25) okm_X12_isCell w_1789 w_1788 rfl rfl (Nat.le_of_ble_eq_true rfl) ⟨Nat.le_of_ble_eq_true rfl, Nat.le_of_ble_eq_true rfl⟩ gdX12_ramp_9 ?_
    refine g_if_ne E 17 gdX12_ramp_12 (by decide) h (fun h => ?_) (fun h => ?_)
    ·
      refine g_aload_n E gdX12_ramp_17 rfl 0 rfl ?_
      refine g_get (T := TX12) E fw_X12 0 (wM_0 g ad o) rfl 32 (by decide) w_1498 rfl rfl gdX12_ramp_18 ?_
      refine g_bipush E gdX12_ramp_21 (by decide) ?_
      refine g_icmp_ne E 29 gdX12_ramp_23 (by decide) h (fun h => ?_) (fun h => ?_)
      ·
        refine g_aload_n E gdX12_ramp_29 rfl 0 rfl ?_
        refine g_iload_n E gdX12_ramp_30 rfl 1 rfl ?_
        obtain ⟨r26, hc27, h⟩ := qB_of h
        refine g_Vi (r := r26) (As := [iv x1]) (rest := []) (w := wM g ad o) E (c_X12_isLine l g ad o x1 r26 hc27) okm_X12_isLine okw_X12_isLine w_1907 rfl (wM_0 g ad o) rfl rfl (Nat.le_of_ble_eq_true rfl) ⟨Nat.le_of_ble_eq_true rfl, Nat.le_of_ble_eq_true rfl⟩ gdX12_ramp_31 ?_
        refine g_if_ne E 43 gdX12_ramp_34 (by decide) h (fun h => ?_) (fun h => ?_)
        ·
          refine g_iconst E gdX12_ramp_43 ?_
          refine g_istore_n E [(3, iv 0), (0, .ref (ad 0)), (1, iv x1), (2, iv x2)] gdX12_ramp_44 rfl (by decide) rfl ?_
          refine g_iconst E gdX12_ramp_45 ?_
          refine g_istore E [(4, iv 0), (3, iv 0), (0, .ref (ad 0)), (1, iv x1), (2, iv x2)] gdX12_ramp_46 (by decide) rfl ?_
          refine g_sub E [2, 3, 4, 1, 0] rfl ?_
          exact j48 o x1 x2 0 0 h
        ·
          refine g_aload_n E gdX12_ramp_37 rfl 0 rfl ?_
          refine g_iconst E gdX12_ramp_38 ?_
          obtain ⟨r28, o30, hc29, h⟩ := qB2_of h
          refine g_Vi (r := r28) (As := [iv 3]) (rest := []) (w := wM g ad o30) E (c_X12_meets l g ad o 3 (r28, o30) hc29) okm_X12_meets okw_X12_meets w_1708 rfl (wM_0 g ad o) rfl rfl (Nat.le_of_ble_eq_true rfl) ⟨Nat.le_of_ble_eq_true rfl, Nat.le_of_ble_eq_true rfl⟩ gdX12_ramp_39 ?_
          exact g_iret E hQ (by rw [← Option.some.inj h]) (by rw [← Option.some.inj h]) gdX12_ramp_42
      ·
        refine g_bipush E gdX12_ramp_26 (by decide) ?_
        exact g_iret E hQ (by rw [← Option.some.inj h]) (by rw [← Option.some.inj h]) gdX12_ramp_28
    ·
      refine g_sub E [] rfl ?_
      exact j15 o h
noncomputable def b_X12_row_13 (o : OO) : Option (Int × OO) := some ((-1), o)
noncomputable def b_X12_row_58 (o : OO) (x2 : Int) : Option (Int × OO) := some (x2, o)
noncomputable def l_X12_row_34 (x1 : Int) (x2 : Int) (o : OO) (x3 : Int) : Option ((OO × Int) ⊕ ((OO))) := qLt x3 40 (qIn ((40 * x1) + x3) 240 (qNm (st1 o 3 (((40 * x1) + x3).toNat) 0) (fun o2 => some (.inl (o2, x3 + 1))))) (some (.inr (o)))
noncomputable def e_X12_row_34 (o : OO) (x1 : Int) (x2 : Int) (x3 : Int) : Option (Int × OO) := qB (loopW (fun s => l_X12_row_34 x1 x2 s.1 s.2) (o, x3)) (fun r => b_X12_row_58 r x2)
noncomputable def s_X12_row (o : OO) (x1 : Int) (x2 : Int) : Option (Int × OO) := qB (s_X12_isRow x1) (fun r3 => qEq r3 0 (b_X12_row_13 o) (qLt 40 x2 (b_X12_row_13 o) (qLt x2 0 (qB2 (s_X12_meets o 5) (fun r7 o9 => some (r7, o9))) (qIn x1 6 (qNm (st1 o 2 x1.toNat x2) (fun o6 => e_X12_row_34 o6 x1 x2 0))))))
set_option maxHeartbeats 4000000 in
set_option maxRecDepth 100000 in
theorem c_X12_row (l : Launch) (g : GG) (ad : Nat → Nat) (o : OO) (x1 : Int) (x2 : Int) (v : Int × OO) (h : s_X12_row o x1 x2 = some v) : CI l g yX12_row cX12_row 4 (some .int) 2 42 (wM g ad o) [.ref (ad 0), iv x1, iv x2] v.1 (wM g ad v.2) := by
  refine met_I (by decide) (Nat.le_of_ble_eq_true rfl) ?_
  intro X E hQ
  show Go X 0 (wM g ad o) [(0, .ref (ad 0)), (1, iv x1), (2, iv x2)] []
  have j13 : ∀ (o : OO), b_X12_row_13 o = some v → Go X 13 (wM g ad o) [] [] := by
    intro o h
    unfold b_X12_row_13 at h
    refine g_iconst E gdX12_row_13 ?_
    exact g_iret E hQ (by rw [← Option.some.inj h]) (by rw [← Option.some.inj h]) gdX12_row_14
  have j58 : ∀ (o : OO) (x2 : Int), b_X12_row_58 o x2 = some v → Go X 58 (wM g ad o) [(2, iv x2)] [] := by
    intro o x2 h
    unfold b_X12_row_58 at h
    refine g_iload_n E gdX12_row_58 rfl 0 rfl ?_
    exact g_iret E hQ (by rw [← Option.some.inj h]) (by rw [← Option.some.inj h]) gdX12_row_59
  have l34 : ∀ (x1 : Int) (x2 : Int) (r : (OO)) (s0 : OO × Int), loopW (fun s => l_X12_row_34 x1 x2 s.1 s.2) s0 = some r → (∀ (o : OO), r = (o) → Go X 58 (wM g ad o) [(2, iv x2)] []) → Go X 34 (wM g ad s0.1) [(0, .ref (ad 0)), (1, iv x1), (2, iv x2), (3, iv s0.2)] [] := by
    intro x1 x2 r s0 h k1
    refine loop_rule (Head := fun s0 => Go X 34 (wM g ad s0.1) [(0, .ref (ad 0)), (1, iv x1), (2, iv x2), (3, iv s0.2)] []) h ?_
    intro s v h kk kx
    obtain ⟨o, x3⟩ := s
    have h : l_X12_row_34 x1 x2 o x3 = some v := h
    have k0 : ∀ (o : OO) (x3 : Int), v = .inl (o, x3) → Go X 34 (wM g ad o) [(0, .ref (ad 0)), (1, iv x1), (2, iv x2), (3, iv x3)] [] := fun o x3 e => kk (o, x3) e
    have k1 : ∀ (o : OO), v = .inr (o) → Go X 58 (wM g ad o) [(2, iv x2)] [] := fun o e => k1 o (kx _ e).symm
    unfold l_X12_row_34 at h
    refine g_iload_n E gdX12_row_34 rfl 3 rfl ?_
    refine g_bipush E gdX12_row_35 (by decide) ?_
    refine g_icmp_ge E 58 gdX12_row_37 (by decide) h (fun h => ?_) (fun h => ?_)
    ·
      refine g_sub E [2] rfl ?_
      exact k1 o (Option.some.inj h).symm
    ·
      refine g_aload_n E gdX12_row_40 rfl 0 rfl ?_
      refine g_get (T := TX12) E fw_X12 0 (wM_0 g ad o) rfl 6 (by decide) w_1472 rfl rfl gdX12_row_41 ?_
      refine g_bipush E gdX12_row_44 (by decide) ?_
      refine g_iload_n E gdX12_row_46 rfl 1 rfl ?_
      refine g_imul E gdX12_row_47 ?_
      refine g_iload_n E gdX12_row_48 rfl 3 rfl ?_
      refine g_iadd E gdX12_row_49 ?_
      refine g_iconst E gdX12_row_50 ?_
      obtain ⟨hi1, h⟩ := qIn_of h
      obtain ⟨o2, e_o2, h⟩ := qNm_of h
      refine g_iast (ws' := wM g ad o2) E 3 (wM_3 g ad o) (by decide) hi1 (by rw [e_o2]; exact wM_s3 g ad o _ _) gdX12_row_51 ?_
      refine g_iinc E [(3, iv (x3 + 1)), (0, .ref (ad 0)), (1, iv x1), (2, iv x2)] gdX12_row_52 3 rfl (by decide) rfl ?_
      refine g_goto E 34 gdX12_row_55 (by decide) ?_
      refine g_sub E [1, 2, 3, 0] rfl ?_
      exact k0 o2 (x3 + 1) (Option.some.inj h).symm
  have j34 : ∀ (o : OO) (x1 : Int) (x2 : Int) (x3 : Int), e_X12_row_34 o x1 x2 x3 = some v → Go X 34 (wM g ad o) [(0, .ref (ad 0)), (1, iv x1), (2, iv x2), (3, iv x3)] [] := by
    intro o x1 x2 x3 h
    unfold e_X12_row_34 at h
    obtain ⟨r, hr, h⟩ := qB_of h
    refine l34 x1 x2 r _ hr ?_
    ·
      intro u0 e
      have e := e.symm
      subst e
      have h : b_X12_row_58 u0 x2 = some v := h
      exact j58 u0 x2 h
  unfold s_X12_row at h
  refine g_iload_n E gdX12_row_0 rfl 1 rfl ?_
  obtain ⟨r3, hc4, h⟩ := qB_of h
  refine g_Si (r := r3) (As := [iv x1]) (rest := []) (w := wM g ad o) E (c_X12_isRow l g (wM g ad o) x1 r3 hc4) okm_X12_isRow w_1703 w_1702 rfl rfl (Nat.le_of_ble_eq_true rfl) ⟨Nat.le_of_ble_eq_true rfl, Nat.le_of_ble_eq_true rfl⟩ gdX12_row_1 ?_
  refine g_if_eq E 13 gdX12_row_4 (by decide) h (fun h => ?_) (fun h => ?_)
  ·
    refine g_sub E [] rfl ?_
    exact j13 o h
  ·
    refine g_iload_n E gdX12_row_7 rfl 2 rfl ?_
    refine g_bipush E gdX12_row_8 (by decide) ?_
    refine g_icmp_le E 15 gdX12_row_10 (by decide) h (fun h => ?_) (fun h => ?_)
    ·
      refine g_iload_n E gdX12_row_15 rfl 2 rfl ?_
      refine g_if_ge E 25 gdX12_row_16 (by decide) h (fun h => ?_) (fun h => ?_)
      ·
        refine g_aload_n E gdX12_row_25 rfl 0 rfl ?_
        refine g_get (T := TX12) E fw_X12 0 (wM_0 g ad o) rfl 5 (by decide) w_1471 rfl rfl gdX12_row_26 ?_
        refine g_iload_n E gdX12_row_29 rfl 1 rfl ?_
        refine g_iload_n E gdX12_row_30 rfl 2 rfl ?_
        obtain ⟨hi5, h⟩ := qIn_of h
        obtain ⟨o6, e_o6, h⟩ := qNm_of h
        refine g_iast (ws' := wM g ad o6) E 2 (wM_2 g ad o) (by decide) hi5 (by rw [e_o6]; exact wM_s2 g ad o _ _) gdX12_row_31 ?_
        refine g_iconst E gdX12_row_32 ?_
        refine g_istore_n E [(3, iv 0), (0, .ref (ad 0)), (1, iv x1), (2, iv x2)] gdX12_row_33 rfl (by decide) rfl ?_
        refine g_sub E [1, 2, 3, 0] rfl ?_
        exact j34 o6 x1 x2 0 h
      ·
        refine g_aload_n E gdX12_row_19 rfl 0 rfl ?_
        refine g_iconst E gdX12_row_20 ?_
        obtain ⟨r7, o9, hc8, h⟩ := qB2_of h
        refine g_Vi (r := r7) (As := [iv 5]) (rest := []) (w := wM g ad o9) E (c_X12_meets l g ad o 5 (r7, o9) hc8) okm_X12_meets okw_X12_meets w_1708 rfl (wM_0 g ad o) rfl rfl (Nat.le_of_ble_eq_true rfl) ⟨Nat.le_of_ble_eq_true rfl, Nat.le_of_ble_eq_true rfl⟩ gdX12_row_21 ?_
        exact g_iret E hQ (by rw [← Option.some.inj h]) (by rw [← Option.some.inj h]) gdX12_row_24
    ·
      refine g_sub E [] rfl ?_
      exact j13 o h
noncomputable def b_X12_rule_14 (o : OO) : Option (Int × OO) := some ((-1), o)
noncomputable def b_X12_rule_113 (o : OO) : Option (Int × OO) := qNm (st1 o 0 10 ((o.1 0 10) + 1)) (fun o1 => some ((o1.1 0 10) - 1, o1))
noncomputable def l_X12_rule_81 (o : OO) (x3 : Int) : Option ((OO × Int) ⊕ ((OO))) := qLt x3 8 (qIn x3 8 (qNm (o.1 10 x3.toNat) (fun n3 => qIn ((8 * (o.1 0 10)) + x3) 128 (qNm (st1 o 9 (((8 * (o.1 0 10)) + x3).toNat) n3) (fun o5 => some (.inl (o5, x3 + 1))))))) (some (.inr (o)))
noncomputable def e_X12_rule_81 (o : OO) (x3 : Int) : Option (Int × OO) := qB (loopW (fun s => l_X12_rule_81 s.1 s.2) (o, x3)) (fun r => b_X12_rule_113 r)
noncomputable def s_X12_rule (o : OO) (x1 : Int) (x2 : Int) : Option (Int × OO) := qB (s_X12_isText x1) (fun r6 => qEq r6 0 (b_X12_rule_14 o) (qB (s_X12_isDay x2) (fun r8 => qEq r8 0 (b_X12_rule_14 o) (qEq (o.1 0 10) 16 (some ((-2), o)) (qIn x1 4 (qNm (o.1 5 x1.toNat) (fun n11 => qLt n11 0 (qB2 (s_X12_meets o 1) (fun r19 o21 => some (r19, o21))) (qB2 (s_X12_reads o x1) (fun r12 o14 => qEq r12 (-9) (qIn (o14.1 0 10) 16 (qNm (st1 o14 7 ((o14.1 0 10).toNat) (o14.1 0 4)) (fun o16 => qIn (o16.1 0 10) 16 (qNm (st1 o16 8 ((o16.1 0 10).toNat) x2) (fun o18 => e_X12_rule_81 o18 0))))) (some ((-4), o14)))))))))))
set_option maxHeartbeats 4000000 in
set_option maxRecDepth 100000 in
theorem c_X12_rule (l : Launch) (g : GG) (ad : Nat → Nat) (o : OO) (x1 : Int) (x2 : Int) (v : Int × OO) (h : s_X12_rule o x1 x2 = some v) : CI l g yX12_rule cX12_rule 4 (some .int) 2 47 (wM g ad o) [.ref (ad 0), iv x1, iv x2] v.1 (wM g ad v.2) := by
  refine met_I (by decide) (Nat.le_of_ble_eq_true rfl) ?_
  intro X E hQ
  show Go X 0 (wM g ad o) [(0, .ref (ad 0)), (1, iv x1), (2, iv x2)] []
  have j14 : ∀ (o : OO), b_X12_rule_14 o = some v → Go X 14 (wM g ad o) [] [] := by
    intro o h
    unfold b_X12_rule_14 at h
    refine g_iconst E gdX12_rule_14 ?_
    exact g_iret E hQ (by rw [← Option.some.inj h]) (by rw [← Option.some.inj h]) gdX12_rule_15
  have j113 : ∀ (o : OO), b_X12_rule_113 o = some v → Go X 113 (wM g ad o) [(0, .ref (ad 0))] [] := by
    intro o h
    unfold b_X12_rule_113 at h
    refine g_aload_n E gdX12_rule_113 rfl 0 rfl ?_
    refine g_dup E gdX12_rule_114 rfl ?_
    refine g_get (T := TX12) E fw_X12 0 (wM_0 g ad o) rfl 10 (by decide) w_1476 rfl rfl gdX12_rule_115 ?_
    refine g_iconst E gdX12_rule_118 ?_
    refine g_iadd E gdX12_rule_119 ?_
    obtain ⟨o1, e_o1, h⟩ := qNm_of h
    refine g_puti (T := TX12) (ws' := wM g ad o1) E fw_X12 tyX12 tyX12_ok nmX12 0 (wM_0 g ad o) rfl 10 (by decide) w_1476 rfl rfl (by decide +kernel) (Nat.le_of_ble_eq_true rfl) (by rw [e_o1]; exact wM_p0_10 g ad o _) gdX12_rule_120 ?_
    refine g_aload_n E gdX12_rule_123 rfl 0 rfl ?_
    refine g_get (T := TX12) E fw_X12 0 (wM_0 g ad o1) rfl 10 (by decide) w_1476 rfl rfl gdX12_rule_124 ?_
    refine g_iconst E gdX12_rule_127 ?_
    refine g_isub E gdX12_rule_128 ?_
    exact g_iret E hQ (by rw [← Option.some.inj h]) (by rw [← Option.some.inj h]) gdX12_rule_129
  have l81 : ∀  (r : (OO)) (s0 : OO × Int), loopW (fun s => l_X12_rule_81 s.1 s.2) s0 = some r → (∀ (o : OO), r = (o) → Go X 113 (wM g ad o) [(0, .ref (ad 0))] []) → Go X 81 (wM g ad s0.1) [(0, .ref (ad 0)), (3, iv s0.2)] [] := by
    intro r s0 h k1
    refine loop_rule (Head := fun s0 => Go X 81 (wM g ad s0.1) [(0, .ref (ad 0)), (3, iv s0.2)] []) h ?_
    intro s v h kk kx
    obtain ⟨o, x3⟩ := s
    have h : l_X12_rule_81 o x3 = some v := h
    have k0 : ∀ (o : OO) (x3 : Int), v = .inl (o, x3) → Go X 81 (wM g ad o) [(0, .ref (ad 0)), (3, iv x3)] [] := fun o x3 e => kk (o, x3) e
    have k1 : ∀ (o : OO), v = .inr (o) → Go X 113 (wM g ad o) [(0, .ref (ad 0))] [] := fun o e => k1 o (kx _ e).symm
    unfold l_X12_rule_81 at h
    refine g_iload_n E gdX12_rule_81 rfl 1 rfl ?_
    refine g_bipush E gdX12_rule_82 (by decide) ?_
    refine g_icmp_ge E 113 gdX12_rule_84 (by decide) h (fun h => ?_) (fun h => ?_)
    ·
      refine g_sub E [0] rfl ?_
      exact k1 o (Option.some.inj h).symm
    ·
      refine g_aload_n E gdX12_rule_87 rfl 0 rfl ?_
      refine g_get (T := TX12) E fw_X12 0 (wM_0 g ad o) rfl 13 (by decide) w_1479 rfl rfl gdX12_rule_88 ?_
      refine g_bipush E gdX12_rule_91 (by decide) ?_
      refine g_aload_n E gdX12_rule_93 rfl 0 rfl ?_
      refine g_get (T := TX12) E fw_X12 0 (wM_0 g ad o) rfl 10 (by decide) w_1476 rfl rfl gdX12_rule_94 ?_
      refine g_imul E gdX12_rule_97 ?_
      refine g_iload_n E gdX12_rule_98 rfl 1 rfl ?_
      refine g_iadd E gdX12_rule_99 ?_
      refine g_aload_n E gdX12_rule_100 rfl 0 rfl ?_
      refine g_get (T := TX12) E fw_X12 0 (wM_0 g ad o) rfl 14 (by decide) w_1480 rfl rfl gdX12_rule_101 ?_
      refine g_iload_n E gdX12_rule_104 rfl 1 rfl ?_
      obtain ⟨hi2, h⟩ := qIn_of h
      refine g_iald E 10 (wM_10 g ad o) (by decide) hi2 gdX12_rule_105 ?_
      obtain ⟨n3, e_n3, h⟩ := qNm_of h
      refine g_nmi e_n3 ?_
      obtain ⟨hi4, h⟩ := qIn_of h
      obtain ⟨o5, e_o5, h⟩ := qNm_of h
      refine g_iast (ws' := wM g ad o5) E 9 (wM_9 g ad o) (by decide) hi4 (by rw [e_o5]; exact wM_s9 g ad o _ _) gdX12_rule_106 ?_
      refine g_iinc E [(3, iv (x3 + 1)), (0, .ref (ad 0))] gdX12_rule_107 1 rfl (by decide) rfl ?_
      refine g_goto E 81 gdX12_rule_110 (by decide) ?_
      refine g_sub E [1, 0] rfl ?_
      exact k0 o5 (x3 + 1) (Option.some.inj h).symm
  have j81 : ∀ (o : OO) (x3 : Int), e_X12_rule_81 o x3 = some v → Go X 81 (wM g ad o) [(0, .ref (ad 0)), (3, iv x3)] [] := by
    intro o x3 h
    unfold e_X12_rule_81 at h
    obtain ⟨r, hr, h⟩ := qB_of h
    refine l81  r _ hr ?_
    ·
      intro u0 e
      have e := e.symm
      subst e
      have h : b_X12_rule_113 u0 = some v := h
      exact j113 u0 h
  unfold s_X12_rule at h
  refine g_iload_n E gdX12_rule_0 rfl 1 rfl ?_
  obtain ⟨r6, hc7, h⟩ := qB_of h
  refine g_Si (r := r6) (As := [iv x1]) (rest := []) (w := wM g ad o) E (c_X12_isText l g (wM g ad o) x1 r6 hc7) okm_X12_isText w_1733 w_1732 rfl rfl (Nat.le_of_ble_eq_true rfl) ⟨Nat.le_of_ble_eq_true rfl, Nat.le_of_ble_eq_true rfl⟩ gdX12_rule_1 ?_
  refine g_if_eq E 14 gdX12_rule_4 (by decide) h (fun h => ?_) (fun h => ?_)
  ·
    refine g_sub E [] rfl ?_
    exact j14 o h
  ·
    refine g_iload_n E gdX12_rule_7 rfl 2 rfl ?_
    obtain ⟨r8, hc9, h⟩ := qB_of h
    refine g_Si (r := r8) (As := [iv x2]) (rest := []) (w := wM g ad o) E (c_X12_isDay l g (wM g ad o) x2 r8 hc9) okm_X12_isDay w_1763 w_1762 rfl rfl (Nat.le_of_ble_eq_true rfl) ⟨Nat.le_of_ble_eq_true rfl, Nat.le_of_ble_eq_true rfl⟩ gdX12_rule_8 ?_
    refine g_if_ne E 16 gdX12_rule_11 (by decide) h (fun h => ?_) (fun h => ?_)
    ·
      refine g_aload_n E gdX12_rule_16 rfl 0 rfl ?_
      refine g_get (T := TX12) E fw_X12 0 (wM_0 g ad o) rfl 10 (by decide) w_1476 rfl rfl gdX12_rule_17 ?_
      refine g_bipush E gdX12_rule_20 (by decide) ?_
      refine g_icmp_ne E 28 gdX12_rule_22 (by decide) h (fun h => ?_) (fun h => ?_)
      ·
        refine g_aload_n E gdX12_rule_28 rfl 0 rfl ?_
        refine g_get (T := TX12) E fw_X12 0 (wM_0 g ad o) rfl 8 (by decide) w_1474 rfl rfl gdX12_rule_29 ?_
        refine g_iload_n E gdX12_rule_32 rfl 1 rfl ?_
        obtain ⟨hi10, h⟩ := qIn_of h
        refine g_iald E 5 (wM_5 g ad o) (by decide) hi10 gdX12_rule_33 ?_
        obtain ⟨n11, e_n11, h⟩ := qNm_of h
        refine g_nmi e_n11 ?_
        refine g_if_ge E 43 gdX12_rule_34 (by decide) h (fun h => ?_) (fun h => ?_)
        ·
          refine g_aload_n E gdX12_rule_43 rfl 0 rfl ?_
          refine g_iload_n E gdX12_rule_44 rfl 1 rfl ?_
          obtain ⟨r12, o14, hc13, h⟩ := qB2_of h
          refine g_Vi (r := r12) (As := [iv x1]) (rest := []) (w := wM g ad o14) E (c_X12_reads l g ad o x1 (r12, o14) hc13) okm_X12_reads okw_X12_reads w_1751 rfl (wM_0 g ad o) rfl rfl (Nat.le_of_ble_eq_true rfl) ⟨Nat.le_of_ble_eq_true rfl, Nat.le_of_ble_eq_true rfl⟩ gdX12_rule_45 ?_
          refine g_bipush E gdX12_rule_48 (by decide) ?_
          refine g_icmp_eq E 56 gdX12_rule_50 (by decide) h (fun h => ?_) (fun h => ?_)
          ·
            refine g_aload_n E gdX12_rule_56 rfl 0 rfl ?_
            refine g_get (T := TX12) E fw_X12 0 (wM_0 g ad o14) rfl 11 (by decide) w_1477 rfl rfl gdX12_rule_57 ?_
            refine g_aload_n E gdX12_rule_60 rfl 0 rfl ?_
            refine g_get (T := TX12) E fw_X12 0 (wM_0 g ad o14) rfl 10 (by decide) w_1476 rfl rfl gdX12_rule_61 ?_
            refine g_aload_n E gdX12_rule_64 rfl 0 rfl ?_
            refine g_get (T := TX12) E fw_X12 0 (wM_0 g ad o14) rfl 4 (by decide) w_1470 rfl rfl gdX12_rule_65 ?_
            obtain ⟨hi15, h⟩ := qIn_of h
            obtain ⟨o16, e_o16, h⟩ := qNm_of h
            refine g_iast (ws' := wM g ad o16) E 7 (wM_7 g ad o14) (by decide) hi15 (by rw [e_o16]; exact wM_s7 g ad o14 _ _) gdX12_rule_68 ?_
            refine g_aload_n E gdX12_rule_69 rfl 0 rfl ?_
            refine g_get (T := TX12) E fw_X12 0 (wM_0 g ad o16) rfl 12 (by decide) w_1478 rfl rfl gdX12_rule_70 ?_
            refine g_aload_n E gdX12_rule_73 rfl 0 rfl ?_
            refine g_get (T := TX12) E fw_X12 0 (wM_0 g ad o16) rfl 10 (by decide) w_1476 rfl rfl gdX12_rule_74 ?_
            refine g_iload_n E gdX12_rule_77 rfl 2 rfl ?_
            obtain ⟨hi17, h⟩ := qIn_of h
            obtain ⟨o18, e_o18, h⟩ := qNm_of h
            refine g_iast (ws' := wM g ad o18) E 8 (wM_8 g ad o16) (by decide) hi17 (by rw [e_o18]; exact wM_s8 g ad o16 _ _) gdX12_rule_78 ?_
            refine g_iconst E gdX12_rule_79 ?_
            refine g_istore_n E [(3, iv 0), (0, .ref (ad 0)), (1, iv x1), (2, iv x2)] gdX12_rule_80 rfl (by decide) rfl ?_
            refine g_sub E [1, 0] rfl ?_
            exact j81 o18 0 h
          ·
            refine g_bipush E gdX12_rule_53 (by decide) ?_
            exact g_iret E hQ (by rw [← Option.some.inj h]) (by rw [← Option.some.inj h]) gdX12_rule_55
        ·
          refine g_aload_n E gdX12_rule_37 rfl 0 rfl ?_
          refine g_iconst E gdX12_rule_38 ?_
          obtain ⟨r19, o21, hc20, h⟩ := qB2_of h
          refine g_Vi (r := r19) (As := [iv 1]) (rest := []) (w := wM g ad o21) E (c_X12_meets l g ad o 1 (r19, o21) hc20) okm_X12_meets okw_X12_meets w_1708 rfl (wM_0 g ad o) rfl rfl (Nat.le_of_ble_eq_true rfl) ⟨Nat.le_of_ble_eq_true rfl, Nat.le_of_ble_eq_true rfl⟩ gdX12_rule_39 ?_
          exact g_iret E hQ (by rw [← Option.some.inj h]) (by rw [← Option.some.inj h]) gdX12_rule_42
      ·
        refine g_bipush E gdX12_rule_25 (by decide) ?_
        exact g_iret E hQ (by rw [← Option.some.inj h]) (by rw [← Option.some.inj h]) gdX12_rule_27
    ·
      refine g_sub E [] rfl ?_
      exact j14 o h
