set_option maxRecDepth 200000 in
theorem w_1475 : Cond.fieldLink "CityRoadModel" 25 "CityRoadModel" "texts" "[I" ∈ tb := tb_mem 1475 (by decide +kernel) rfl
set_option maxRecDepth 200000 in
theorem w_2159 : Cond.code yX12_mixMark cX12_mixMark 3 none ∈ tb := tb_mem 2159 (by rfl) rfl
set_option maxRecDepth 200000 in
theorem w_2158 : Cond.instanceMethod yX12_mixMark ∈ tb := tb_mem 2158 (by decide +kernel) rfl
set_option maxRecDepth 200000 in
theorem w_87 : Cond.selects "CityRoadModel" yX12_mixMark yX12_mixMark ∈ tb := tb_mem 87 (by decide +kernel) rfl
set_option maxRecDepth 200000 in
theorem w_2156 : Cond.methodLink "CityRoadModel" 457 yX12_mixMark ∈ tb := tb_mem 2156 (by decide +kernel) rfl
set_option maxRecDepth 200000 in
theorem w_1858 : Cond.code yX12_personTells cX12_personTells 3 (some .int) ∈ tb := tb_mem 1858 (by rfl) rfl
set_option maxRecDepth 200000 in
theorem w_1857 : Cond.instanceMethod yX12_personTells ∈ tb := tb_mem 1857 (by decide +kernel) rfl
set_option maxRecDepth 200000 in
theorem w_52 : Cond.selects "CityRoadModel" yX12_personTells yX12_personTells ∈ tb := tb_mem 52 (by decide +kernel) rfl
set_option maxRecDepth 200000 in
theorem w_1855 : Cond.methodLink "CityRoadModel" 299 yX12_personTells ∈ tb := tb_mem 1855 (by decide +kernel) rfl
set_option maxRecDepth 200000 in
theorem w_1818 : Cond.code yX12_valueOf cX12_valueOf 5 (some .int) ∈ tb := tb_mem 1818 (by rfl) rfl
set_option maxRecDepth 200000 in
theorem w_1817 : Cond.instanceMethod yX12_valueOf ∈ tb := tb_mem 1817 (by decide +kernel) rfl
set_option maxRecDepth 200000 in
theorem w_46 : Cond.selects "CityRoadModel" yX12_valueOf yX12_valueOf ∈ tb := tb_mem 46 (by decide +kernel) rfl
set_option maxRecDepth 200000 in
theorem w_1815 : Cond.methodLink "CityRoadModel" 277 yX12_valueOf ∈ tb := tb_mem 1815 (by decide +kernel) rfl
set_option maxRecDepth 200000 in
theorem w_1830 : Cond.code yX12_houseTells cX12_houseTells 3 (some .int) ∈ tb := tb_mem 1830 (by rfl) rfl
set_option maxRecDepth 200000 in
theorem w_1829 : Cond.instanceMethod yX12_houseTells ∈ tb := tb_mem 1829 (by decide +kernel) rfl
set_option maxRecDepth 200000 in
theorem w_47 : Cond.selects "CityRoadModel" yX12_houseTells yX12_houseTells ∈ tb := tb_mem 47 (by decide +kernel) rfl
set_option maxRecDepth 200000 in
theorem w_1827 : Cond.methodLink "CityRoadModel" 287 yX12_houseTells ∈ tb := tb_mem 1827 (by decide +kernel) rfl
set_option maxRecDepth 200000 in
theorem w_2150 : Cond.constantLong "CityRoadModel" 455 (17) ∈ tb := tb_mem 2150 (by decide +kernel) rfl
set_option maxRecDepth 200000 in
theorem w_1518 : Cond.fieldLink "CityRoadModel" 371 "CityRoadModel" "hears" "I" ∈ tb := tb_mem 1518 (by decide +kernel) rfl
set_option maxRecDepth 200000 in
theorem w_1519 : Cond.fieldLink "CityRoadModel" 138 "CityRoadModel" "hearBy" "[I" ∈ tb := tb_mem 1519 (by decide +kernel) rfl
set_option maxRecDepth 200000 in
theorem w_1520 : Cond.fieldLink "CityRoadModel" 141 "CityRoadModel" "hearOf" "[I" ∈ tb := tb_mem 1520 (by decide +kernel) rfl
set_option maxRecDepth 200000 in
theorem w_1521 : Cond.fieldLink "CityRoadModel" 144 "CityRoadModel" "hearDay" "[I" ∈ tb := tb_mem 1521 (by decide +kernel) rfl
set_option maxRecDepth 200000 in
theorem w_1996 : Cond.code yX12_heard cX12_heard 5 (some .int) ∈ tb := tb_mem 1996 (by rfl) rfl
set_option maxRecDepth 200000 in
theorem w_1995 : Cond.instanceMethod yX12_heard ∈ tb := tb_mem 1995 (by decide +kernel) rfl
set_option maxRecDepth 200000 in
theorem w_68 : Cond.selects "CityRoadModel" yX12_heard yX12_heard ∈ tb := tb_mem 68 (by decide +kernel) rfl
set_option maxRecDepth 200000 in
theorem w_1993 : Cond.methodLink "CityRoadModel" 374 yX12_heard ∈ tb := tb_mem 1993 (by decide +kernel) rfl
set_option maxRecDepth 200000 in
theorem w_2004 : Cond.code yX12_knew cX12_knew 5 (some .boolean) ∈ tb := tb_mem 2004 (by rfl) rfl
set_option maxRecDepth 200000 in
theorem w_2003 : Cond.instanceMethod yX12_knew ∈ tb := tb_mem 2003 (by decide +kernel) rfl
set_option maxRecDepth 200000 in
theorem w_69 : Cond.selects "CityRoadModel" yX12_knew yX12_knew ∈ tb := tb_mem 69 (by decide +kernel) rfl
set_option maxRecDepth 200000 in
theorem w_2001 : Cond.methodLink "CityRoadModel" 377 yX12_knew ∈ tb := tb_mem 2001 (by decide +kernel) rfl
set_option maxRecDepth 200000 in
theorem w_1528 : Cond.fieldLink "CityRoadModel" 165 "CityRoadModel" "steps" "[I" ∈ tb := tb_mem 1528 (by decide +kernel) rfl
set_option maxRecDepth 200000 in
theorem w_1882 : Cond.code yX12_beside cX12_beside 2 (some .int) ∈ tb := tb_mem 1882 (by rfl) rfl
set_option maxRecDepth 200000 in
theorem w_1881 : Cond.static yX12_beside ∈ tb := tb_mem 1881 (by decide +kernel) rfl
set_option maxRecDepth 200000 in
theorem w_1880 : Cond.methodLink "CityRoadModel" 315 yX12_beside ∈ tb := tb_mem 1880 (by decide +kernel) rfl
set_option maxRecDepth 200000 in
theorem w_1469 : Cond.fieldLink "CityRoadModel" 364 "CityRoadModel" "cellSet" "J" ∈ tb := tb_mem 1469 (by decide +kernel) rfl
set_option maxRecDepth 200000 in
theorem w_1529 : Cond.fieldLink "CityRoadModel" 168 "CityRoadModel" "walkers" "[I" ∈ tb := tb_mem 1529 (by decide +kernel) rfl
set_option maxRecDepth 200000 in
theorem w_2029 : Cond.constantLong "CityRoadModel" 395 (-1) ∈ tb := tb_mem 2029 (by decide +kernel) rfl
set_option maxRecDepth 200000 in
theorem w_2028 : Cond.code yX12_setSteps cX12_setSteps 8 none ∈ tb := tb_mem 2028 (by rfl) rfl
set_option maxRecDepth 200000 in
theorem w_2027 : Cond.instanceMethod yX12_setSteps ∈ tb := tb_mem 2027 (by decide +kernel) rfl
set_option maxRecDepth 200000 in
theorem w_73 : Cond.selects "CityRoadModel" yX12_setSteps yX12_setSteps ∈ tb := tb_mem 73 (by decide +kernel) rfl
set_option maxRecDepth 200000 in
theorem w_2025 : Cond.methodLink "CityRoadModel" 391 yX12_setSteps ∈ tb := tb_mem 2025 (by decide +kernel) rfl
theorem gdX12_digest_351 : decode cX12_digest 351 = .ok (.aload_n 0, 1) := by decide +kernel
theorem gdX12_digest_352 : decode cX12_digest 352 = .ok (.getfield 448, 3) := by decide +kernel
theorem gdX12_digest_355 : decode cX12_digest 355 = .ok (.lreturn, 1) := by decide +kernel
theorem gdX12_digest_345 : decode cX12_digest 345 = .ok (.iinc 1 1, 3) := by decide +kernel
theorem gdX12_digest_348 : decode cX12_digest 348 = .ok (.goto (-64), 3) := by decide +kernel
theorem gdX12_digest_314 : decode cX12_digest 314 = .ok (.iload_n 2, 1) := by decide +kernel
theorem gdX12_digest_315 : decode cX12_digest 315 = .ok (.aload_n 0, 1) := by decide +kernel
theorem gdX12_digest_316 : decode cX12_digest 316 = .ok (.getfield 22, 3) := by decide +kernel
theorem gdX12_digest_319 : decode cX12_digest 319 = .ok (.iload_n 1, 1) := by decide +kernel
theorem gdX12_digest_320 : decode cX12_digest 320 = .ok (.iaload, 1) := by decide +kernel
theorem gdX12_digest_321 : decode cX12_digest 321 = .ok (.if_icmp .ge 24, 3) := by decide +kernel
theorem gdX12_digest_324 : decode cX12_digest 324 = .ok (.aload_n 0, 1) := by decide +kernel
theorem gdX12_digest_325 : decode cX12_digest 325 = .ok (.aload_n 0, 1) := by decide +kernel
theorem gdX12_digest_326 : decode cX12_digest 326 = .ok (.getfield 25, 3) := by decide +kernel
theorem gdX12_digest_329 : decode cX12_digest 329 = .ok (.bipush 40, 2) := by decide +kernel
theorem gdX12_digest_331 : decode cX12_digest 331 = .ok (.iload_n 1, 1) := by decide +kernel
theorem gdX12_digest_332 : decode cX12_digest 332 = .ok (.imul, 1) := by decide +kernel
theorem gdX12_digest_333 : decode cX12_digest 333 = .ok (.iload_n 2, 1) := by decide +kernel
theorem gdX12_digest_334 : decode cX12_digest 334 = .ok (.iadd, 1) := by decide +kernel
theorem gdX12_digest_335 : decode cX12_digest 335 = .ok (.iaload, 1) := by decide +kernel
theorem gdX12_digest_336 : decode cX12_digest 336 = .ok (.invokevirtual 451, 3) := by decide +kernel
theorem gdX12_digest_339 : decode cX12_digest 339 = .ok (.iinc 2 1, 3) := by decide +kernel
theorem gdX12_digest_342 : decode cX12_digest 342 = .ok (.goto (-28), 3) := by decide +kernel
theorem gdX12_digest_309 : decode cX12_digest 309 = .ok (.invokevirtual 451, 3) := by decide +kernel
theorem gdX12_digest_312 : decode cX12_digest 312 = .ok (.iconst 0, 1) := by decide +kernel
theorem gdX12_digest_313 : decode cX12_digest 313 = .ok (.istore_n 2, 1) := by decide +kernel
theorem gdX12_digest_284 : decode cX12_digest 284 = .ok (.iload_n 1, 1) := by decide +kernel
theorem gdX12_digest_285 : decode cX12_digest 285 = .ok (.iconst 4, 1) := by decide +kernel
theorem gdX12_digest_286 : decode cX12_digest 286 = .ok (.if_icmp .ge 65, 3) := by decide +kernel
theorem gdX12_digest_289 : decode cX12_digest 289 = .ok (.aload_n 0, 1) := by decide +kernel
theorem gdX12_digest_290 : decode cX12_digest 290 = .ok (.aload_n 0, 1) := by decide +kernel
theorem gdX12_digest_291 : decode cX12_digest 291 = .ok (.getfield 22, 3) := by decide +kernel
theorem gdX12_digest_294 : decode cX12_digest 294 = .ok (.iload_n 1, 1) := by decide +kernel
theorem gdX12_digest_295 : decode cX12_digest 295 = .ok (.iaload, 1) := by decide +kernel
theorem gdX12_digest_296 : decode cX12_digest 296 = .ok (.ifCond .ge 7, 3) := by decide +kernel
theorem gdX12_digest_303 : decode cX12_digest 303 = .ok (.aload_n 0, 1) := by decide +kernel
theorem gdX12_digest_304 : decode cX12_digest 304 = .ok (.getfield 22, 3) := by decide +kernel
theorem gdX12_digest_307 : decode cX12_digest 307 = .ok (.iload_n 1, 1) := by decide +kernel
theorem gdX12_digest_308 : decode cX12_digest 308 = .ok (.iaload, 1) := by decide +kernel
theorem gdX12_digest_299 : decode cX12_digest 299 = .ok (.iconst (-1), 1) := by decide +kernel
theorem gdX12_digest_300 : decode cX12_digest 300 = .ok (.goto 9, 3) := by decide +kernel
theorem gdX12_digest_282 : decode cX12_digest 282 = .ok (.iconst 0, 1) := by decide +kernel
theorem gdX12_digest_283 : decode cX12_digest 283 = .ok (.istore_n 1, 1) := by decide +kernel
theorem gdX12_digest_276 : decode cX12_digest 276 = .ok (.iinc 1 1, 3) := by decide +kernel
theorem gdX12_digest_279 : decode cX12_digest 279 = .ok (.goto (-65), 3) := by decide +kernel
theorem gdX12_digest_245 : decode cX12_digest 245 = .ok (.iload_n 2, 1) := by decide +kernel
theorem gdX12_digest_246 : decode cX12_digest 246 = .ok (.aload_n 0, 1) := by decide +kernel
theorem gdX12_digest_247 : decode cX12_digest 247 = .ok (.getfield 13, 3) := by decide +kernel
theorem gdX12_digest_250 : decode cX12_digest 250 = .ok (.iload_n 1, 1) := by decide +kernel
theorem gdX12_digest_251 : decode cX12_digest 251 = .ok (.iaload, 1) := by decide +kernel
theorem gdX12_digest_252 : decode cX12_digest 252 = .ok (.if_icmp .ge 24, 3) := by decide +kernel
theorem gdX12_digest_255 : decode cX12_digest 255 = .ok (.aload_n 0, 1) := by decide +kernel
theorem gdX12_digest_256 : decode cX12_digest 256 = .ok (.aload_n 0, 1) := by decide +kernel
theorem gdX12_digest_257 : decode cX12_digest 257 = .ok (.getfield 16, 3) := by decide +kernel
theorem gdX12_digest_260 : decode cX12_digest 260 = .ok (.bipush 40, 2) := by decide +kernel
theorem gdX12_digest_262 : decode cX12_digest 262 = .ok (.iload_n 1, 1) := by decide +kernel
theorem gdX12_digest_263 : decode cX12_digest 263 = .ok (.imul, 1) := by decide +kernel
theorem gdX12_digest_264 : decode cX12_digest 264 = .ok (.iload_n 2, 1) := by decide +kernel
theorem gdX12_digest_265 : decode cX12_digest 265 = .ok (.iadd, 1) := by decide +kernel
theorem gdX12_digest_266 : decode cX12_digest 266 = .ok (.iaload, 1) := by decide +kernel
theorem gdX12_digest_267 : decode cX12_digest 267 = .ok (.invokevirtual 451, 3) := by decide +kernel
theorem gdX12_digest_270 : decode cX12_digest 270 = .ok (.iinc 2 1, 3) := by decide +kernel
theorem gdX12_digest_273 : decode cX12_digest 273 = .ok (.goto (-28), 3) := by decide +kernel
theorem gdX12_digest_240 : decode cX12_digest 240 = .ok (.invokevirtual 451, 3) := by decide +kernel
theorem gdX12_digest_243 : decode cX12_digest 243 = .ok (.iconst 0, 1) := by decide +kernel
theorem gdX12_digest_244 : decode cX12_digest 244 = .ok (.istore_n 2, 1) := by decide +kernel
theorem gdX12_digest_214 : decode cX12_digest 214 = .ok (.iload_n 1, 1) := by decide +kernel
theorem gdX12_digest_215 : decode cX12_digest 215 = .ok (.bipush 6, 2) := by decide +kernel
theorem gdX12_digest_217 : decode cX12_digest 217 = .ok (.if_icmp .ge 65, 3) := by decide +kernel
theorem gdX12_digest_220 : decode cX12_digest 220 = .ok (.aload_n 0, 1) := by decide +kernel
theorem gdX12_digest_221 : decode cX12_digest 221 = .ok (.aload_n 0, 1) := by decide +kernel
theorem gdX12_digest_222 : decode cX12_digest 222 = .ok (.getfield 13, 3) := by decide +kernel
theorem gdX12_digest_225 : decode cX12_digest 225 = .ok (.iload_n 1, 1) := by decide +kernel
theorem gdX12_digest_226 : decode cX12_digest 226 = .ok (.iaload, 1) := by decide +kernel
theorem gdX12_digest_227 : decode cX12_digest 227 = .ok (.ifCond .ge 7, 3) := by decide +kernel
theorem gdX12_digest_234 : decode cX12_digest 234 = .ok (.aload_n 0, 1) := by decide +kernel
theorem gdX12_digest_235 : decode cX12_digest 235 = .ok (.getfield 13, 3) := by decide +kernel
theorem gdX12_digest_238 : decode cX12_digest 238 = .ok (.iload_n 1, 1) := by decide +kernel
theorem gdX12_digest_239 : decode cX12_digest 239 = .ok (.iaload, 1) := by decide +kernel
theorem gdX12_digest_230 : decode cX12_digest 230 = .ok (.iconst (-1), 1) := by decide +kernel
theorem gdX12_digest_231 : decode cX12_digest 231 = .ok (.goto 9, 3) := by decide +kernel
theorem gdX12_digest_212 : decode cX12_digest 212 = .ok (.iconst 0, 1) := by decide +kernel
theorem gdX12_digest_213 : decode cX12_digest 213 = .ok (.istore_n 1, 1) := by decide +kernel
theorem gdX12_digest_193 : decode cX12_digest 193 = .ok (.iload_n 1, 1) := by decide +kernel
theorem gdX12_digest_194 : decode cX12_digest 194 = .ok (.aload_n 0, 1) := by decide +kernel
theorem gdX12_digest_195 : decode cX12_digest 195 = .ok (.getfield 305, 3) := by decide +kernel
theorem gdX12_digest_198 : decode cX12_digest 198 = .ok (.if_icmp .ge 14, 3) := by decide +kernel
theorem gdX12_digest_201 : decode cX12_digest 201 = .ok (.aload_n 0, 1) := by decide +kernel
theorem gdX12_digest_202 : decode cX12_digest 202 = .ok (.iload_n 1, 1) := by decide +kernel
theorem gdX12_digest_203 : decode cX12_digest 203 = .ok (.invokevirtual 457, 3) := by decide +kernel
theorem gdX12_digest_206 : decode cX12_digest 206 = .ok (.iinc 1 1, 3) := by decide +kernel
theorem gdX12_digest_209 : decode cX12_digest 209 = .ok (.goto (-16), 3) := by decide +kernel
theorem gdX12_digest_191 : decode cX12_digest 191 = .ok (.iconst 0, 1) := by decide +kernel
theorem gdX12_digest_192 : decode cX12_digest 192 = .ok (.istore_n 1, 1) := by decide +kernel
theorem gdX12_digest_157 : decode cX12_digest 157 = .ok (.iload_n 1, 1) := by decide +kernel
theorem gdX12_digest_158 : decode cX12_digest 158 = .ok (.aload_n 0, 1) := by decide +kernel
theorem gdX12_digest_159 : decode cX12_digest 159 = .ok (.getfield 241, 3) := by decide +kernel
theorem gdX12_digest_162 : decode cX12_digest 162 = .ok (.if_icmp .ge 29, 3) := by decide +kernel
theorem gdX12_digest_165 : decode cX12_digest 165 = .ok (.aload_n 0, 1) := by decide +kernel
theorem gdX12_digest_166 : decode cX12_digest 166 = .ok (.aload_n 0, 1) := by decide +kernel
theorem gdX12_digest_167 : decode cX12_digest 167 = .ok (.getfield 28, 3) := by decide +kernel
theorem gdX12_digest_170 : decode cX12_digest 170 = .ok (.iload_n 1, 1) := by decide +kernel
theorem gdX12_digest_171 : decode cX12_digest 171 = .ok (.iaload, 1) := by decide +kernel
theorem gdX12_digest_172 : decode cX12_digest 172 = .ok (.invokevirtual 451, 3) := by decide +kernel
theorem gdX12_digest_175 : decode cX12_digest 175 = .ok (.aload_n 0, 1) := by decide +kernel
theorem gdX12_digest_176 : decode cX12_digest 176 = .ok (.aload_n 0, 1) := by decide +kernel
theorem gdX12_digest_177 : decode cX12_digest 177 = .ok (.getfield 31, 3) := by decide +kernel
theorem gdX12_digest_180 : decode cX12_digest 180 = .ok (.iload_n 1, 1) := by decide +kernel
theorem gdX12_digest_181 : decode cX12_digest 181 = .ok (.iaload, 1) := by decide +kernel
theorem gdX12_digest_182 : decode cX12_digest 182 = .ok (.invokevirtual 451, 3) := by decide +kernel
theorem gdX12_digest_185 : decode cX12_digest 185 = .ok (.iinc 1 1, 3) := by decide +kernel
theorem gdX12_digest_188 : decode cX12_digest 188 = .ok (.goto (-31), 3) := by decide +kernel
theorem gdX12_digest_155 : decode cX12_digest 155 = .ok (.iconst 0, 1) := by decide +kernel
theorem gdX12_digest_156 : decode cX12_digest 156 = .ok (.istore_n 1, 1) := by decide +kernel
theorem gdX12_digest_149 : decode cX12_digest 149 = .ok (.iinc 1 1, 3) := by decide +kernel
theorem gdX12_digest_152 : decode cX12_digest 152 = .ok (.goto (-34), 3) := by decide +kernel
theorem gdX12_digest_128 : decode cX12_digest 128 = .ok (.iload_n 2, 1) := by decide +kernel
theorem gdX12_digest_129 : decode cX12_digest 129 = .ok (.iconst 3, 1) := by decide +kernel
theorem gdX12_digest_130 : decode cX12_digest 130 = .ok (.if_icmp .gt 19, 3) := by decide +kernel
theorem gdX12_digest_133 : decode cX12_digest 133 = .ok (.aload_n 0, 1) := by decide +kernel
theorem gdX12_digest_134 : decode cX12_digest 134 = .ok (.aload_n 0, 1) := by decide +kernel
theorem gdX12_digest_135 : decode cX12_digest 135 = .ok (.iload_n 1, 1) := by decide +kernel
theorem gdX12_digest_136 : decode cX12_digest 136 = .ok (.iload_n 2, 1) := by decide +kernel
theorem gdX12_digest_137 : decode cX12_digest 137 = .ok (.invokevirtual 299, 3) := by decide +kernel
theorem gdX12_digest_140 : decode cX12_digest 140 = .ok (.invokevirtual 451, 3) := by decide +kernel
theorem gdX12_digest_143 : decode cX12_digest 143 = .ok (.iinc 2 1, 3) := by decide +kernel
theorem gdX12_digest_146 : decode cX12_digest 146 = .ok (.goto (-18), 3) := by decide +kernel
theorem gdX12_digest_118 : decode cX12_digest 118 = .ok (.iload_n 1, 1) := by decide +kernel
theorem gdX12_digest_119 : decode cX12_digest 119 = .ok (.aload_n 0, 1) := by decide +kernel
theorem gdX12_digest_120 : decode cX12_digest 120 = .ok (.getfield 281, 3) := by decide +kernel
theorem gdX12_digest_123 : decode cX12_digest 123 = .ok (.if_icmp .ge 32, 3) := by decide +kernel
theorem gdX12_digest_126 : decode cX12_digest 126 = .ok (.iconst 0, 1) := by decide +kernel
theorem gdX12_digest_127 : decode cX12_digest 127 = .ok (.istore_n 2, 1) := by decide +kernel
theorem gdX12_digest_116 : decode cX12_digest 116 = .ok (.iconst 0, 1) := by decide +kernel
theorem gdX12_digest_117 : decode cX12_digest 117 = .ok (.istore_n 1, 1) := by decide +kernel
theorem gdX12_digest_97 : decode cX12_digest 97 = .ok (.aload_n 0, 1) := by decide +kernel
theorem gdX12_digest_98 : decode cX12_digest 98 = .ok (.aload_n 0, 1) := by decide +kernel
theorem gdX12_digest_99 : decode cX12_digest 99 = .ok (.iload_n 1, 1) := by decide +kernel
theorem gdX12_digest_100 : decode cX12_digest 100 = .ok (.aload_n 0, 1) := by decide +kernel
theorem gdX12_digest_101 : decode cX12_digest 101 = .ok (.getfield 229, 3) := by decide +kernel
theorem gdX12_digest_104 : decode cX12_digest 104 = .ok (.invokevirtual 277, 3) := by decide +kernel
theorem gdX12_digest_107 : decode cX12_digest 107 = .ok (.invokevirtual 451, 3) := by decide +kernel
theorem gdX12_digest_110 : decode cX12_digest 110 = .ok (.iinc 1 1, 3) := by decide +kernel
theorem gdX12_digest_113 : decode cX12_digest 113 = .ok (.goto (-47), 3) := by decide +kernel
theorem gdX12_digest_76 : decode cX12_digest 76 = .ok (.iload_n 2, 1) := by decide +kernel
theorem gdX12_digest_77 : decode cX12_digest 77 = .ok (.iconst 5, 1) := by decide +kernel
theorem gdX12_digest_78 : decode cX12_digest 78 = .ok (.if_icmp .gt 19, 3) := by decide +kernel
theorem gdX12_digest_81 : decode cX12_digest 81 = .ok (.aload_n 0, 1) := by decide +kernel
theorem gdX12_digest_82 : decode cX12_digest 82 = .ok (.aload_n 0, 1) := by decide +kernel
theorem gdX12_digest_83 : decode cX12_digest 83 = .ok (.iload_n 1, 1) := by decide +kernel
theorem gdX12_digest_84 : decode cX12_digest 84 = .ok (.iload_n 2, 1) := by decide +kernel
theorem gdX12_digest_85 : decode cX12_digest 85 = .ok (.invokevirtual 287, 3) := by decide +kernel
theorem gdX12_digest_88 : decode cX12_digest 88 = .ok (.invokevirtual 451, 3) := by decide +kernel
theorem gdX12_digest_91 : decode cX12_digest 91 = .ok (.iinc 2 1, 3) := by decide +kernel
theorem gdX12_digest_94 : decode cX12_digest 94 = .ok (.goto (-18), 3) := by decide +kernel
theorem gdX12_digest_66 : decode cX12_digest 66 = .ok (.iload_n 1, 1) := by decide +kernel
theorem gdX12_digest_67 : decode cX12_digest 67 = .ok (.aload_n 0, 1) := by decide +kernel
theorem gdX12_digest_68 : decode cX12_digest 68 = .ok (.getfield 254, 3) := by decide +kernel
theorem gdX12_digest_71 : decode cX12_digest 71 = .ok (.if_icmp .ge 45, 3) := by decide +kernel
theorem gdX12_digest_74 : decode cX12_digest 74 = .ok (.iconst 0, 1) := by decide +kernel
theorem gdX12_digest_75 : decode cX12_digest 75 = .ok (.istore_n 2, 1) := by decide +kernel
theorem gdX12_digest_64 : decode cX12_digest 64 = .ok (.iconst 0, 1) := by decide +kernel
theorem gdX12_digest_65 : decode cX12_digest 65 = .ok (.istore_n 1, 1) := by decide +kernel
theorem gdX12_digest_32 : decode cX12_digest 32 = .ok (.iload_n 1, 1) := by decide +kernel
theorem gdX12_digest_33 : decode cX12_digest 33 = .ok (.bipush 64, 2) := by decide +kernel
theorem gdX12_digest_35 : decode cX12_digest 35 = .ok (.if_icmp .ge 29, 3) := by decide +kernel
theorem gdX12_digest_38 : decode cX12_digest 38 = .ok (.aload_n 0, 1) := by decide +kernel
theorem gdX12_digest_39 : decode cX12_digest 39 = .ok (.aload_n 0, 1) := by decide +kernel
theorem gdX12_digest_40 : decode cX12_digest 40 = .ok (.getfield 40, 3) := by decide +kernel
theorem gdX12_digest_43 : decode cX12_digest 43 = .ok (.iload_n 1, 1) := by decide +kernel
theorem gdX12_digest_44 : decode cX12_digest 44 = .ok (.iaload, 1) := by decide +kernel
theorem gdX12_digest_45 : decode cX12_digest 45 = .ok (.invokevirtual 451, 3) := by decide +kernel
theorem gdX12_digest_48 : decode cX12_digest 48 = .ok (.aload_n 0, 1) := by decide +kernel
theorem gdX12_digest_49 : decode cX12_digest 49 = .ok (.aload_n 0, 1) := by decide +kernel
theorem gdX12_digest_50 : decode cX12_digest 50 = .ok (.getfield 43, 3) := by decide +kernel
theorem gdX12_digest_53 : decode cX12_digest 53 = .ok (.iload_n 1, 1) := by decide +kernel
theorem gdX12_digest_54 : decode cX12_digest 54 = .ok (.iaload, 1) := by decide +kernel
theorem gdX12_digest_55 : decode cX12_digest 55 = .ok (.invokevirtual 451, 3) := by decide +kernel
theorem gdX12_digest_58 : decode cX12_digest 58 = .ok (.iinc 1 1, 3) := by decide +kernel
theorem gdX12_digest_61 : decode cX12_digest 61 = .ok (.goto (-29), 3) := by decide +kernel
theorem gdX12_digest_30 : decode cX12_digest 30 = .ok (.iconst 0, 1) := by decide +kernel
theorem gdX12_digest_31 : decode cX12_digest 31 = .ok (.istore_n 1, 1) := by decide +kernel
theorem gdX12_digest_9 : decode cX12_digest 9 = .ok (.iload_n 1, 1) := by decide +kernel
theorem gdX12_digest_10 : decode cX12_digest 10 = .ok (.bipush 9, 2) := by decide +kernel
theorem gdX12_digest_12 : decode cX12_digest 12 = .ok (.if_icmp .gt 18, 3) := by decide +kernel
theorem gdX12_digest_15 : decode cX12_digest 15 = .ok (.aload_n 0, 1) := by decide +kernel
theorem gdX12_digest_16 : decode cX12_digest 16 = .ok (.aload_n 0, 1) := by decide +kernel
theorem gdX12_digest_17 : decode cX12_digest 17 = .ok (.iload_n 1, 1) := by decide +kernel
theorem gdX12_digest_18 : decode cX12_digest 18 = .ok (.invokevirtual 443, 3) := by decide +kernel
theorem gdX12_digest_21 : decode cX12_digest 21 = .ok (.invokevirtual 451, 3) := by decide +kernel
theorem gdX12_digest_24 : decode cX12_digest 24 = .ok (.iinc 1 1, 3) := by decide +kernel
theorem gdX12_digest_27 : decode cX12_digest 27 = .ok (.goto (-18), 3) := by decide +kernel
theorem gdX12_digest_0 : decode cX12_digest 0 = .ok (.aload_n 0, 1) := by decide +kernel
theorem gdX12_digest_1 : decode cX12_digest 1 = .ok (.ldc2_w 455, 3) := by decide +kernel
theorem gdX12_digest_4 : decode cX12_digest 4 = .ok (.putfield 448, 3) := by decide +kernel
theorem gdX12_digest_7 : decode cX12_digest 7 = .ok (.iconst 0, 1) := by decide +kernel
theorem gdX12_digest_8 : decode cX12_digest 8 = .ok (.istore_n 1, 1) := by decide +kernel
theorem gdX12_heard_55 : decode cX12_heard 55 = .ok (.iload_n 3, 1) := by decide +kernel
theorem gdX12_heard_56 : decode cX12_heard 56 = .ok (.ireturn, 1) := by decide +kernel
theorem gdX12_heard_48 : decode cX12_heard 48 = .ok (.istore_n 3, 1) := by decide +kernel
theorem gdX12_heard_49 : decode cX12_heard 49 = .ok (.iinc 4 1, 3) := by decide +kernel
theorem gdX12_heard_52 : decode cX12_heard 52 = .ok (.goto (-46), 3) := by decide +kernel
theorem gdX12_heard_47 : decode cX12_heard 47 = .ok (.iload_n 3, 1) := by decide +kernel
theorem gdX12_heard_6 : decode cX12_heard 6 = .ok (.iload 4, 2) := by decide +kernel
theorem gdX12_heard_8 : decode cX12_heard 8 = .ok (.aload_n 0, 1) := by decide +kernel
theorem gdX12_heard_9 : decode cX12_heard 9 = .ok (.getfield 371, 3) := by decide +kernel
theorem gdX12_heard_12 : decode cX12_heard 12 = .ok (.if_icmp .ge 43, 3) := by decide +kernel
theorem gdX12_heard_15 : decode cX12_heard 15 = .ok (.aload_n 0, 1) := by decide +kernel
theorem gdX12_heard_16 : decode cX12_heard 16 = .ok (.getfield 138, 3) := by decide +kernel
theorem gdX12_heard_19 : decode cX12_heard 19 = .ok (.iload 4, 2) := by decide +kernel
theorem gdX12_heard_21 : decode cX12_heard 21 = .ok (.iaload, 1) := by decide +kernel
theorem gdX12_heard_22 : decode cX12_heard 22 = .ok (.iload_n 1, 1) := by decide +kernel
theorem gdX12_heard_23 : decode cX12_heard 23 = .ok (.if_icmp .ne 24, 3) := by decide +kernel
theorem gdX12_heard_26 : decode cX12_heard 26 = .ok (.aload_n 0, 1) := by decide +kernel
theorem gdX12_heard_27 : decode cX12_heard 27 = .ok (.getfield 141, 3) := by decide +kernel
theorem gdX12_heard_30 : decode cX12_heard 30 = .ok (.iload 4, 2) := by decide +kernel
theorem gdX12_heard_32 : decode cX12_heard 32 = .ok (.iaload, 1) := by decide +kernel
theorem gdX12_heard_33 : decode cX12_heard 33 = .ok (.iload_n 2, 1) := by decide +kernel
theorem gdX12_heard_34 : decode cX12_heard 34 = .ok (.if_icmp .ne 13, 3) := by decide +kernel
theorem gdX12_heard_37 : decode cX12_heard 37 = .ok (.aload_n 0, 1) := by decide +kernel
theorem gdX12_heard_38 : decode cX12_heard 38 = .ok (.getfield 144, 3) := by decide +kernel
theorem gdX12_heard_41 : decode cX12_heard 41 = .ok (.iload 4, 2) := by decide +kernel
theorem gdX12_heard_43 : decode cX12_heard 43 = .ok (.iaload, 1) := by decide +kernel
theorem gdX12_heard_44 : decode cX12_heard 44 = .ok (.goto 4, 3) := by decide +kernel
theorem gdX12_heard_0 : decode cX12_heard 0 = .ok (.bipush (-9), 2) := by decide +kernel
theorem gdX12_heard_2 : decode cX12_heard 2 = .ok (.istore_n 3, 1) := by decide +kernel
theorem gdX12_heard_3 : decode cX12_heard 3 = .ok (.iconst 0, 1) := by decide +kernel
theorem gdX12_heard_4 : decode cX12_heard 4 = .ok (.istore 4, 2) := by decide +kernel
theorem gdX12_knew_24 : decode cX12_knew 24 = .ok (.ireturn, 1) := by decide +kernel
theorem gdX12_knew_23 : decode cX12_knew 23 = .ok (.iconst 0, 1) := by decide +kernel
theorem gdX12_knew_0 : decode cX12_knew 0 = .ok (.aload_n 0, 1) := by decide +kernel
theorem gdX12_knew_1 : decode cX12_knew 1 = .ok (.iload_n 1, 1) := by decide +kernel
theorem gdX12_knew_2 : decode cX12_knew 2 = .ok (.iload_n 2, 1) := by decide +kernel
theorem gdX12_knew_3 : decode cX12_knew 3 = .ok (.invokevirtual 374, 3) := by decide +kernel
theorem gdX12_knew_6 : decode cX12_knew 6 = .ok (.istore 4, 2) := by decide +kernel
theorem gdX12_knew_8 : decode cX12_knew 8 = .ok (.iload 4, 2) := by decide +kernel
theorem gdX12_knew_10 : decode cX12_knew 10 = .ok (.ifCond .lt 13, 3) := by decide +kernel
theorem gdX12_knew_13 : decode cX12_knew 13 = .ok (.iload 4, 2) := by decide +kernel
theorem gdX12_knew_15 : decode cX12_knew 15 = .ok (.iload_n 3, 1) := by decide +kernel
theorem gdX12_knew_16 : decode cX12_knew 16 = .ok (.if_icmp .gt 7, 3) := by decide +kernel
theorem gdX12_knew_19 : decode cX12_knew 19 = .ok (.iconst 1, 1) := by decide +kernel
theorem gdX12_knew_20 : decode cX12_knew 20 = .ok (.goto 4, 3) := by decide +kernel
theorem gdX12_early_233 : decode cX12_early 233 = .ok (.bipush 100, 2) := by decide +kernel
theorem gdX12_early_235 : decode cX12_early 235 = .ok (.iload_n 3, 1) := by decide +kernel
theorem gdX12_early_236 : decode cX12_early 236 = .ok (.imul, 1) := by decide +kernel
theorem gdX12_early_237 : decode cX12_early 237 = .ok (.iload 4, 2) := by decide +kernel
theorem gdX12_early_239 : decode cX12_early 239 = .ok (.iadd, 1) := by decide +kernel
theorem gdX12_early_240 : decode cX12_early 240 = .ok (.ireturn, 1) := by decide +kernel
theorem gdX12_early_227 : decode cX12_early 227 = .ok (.iinc 5 1, 3) := by decide +kernel
theorem gdX12_early_230 : decode cX12_early 230 = .ok (.goto (-210), 3) := by decide +kernel
theorem gdX12_early_224 : decode cX12_early 224 = .ok (.iadd, 1) := by decide +kernel
theorem gdX12_early_225 : decode cX12_early 225 = .ok (.istore 4, 2) := by decide +kernel
theorem gdX12_early_223 : decode cX12_early 223 = .ok (.iconst 0, 1) := by decide +kernel
theorem gdX12_early_205 : decode cX12_early 205 = .ok (.iadd, 1) := by decide +kernel
theorem gdX12_early_206 : decode cX12_early 206 = .ok (.istore_n 3, 1) := by decide +kernel
theorem gdX12_early_207 : decode cX12_early 207 = .ok (.iload 4, 2) := by decide +kernel
theorem gdX12_early_209 : decode cX12_early 209 = .ok (.iload 8, 2) := by decide +kernel
theorem gdX12_early_211 : decode cX12_early 211 = .ok (.ifCond .ne 12, 3) := by decide +kernel
theorem gdX12_early_214 : decode cX12_early 214 = .ok (.iload 7, 2) := by decide +kernel
theorem gdX12_early_216 : decode cX12_early 216 = .ok (.ifCond .eq 7, 3) := by decide +kernel
theorem gdX12_early_219 : decode cX12_early 219 = .ok (.iconst 1, 1) := by decide +kernel
theorem gdX12_early_220 : decode cX12_early 220 = .ok (.goto 4, 3) := by decide +kernel
theorem gdX12_early_173 : decode cX12_early 173 = .ok (.aload_n 0, 1) := by decide +kernel
theorem gdX12_early_174 : decode cX12_early 174 = .ok (.aload_n 0, 1) := by decide +kernel
theorem gdX12_early_175 : decode cX12_early 175 = .ok (.getfield 132, 3) := by decide +kernel
theorem gdX12_early_178 : decode cX12_early 178 = .ok (.iload 5, 2) := by decide +kernel
theorem gdX12_early_180 : decode cX12_early 180 = .ok (.iaload, 1) := by decide +kernel
theorem gdX12_early_181 : decode cX12_early 181 = .ok (.iload_n 1, 1) := by decide +kernel
theorem gdX12_early_182 : decode cX12_early 182 = .ok (.aload_n 0, 1) := by decide +kernel
theorem gdX12_early_183 : decode cX12_early 183 = .ok (.getfield 135, 3) := by decide +kernel
theorem gdX12_early_186 : decode cX12_early 186 = .ok (.iload 5, 2) := by decide +kernel
theorem gdX12_early_188 : decode cX12_early 188 = .ok (.iaload, 1) := by decide +kernel
theorem gdX12_early_189 : decode cX12_early 189 = .ok (.invokevirtual 377, 3) := by decide +kernel
theorem gdX12_early_192 : decode cX12_early 192 = .ok (.istore 8, 2) := by decide +kernel
theorem gdX12_early_194 : decode cX12_early 194 = .ok (.iload_n 3, 1) := by decide +kernel
theorem gdX12_early_195 : decode cX12_early 195 = .ok (.iload 8, 2) := by decide +kernel
theorem gdX12_early_197 : decode cX12_early 197 = .ok (.ifCond .eq 7, 3) := by decide +kernel
theorem gdX12_early_204 : decode cX12_early 204 = .ok (.iconst 0, 1) := by decide +kernel
theorem gdX12_early_200 : decode cX12_early 200 = .ok (.iconst 1, 1) := by decide +kernel
theorem gdX12_early_201 : decode cX12_early 201 = .ok (.goto 4, 3) := by decide +kernel
theorem gdX12_early_165 : decode cX12_early 165 = .ok (.istore 7, 2) := by decide +kernel
theorem gdX12_early_167 : decode cX12_early 167 = .ok (.iinc 8 1, 3) := by decide +kernel
theorem gdX12_early_170 : decode cX12_early 170 = .ok (.goto (-75), 3) := by decide +kernel
theorem gdX12_early_160 : decode cX12_early 160 = .ok (.iconst 1, 1) := by decide +kernel
theorem gdX12_early_161 : decode cX12_early 161 = .ok (.goto 4, 3) := by decide +kernel
theorem gdX12_early_164 : decode cX12_early 164 = .ok (.iconst 0, 1) := by decide +kernel
theorem gdX12_early_95 : decode cX12_early 95 = .ok (.iload 8, 2) := by decide +kernel
theorem gdX12_early_97 : decode cX12_early 97 = .ok (.aload_n 0, 1) := by decide +kernel
theorem gdX12_early_98 : decode cX12_early 98 = .ok (.getfield 281, 3) := by decide +kernel
theorem gdX12_early_101 : decode cX12_early 101 = .ok (.if_icmp .ge 72, 3) := by decide +kernel
theorem gdX12_early_104 : decode cX12_early 104 = .ok (.iload 7, 2) := by decide +kernel
theorem gdX12_early_106 : decode cX12_early 106 = .ok (.ifCond .ne 54, 3) := by decide +kernel
theorem gdX12_early_109 : decode cX12_early 109 = .ok (.iload 8, 2) := by decide +kernel
theorem gdX12_early_111 : decode cX12_early 111 = .ok (.aload_n 0, 1) := by decide +kernel
theorem gdX12_early_112 : decode cX12_early 112 = .ok (.getfield 132, 3) := by decide +kernel
theorem gdX12_early_115 : decode cX12_early 115 = .ok (.iload 5, 2) := by decide +kernel
theorem gdX12_early_117 : decode cX12_early 117 = .ok (.iaload, 1) := by decide +kernel
theorem gdX12_early_118 : decode cX12_early 118 = .ok (.if_icmp .eq 46, 3) := by decide +kernel
theorem gdX12_early_121 : decode cX12_early 121 = .ok (.aload_n 0, 1) := by decide +kernel
theorem gdX12_early_122 : decode cX12_early 122 = .ok (.getfield 80, 3) := by decide +kernel
theorem gdX12_early_125 : decode cX12_early 125 = .ok (.iload 8, 2) := by decide +kernel
theorem gdX12_early_127 : decode cX12_early 127 = .ok (.iaload, 1) := by decide +kernel
theorem gdX12_early_128 : decode cX12_early 128 = .ok (.aload_n 0, 1) := by decide +kernel
theorem gdX12_early_129 : decode cX12_early 129 = .ok (.getfield 80, 3) := by decide +kernel
theorem gdX12_early_132 : decode cX12_early 132 = .ok (.aload_n 0, 1) := by decide +kernel
theorem gdX12_early_133 : decode cX12_early 133 = .ok (.getfield 132, 3) := by decide +kernel
theorem gdX12_early_136 : decode cX12_early 136 = .ok (.iload 5, 2) := by decide +kernel
theorem gdX12_early_138 : decode cX12_early 138 = .ok (.iaload, 1) := by decide +kernel
theorem gdX12_early_139 : decode cX12_early 139 = .ok (.iaload, 1) := by decide +kernel
theorem gdX12_early_140 : decode cX12_early 140 = .ok (.if_icmp .ne 24, 3) := by decide +kernel
theorem gdX12_early_143 : decode cX12_early 143 = .ok (.aload_n 0, 1) := by decide +kernel
theorem gdX12_early_144 : decode cX12_early 144 = .ok (.iload 8, 2) := by decide +kernel
theorem gdX12_early_146 : decode cX12_early 146 = .ok (.iload_n 1, 1) := by decide +kernel
theorem gdX12_early_147 : decode cX12_early 147 = .ok (.aload_n 0, 1) := by decide +kernel
theorem gdX12_early_148 : decode cX12_early 148 = .ok (.getfield 135, 3) := by decide +kernel
theorem gdX12_early_151 : decode cX12_early 151 = .ok (.iload 5, 2) := by decide +kernel
theorem gdX12_early_153 : decode cX12_early 153 = .ok (.iaload, 1) := by decide +kernel
theorem gdX12_early_154 : decode cX12_early 154 = .ok (.invokevirtual 377, 3) := by decide +kernel
theorem gdX12_early_157 : decode cX12_early 157 = .ok (.ifCond .eq 7, 3) := by decide +kernel
theorem gdX12_early_59 : decode cX12_early 59 = .ok (.istore 6, 2) := by decide +kernel
theorem gdX12_early_61 : decode cX12_early 61 = .ok (.iload 6, 2) := by decide +kernel
theorem gdX12_early_63 : decode cX12_early 63 = .ok (.ifCond .eq 164, 3) := by decide +kernel
theorem gdX12_early_66 : decode cX12_early 66 = .ok (.aload_n 0, 1) := by decide +kernel
theorem gdX12_early_67 : decode cX12_early 67 = .ok (.iload_n 1, 1) := by decide +kernel
theorem gdX12_early_68 : decode cX12_early 68 = .ok (.invokevirtual 340, 3) := by decide +kernel
theorem gdX12_early_71 : decode cX12_early 71 = .ok (.aload_n 0, 1) := by decide +kernel
theorem gdX12_early_72 : decode cX12_early 72 = .ok (.getfield 46, 3) := by decide +kernel
theorem gdX12_early_75 : decode cX12_early 75 = .ok (.aload_n 0, 1) := by decide +kernel
theorem gdX12_early_76 : decode cX12_early 76 = .ok (.getfield 129, 3) := by decide +kernel
theorem gdX12_early_79 : decode cX12_early 79 = .ok (.iload 5, 2) := by decide +kernel
theorem gdX12_early_81 : decode cX12_early 81 = .ok (.iaload, 1) := by decide +kernel
theorem gdX12_early_82 : decode cX12_early 82 = .ok (.iaload, 1) := by decide +kernel
theorem gdX12_early_83 : decode cX12_early 83 = .ok (.invokestatic 344, 3) := by decide +kernel
theorem gdX12_early_86 : decode cX12_early 86 = .ok (.ifCond .eq 141, 3) := by decide +kernel
theorem gdX12_early_89 : decode cX12_early 89 = .ok (.iconst 0, 1) := by decide +kernel
theorem gdX12_early_90 : decode cX12_early 90 = .ok (.istore 7, 2) := by decide +kernel
theorem gdX12_early_92 : decode cX12_early 92 = .ok (.iconst 0, 1) := by decide +kernel
theorem gdX12_early_93 : decode cX12_early 93 = .ok (.istore 8, 2) := by decide +kernel
theorem gdX12_early_54 : decode cX12_early 54 = .ok (.iconst 1, 1) := by decide +kernel
theorem gdX12_early_55 : decode cX12_early 55 = .ok (.goto 4, 3) := by decide +kernel
theorem gdX12_early_20 : decode cX12_early 20 = .ok (.iload 5, 2) := by decide +kernel
theorem gdX12_early_22 : decode cX12_early 22 = .ok (.aload_n 0, 1) := by decide +kernel
theorem gdX12_early_23 : decode cX12_early 23 = .ok (.getfield 368, 3) := by decide +kernel
theorem gdX12_early_26 : decode cX12_early 26 = .ok (.if_icmp .ge 207, 3) := by decide +kernel
theorem gdX12_early_29 : decode cX12_early 29 = .ok (.aload_n 0, 1) := by decide +kernel
theorem gdX12_early_30 : decode cX12_early 30 = .ok (.getfield 95, 3) := by decide +kernel
theorem gdX12_early_33 : decode cX12_early 33 = .ok (.iload_n 1, 1) := by decide +kernel
theorem gdX12_early_34 : decode cX12_early 34 = .ok (.iaload, 1) := by decide +kernel
theorem gdX12_early_35 : decode cX12_early 35 = .ok (.ifCond .lt 19, 3) := by decide +kernel
theorem gdX12_early_38 : decode cX12_early 38 = .ok (.aload_n 0, 1) := by decide +kernel
theorem gdX12_early_39 : decode cX12_early 39 = .ok (.getfield 135, 3) := by decide +kernel
theorem gdX12_early_42 : decode cX12_early 42 = .ok (.iload 5, 2) := by decide +kernel
theorem gdX12_early_44 : decode cX12_early 44 = .ok (.iaload, 1) := by decide +kernel
theorem gdX12_early_45 : decode cX12_early 45 = .ok (.aload_n 0, 1) := by decide +kernel
theorem gdX12_early_46 : decode cX12_early 46 = .ok (.getfield 95, 3) := by decide +kernel
theorem gdX12_early_49 : decode cX12_early 49 = .ok (.iload_n 1, 1) := by decide +kernel
theorem gdX12_early_50 : decode cX12_early 50 = .ok (.iaload, 1) := by decide +kernel
theorem gdX12_early_51 : decode cX12_early 51 = .ok (.if_icmp .ge 7, 3) := by decide +kernel
theorem gdX12_early_58 : decode cX12_early 58 = .ok (.iconst 0, 1) := by decide +kernel
theorem gdX12_early_0 : decode cX12_early 0 = .ok (.aload_n 0, 1) := by decide +kernel
theorem gdX12_early_1 : decode cX12_early 1 = .ok (.iload_n 1, 1) := by decide +kernel
theorem gdX12_early_2 : decode cX12_early 2 = .ok (.invokevirtual 348, 3) := by decide +kernel
theorem gdX12_early_5 : decode cX12_early 5 = .ok (.istore_n 2, 1) := by decide +kernel
theorem gdX12_early_6 : decode cX12_early 6 = .ok (.iload_n 2, 1) := by decide +kernel
theorem gdX12_early_7 : decode cX12_early 7 = .ok (.ifCond .ge 5, 3) := by decide +kernel
theorem gdX12_early_12 : decode cX12_early 12 = .ok (.iconst 0, 1) := by decide +kernel
theorem gdX12_early_13 : decode cX12_early 13 = .ok (.istore_n 3, 1) := by decide +kernel
theorem gdX12_early_14 : decode cX12_early 14 = .ok (.iconst 0, 1) := by decide +kernel
theorem gdX12_early_15 : decode cX12_early 15 = .ok (.istore 4, 2) := by decide +kernel
theorem gdX12_early_17 : decode cX12_early 17 = .ok (.iconst 0, 1) := by decide +kernel
theorem gdX12_early_18 : decode cX12_early 18 = .ok (.istore 5, 2) := by decide +kernel
theorem gdX12_early_10 : decode cX12_early 10 = .ok (.iload_n 2, 1) := by decide +kernel
theorem gdX12_early_11 : decode cX12_early 11 = .ok (.ireturn, 1) := by decide +kernel
theorem gdX12_beside_44 : decode cX12_beside 44 = .ok (.ireturn, 1) := by decide +kernel
theorem gdX12_beside_60 : decode cX12_beside 60 = .ok (.ireturn, 1) := by decide +kernel
theorem gdX12_beside_78 : decode cX12_beside 78 = .ok (.ireturn, 1) := by decide +kernel
theorem gdX12_beside_97 : decode cX12_beside 97 = .ok (.ireturn, 1) := by decide +kernel
theorem gdX12_beside_0 : decode cX12_beside 0 = .ok (.iload_n 1, 1) := by decide +kernel
theorem gdX12_beside_1 : decode cX12_beside 1 = .ok (.tableswitch 78 0 2 #[27, 44, 60], 27) := by decide +kernel
theorem gdX12_beside_28 : decode cX12_beside 28 = .ok (.iload_n 0, 1) := by decide +kernel
theorem gdX12_beside_29 : decode cX12_beside 29 = .ok (.bipush 8, 2) := by decide +kernel
theorem gdX12_beside_31 : decode cX12_beside 31 = .ok (.idiv, 1) := by decide +kernel
theorem gdX12_beside_32 : decode cX12_beside 32 = .ok (.ifCond .le 10, 3) := by decide +kernel
theorem gdX12_beside_42 : decode cX12_beside 42 = .ok (.bipush (-9), 2) := by decide +kernel
theorem gdX12_beside_35 : decode cX12_beside 35 = .ok (.iload_n 0, 1) := by decide +kernel
theorem gdX12_beside_36 : decode cX12_beside 36 = .ok (.bipush 8, 2) := by decide +kernel
theorem gdX12_beside_38 : decode cX12_beside 38 = .ok (.isub, 1) := by decide +kernel
theorem gdX12_beside_39 : decode cX12_beside 39 = .ok (.goto 5, 3) := by decide +kernel
theorem gdX12_beside_45 : decode cX12_beside 45 = .ok (.iload_n 0, 1) := by decide +kernel
theorem gdX12_beside_46 : decode cX12_beside 46 = .ok (.bipush 8, 2) := by decide +kernel
theorem gdX12_beside_48 : decode cX12_beside 48 = .ok (.irem, 1) := by decide +kernel
theorem gdX12_beside_49 : decode cX12_beside 49 = .ok (.ifCond .le 9, 3) := by decide +kernel
theorem gdX12_beside_58 : decode cX12_beside 58 = .ok (.bipush (-9), 2) := by decide +kernel
theorem gdX12_beside_52 : decode cX12_beside 52 = .ok (.iload_n 0, 1) := by decide +kernel
theorem gdX12_beside_53 : decode cX12_beside 53 = .ok (.iconst 1, 1) := by decide +kernel
theorem gdX12_beside_54 : decode cX12_beside 54 = .ok (.isub, 1) := by decide +kernel
theorem gdX12_beside_55 : decode cX12_beside 55 = .ok (.goto 5, 3) := by decide +kernel
theorem gdX12_beside_61 : decode cX12_beside 61 = .ok (.iload_n 0, 1) := by decide +kernel
theorem gdX12_beside_62 : decode cX12_beside 62 = .ok (.bipush 8, 2) := by decide +kernel
theorem gdX12_beside_64 : decode cX12_beside 64 = .ok (.irem, 1) := by decide +kernel
theorem gdX12_beside_65 : decode cX12_beside 65 = .ok (.bipush 7, 2) := by decide +kernel
theorem gdX12_beside_67 : decode cX12_beside 67 = .ok (.if_icmp .ge 9, 3) := by decide +kernel
theorem gdX12_beside_76 : decode cX12_beside 76 = .ok (.bipush (-9), 2) := by decide +kernel
theorem gdX12_beside_70 : decode cX12_beside 70 = .ok (.iload_n 0, 1) := by decide +kernel
theorem gdX12_beside_71 : decode cX12_beside 71 = .ok (.iconst 1, 1) := by decide +kernel
theorem gdX12_beside_72 : decode cX12_beside 72 = .ok (.iadd, 1) := by decide +kernel
theorem gdX12_beside_73 : decode cX12_beside 73 = .ok (.goto 5, 3) := by decide +kernel
theorem gdX12_beside_79 : decode cX12_beside 79 = .ok (.iload_n 0, 1) := by decide +kernel
theorem gdX12_beside_80 : decode cX12_beside 80 = .ok (.bipush 8, 2) := by decide +kernel
theorem gdX12_beside_82 : decode cX12_beside 82 = .ok (.idiv, 1) := by decide +kernel
theorem gdX12_beside_83 : decode cX12_beside 83 = .ok (.bipush 7, 2) := by decide +kernel
theorem gdX12_beside_85 : decode cX12_beside 85 = .ok (.if_icmp .ge 10, 3) := by decide +kernel
theorem gdX12_beside_95 : decode cX12_beside 95 = .ok (.bipush (-9), 2) := by decide +kernel
theorem gdX12_beside_88 : decode cX12_beside 88 = .ok (.iload_n 0, 1) := by decide +kernel
theorem gdX12_beside_89 : decode cX12_beside 89 = .ok (.bipush 8, 2) := by decide +kernel
theorem gdX12_beside_91 : decode cX12_beside 91 = .ok (.iadd, 1) := by decide +kernel
theorem gdX12_beside_92 : decode cX12_beside 92 = .ok (.goto 5, 3) := by decide +kernel
theorem gdX12_setSteps_166 : decode cX12_setSteps 166 = .ok (.return_, 1) := by decide +kernel
theorem gdX12_setSteps_163 : decode cX12_setSteps 163 = .ok (.goto (-124), 3) := by decide +kernel
theorem gdX12_setSteps_157 : decode cX12_setSteps 157 = .ok (.iinc 5 1, 3) := by decide +kernel
theorem gdX12_setSteps_160 : decode cX12_setSteps 160 = .ok (.goto (-110), 3) := by decide +kernel
theorem gdX12_setSteps_151 : decode cX12_setSteps 151 = .ok (.iinc 6 1, 3) := by decide +kernel
theorem gdX12_setSteps_154 : decode cX12_setSteps 154 = .ok (.goto (-94), 3) := by decide +kernel
theorem gdX12_setSteps_60 : decode cX12_setSteps 60 = .ok (.iload 6, 2) := by decide +kernel
theorem gdX12_setSteps_62 : decode cX12_setSteps 62 = .ok (.iconst 4, 1) := by decide +kernel
theorem gdX12_setSteps_63 : decode cX12_setSteps 63 = .ok (.if_icmp .ge 94, 3) := by decide +kernel
theorem gdX12_setSteps_66 : decode cX12_setSteps 66 = .ok (.aload_n 0, 1) := by decide +kernel
theorem gdX12_setSteps_67 : decode cX12_setSteps 67 = .ok (.getfield 165, 3) := by decide +kernel
theorem gdX12_setSteps_70 : decode cX12_setSteps 70 = .ok (.iload 5, 2) := by decide +kernel
theorem gdX12_setSteps_72 : decode cX12_setSteps 72 = .ok (.iaload, 1) := by decide +kernel
theorem gdX12_setSteps_73 : decode cX12_setSteps 73 = .ok (.ldc_w 314, 3) := by decide +kernel
theorem gdX12_setSteps_76 : decode cX12_setSteps 76 = .ok (.if_icmp .ge 81, 3) := by decide +kernel
theorem gdX12_setSteps_79 : decode cX12_setSteps 79 = .ok (.iload 5, 2) := by decide +kernel
theorem gdX12_setSteps_81 : decode cX12_setSteps 81 = .ok (.iload 6, 2) := by decide +kernel
theorem gdX12_setSteps_83 : decode cX12_setSteps 83 = .ok (.invokestatic 315, 3) := by decide +kernel
theorem gdX12_setSteps_86 : decode cX12_setSteps 86 = .ok (.istore 7, 2) := by decide +kernel
theorem gdX12_setSteps_88 : decode cX12_setSteps 88 = .ok (.iload 7, 2) := by decide +kernel
theorem gdX12_setSteps_90 : decode cX12_setSteps 90 = .ok (.ifCond .lt 61, 3) := by decide +kernel
theorem gdX12_setSteps_93 : decode cX12_setSteps 93 = .ok (.aload_n 0, 1) := by decide +kernel
theorem gdX12_setSteps_94 : decode cX12_setSteps 94 = .ok (.getfield 40, 3) := by decide +kernel
theorem gdX12_setSteps_97 : decode cX12_setSteps 97 = .ok (.iload 7, 2) := by decide +kernel
theorem gdX12_setSteps_99 : decode cX12_setSteps 99 = .ok (.iaload, 1) := by decide +kernel
theorem gdX12_setSteps_100 : decode cX12_setSteps 100 = .ok (.iconst 4, 1) := by decide +kernel
theorem gdX12_setSteps_101 : decode cX12_setSteps 101 = .ok (.if_icmp .eq 50, 3) := by decide +kernel
theorem gdX12_setSteps_104 : decode cX12_setSteps 104 = .ok (.lload_n 2, 1) := by decide +kernel
theorem gdX12_setSteps_105 : decode cX12_setSteps 105 = .ok (.iload 7, 2) := by decide +kernel
theorem gdX12_setSteps_107 : decode cX12_setSteps 107 = .ok (.invokestatic 344, 3) := by decide +kernel
theorem gdX12_setSteps_110 : decode cX12_setSteps 110 = .ok (.ifCond .ne 41, 3) := by decide +kernel
theorem gdX12_setSteps_113 : decode cX12_setSteps 113 = .ok (.aload_n 0, 1) := by decide +kernel
theorem gdX12_setSteps_114 : decode cX12_setSteps 114 = .ok (.getfield 165, 3) := by decide +kernel
theorem gdX12_setSteps_117 : decode cX12_setSteps 117 = .ok (.iload 5, 2) := by decide +kernel
theorem gdX12_setSteps_119 : decode cX12_setSteps 119 = .ok (.iaload, 1) := by decide +kernel
theorem gdX12_setSteps_120 : decode cX12_setSteps 120 = .ok (.iconst 1, 1) := by decide +kernel
theorem gdX12_setSteps_121 : decode cX12_setSteps 121 = .ok (.iadd, 1) := by decide +kernel
theorem gdX12_setSteps_122 : decode cX12_setSteps 122 = .ok (.aload_n 0, 1) := by decide +kernel
theorem gdX12_setSteps_123 : decode cX12_setSteps 123 = .ok (.getfield 165, 3) := by decide +kernel
theorem gdX12_setSteps_126 : decode cX12_setSteps 126 = .ok (.iload 7, 2) := by decide +kernel
theorem gdX12_setSteps_128 : decode cX12_setSteps 128 = .ok (.iaload, 1) := by decide +kernel
theorem gdX12_setSteps_129 : decode cX12_setSteps 129 = .ok (.if_icmp .ge 22, 3) := by decide +kernel
theorem gdX12_setSteps_132 : decode cX12_setSteps 132 = .ok (.aload_n 0, 1) := by decide +kernel
theorem gdX12_setSteps_133 : decode cX12_setSteps 133 = .ok (.getfield 165, 3) := by decide +kernel
theorem gdX12_setSteps_136 : decode cX12_setSteps 136 = .ok (.iload 7, 2) := by decide +kernel
theorem gdX12_setSteps_138 : decode cX12_setSteps 138 = .ok (.aload_n 0, 1) := by decide +kernel
theorem gdX12_setSteps_139 : decode cX12_setSteps 139 = .ok (.getfield 165, 3) := by decide +kernel
theorem gdX12_setSteps_142 : decode cX12_setSteps 142 = .ok (.iload 5, 2) := by decide +kernel
theorem gdX12_setSteps_144 : decode cX12_setSteps 144 = .ok (.iaload, 1) := by decide +kernel
theorem gdX12_setSteps_145 : decode cX12_setSteps 145 = .ok (.iconst 1, 1) := by decide +kernel
theorem gdX12_setSteps_146 : decode cX12_setSteps 146 = .ok (.iadd, 1) := by decide +kernel
theorem gdX12_setSteps_147 : decode cX12_setSteps 147 = .ok (.iastore, 1) := by decide +kernel
theorem gdX12_setSteps_148 : decode cX12_setSteps 148 = .ok (.iconst 1, 1) := by decide +kernel
theorem gdX12_setSteps_149 : decode cX12_setSteps 149 = .ok (.istore 4, 2) := by decide +kernel
theorem gdX12_setSteps_50 : decode cX12_setSteps 50 = .ok (.iload 5, 2) := by decide +kernel
theorem gdX12_setSteps_52 : decode cX12_setSteps 52 = .ok (.bipush 64, 2) := by decide +kernel
theorem gdX12_setSteps_54 : decode cX12_setSteps 54 = .ok (.if_icmp .ge 109, 3) := by decide +kernel
theorem gdX12_setSteps_57 : decode cX12_setSteps 57 = .ok (.iconst 0, 1) := by decide +kernel
theorem gdX12_setSteps_58 : decode cX12_setSteps 58 = .ok (.istore 6, 2) := by decide +kernel
theorem gdX12_setSteps_39 : decode cX12_setSteps 39 = .ok (.iload 4, 2) := by decide +kernel
theorem gdX12_setSteps_41 : decode cX12_setSteps 41 = .ok (.ifCond .eq 125, 3) := by decide +kernel
theorem gdX12_setSteps_44 : decode cX12_setSteps 44 = .ok (.iconst 0, 1) := by decide +kernel
theorem gdX12_setSteps_45 : decode cX12_setSteps 45 = .ok (.istore 4, 2) := by decide +kernel
theorem gdX12_setSteps_47 : decode cX12_setSteps 47 = .ok (.iconst 0, 1) := by decide +kernel
theorem gdX12_setSteps_48 : decode cX12_setSteps 48 = .ok (.istore 5, 2) := by decide +kernel
theorem gdX12_setSteps_36 : decode cX12_setSteps 36 = .ok (.iconst 1, 1) := by decide +kernel
theorem gdX12_setSteps_37 : decode cX12_setSteps 37 = .ok (.istore 4, 2) := by decide +kernel
theorem gdX12_setSteps_29 : decode cX12_setSteps 29 = .ok (.iastore, 1) := by decide +kernel
theorem gdX12_setSteps_30 : decode cX12_setSteps 30 = .ok (.iinc 4 1, 3) := by decide +kernel
theorem gdX12_setSteps_33 : decode cX12_setSteps 33 = .ok (.goto (-30), 3) := by decide +kernel
theorem gdX12_setSteps_3 : decode cX12_setSteps 3 = .ok (.iload 4, 2) := by decide +kernel
theorem gdX12_setSteps_5 : decode cX12_setSteps 5 = .ok (.bipush 64, 2) := by decide +kernel
theorem gdX12_setSteps_7 : decode cX12_setSteps 7 = .ok (.if_icmp .ge 29, 3) := by decide +kernel
theorem gdX12_setSteps_10 : decode cX12_setSteps 10 = .ok (.aload_n 0, 1) := by decide +kernel
theorem gdX12_setSteps_11 : decode cX12_setSteps 11 = .ok (.getfield 165, 3) := by decide +kernel
theorem gdX12_setSteps_14 : decode cX12_setSteps 14 = .ok (.iload 4, 2) := by decide +kernel
theorem gdX12_setSteps_16 : decode cX12_setSteps 16 = .ok (.iload 4, 2) := by decide +kernel
theorem gdX12_setSteps_18 : decode cX12_setSteps 18 = .ok (.iload_n 1, 1) := by decide +kernel
theorem gdX12_setSteps_19 : decode cX12_setSteps 19 = .ok (.if_icmp .ne 7, 3) := by decide +kernel
theorem gdX12_setSteps_26 : decode cX12_setSteps 26 = .ok (.ldc_w 314, 3) := by decide +kernel
theorem gdX12_setSteps_22 : decode cX12_setSteps 22 = .ok (.iconst 0, 1) := by decide +kernel
theorem gdX12_setSteps_23 : decode cX12_setSteps 23 = .ok (.goto 6, 3) := by decide +kernel
theorem gdX12_setSteps_0 : decode cX12_setSteps 0 = .ok (.iconst 0, 1) := by decide +kernel
theorem gdX12_setSteps_1 : decode cX12_setSteps 1 = .ok (.istore 4, 2) := by decide +kernel
theorem gdX12_fall_18 : decode cX12_fall 18 = .ok (.iconst (-1), 1) := by decide +kernel
theorem gdX12_fall_19 : decode cX12_fall 19 = .ok (.ireturn, 1) := by decide +kernel
theorem gdX12_fall_399 : decode cX12_fall 399 = .ok (.aload_n 0, 1) := by decide +kernel
theorem gdX12_fall_400 : decode cX12_fall 400 = .ok (.lload 7, 2) := by decide +kernel
theorem gdX12_fall_402 : decode cX12_fall 402 = .ok (.putfield 364, 3) := by decide +kernel
theorem gdX12_fall_405 : decode cX12_fall 405 = .ok (.iload 10, 2) := by decide +kernel
theorem gdX12_fall_407 : decode cX12_fall 407 = .ok (.ireturn, 1) := by decide +kernel
theorem gdX12_fall_393 : decode cX12_fall 393 = .ok (.iinc 11 1, 3) := by decide +kernel
theorem gdX12_fall_396 : decode cX12_fall 396 = .ok (.goto (-271), 3) := by decide +kernel
theorem gdX12_fall_387 : decode cX12_fall 387 = .ok (.iinc 12 1, 3) := by decide +kernel
theorem gdX12_fall_390 : decode cX12_fall 390 = .ok (.goto (-59), 3) := by decide +kernel
theorem gdX12_fall_331 : decode cX12_fall 331 = .ok (.iload 12, 2) := by decide +kernel
theorem gdX12_fall_333 : decode cX12_fall 333 = .ok (.aload_n 0, 1) := by decide +kernel
theorem gdX12_fall_334 : decode cX12_fall 334 = .ok (.getfield 254, 3) := by decide +kernel
theorem gdX12_fall_337 : decode cX12_fall 337 = .ok (.if_icmp .ge 56, 3) := by decide +kernel
theorem gdX12_fall_340 : decode cX12_fall 340 = .ok (.lload 5, 2) := by decide +kernel
theorem gdX12_fall_342 : decode cX12_fall 342 = .ok (.iload 12, 2) := by decide +kernel
theorem gdX12_fall_344 : decode cX12_fall 344 = .ok (.invokestatic 344, 3) := by decide +kernel
theorem gdX12_fall_347 : decode cX12_fall 347 = .ok (.ifCond .eq 40, 3) := by decide +kernel
theorem gdX12_fall_350 : decode cX12_fall 350 = .ok (.aload_n 0, 1) := by decide +kernel
theorem gdX12_fall_351 : decode cX12_fall 351 = .ok (.getfield 168, 3) := by decide +kernel
theorem gdX12_fall_354 : decode cX12_fall 354 = .ok (.iload 12, 2) := by decide +kernel
theorem gdX12_fall_356 : decode cX12_fall 356 = .ok (.iaload, 1) := by decide +kernel
theorem gdX12_fall_357 : decode cX12_fall 357 = .ok (.iload 9, 2) := by decide +kernel
theorem gdX12_fall_359 : decode cX12_fall 359 = .ok (.if_icmp .ge 28, 3) := by decide +kernel
theorem gdX12_fall_362 : decode cX12_fall 362 = .ok (.lload 5, 2) := by decide +kernel
theorem gdX12_fall_364 : decode cX12_fall 364 = .ok (.lconst 1, 1) := by decide +kernel
theorem gdX12_fall_365 : decode cX12_fall 365 = .ok (.iload 12, 2) := by decide +kernel
theorem gdX12_fall_367 : decode cX12_fall 367 = .ok (.lshl, 1) := by decide +kernel
theorem gdX12_fall_368 : decode cX12_fall 368 = .ok (.ldc2_w 395, 3) := by decide +kernel
theorem gdX12_fall_371 : decode cX12_fall 371 = .ok (.lxor, 1) := by decide +kernel
theorem gdX12_fall_372 : decode cX12_fall 372 = .ok (.land, 1) := by decide +kernel
theorem gdX12_fall_373 : decode cX12_fall 373 = .ok (.lstore 5, 2) := by decide +kernel
theorem gdX12_fall_375 : decode cX12_fall 375 = .ok (.lload 7, 2) := by decide +kernel
theorem gdX12_fall_377 : decode cX12_fall 377 = .ok (.lconst 1, 1) := by decide +kernel
theorem gdX12_fall_378 : decode cX12_fall 378 = .ok (.iload 12, 2) := by decide +kernel
theorem gdX12_fall_380 : decode cX12_fall 380 = .ok (.lshl, 1) := by decide +kernel
theorem gdX12_fall_381 : decode cX12_fall 381 = .ok (.lor, 1) := by decide +kernel
theorem gdX12_fall_382 : decode cX12_fall 382 = .ok (.lstore 7, 2) := by decide +kernel
theorem gdX12_fall_384 : decode cX12_fall 384 = .ok (.iinc 10 1, 3) := by decide +kernel
theorem gdX12_fall_328 : decode cX12_fall 328 = .ok (.iconst 0, 1) := by decide +kernel
theorem gdX12_fall_329 : decode cX12_fall 329 = .ok (.istore 12, 2) := by decide +kernel
theorem gdX12_fall_322 : decode cX12_fall 322 = .ok (.iinc 12 1, 3) := by decide +kernel
theorem gdX12_fall_325 : decode cX12_fall 325 = .ok (.goto (-165), 3) := by decide +kernel
theorem gdX12_fall_306 : decode cX12_fall 306 = .ok (.iload 13, 2) := by decide +kernel
theorem gdX12_fall_308 : decode cX12_fall 308 = .ok (.ifCond .lt 14, 3) := by decide +kernel
theorem gdX12_fall_311 : decode cX12_fall 311 = .ok (.aload_n 0, 1) := by decide +kernel
theorem gdX12_fall_312 : decode cX12_fall 312 = .ok (.getfield 168, 3) := by decide +kernel
theorem gdX12_fall_315 : decode cX12_fall 315 = .ok (.iload 13, 2) := by decide +kernel
theorem gdX12_fall_317 : decode cX12_fall 317 = .ok (.dup2, 1) := by decide +kernel
theorem gdX12_fall_318 : decode cX12_fall 318 = .ok (.iaload, 1) := by decide +kernel
theorem gdX12_fall_319 : decode cX12_fall 319 = .ok (.iconst 1, 1) := by decide +kernel
theorem gdX12_fall_320 : decode cX12_fall 320 = .ok (.iadd, 1) := by decide +kernel
theorem gdX12_fall_321 : decode cX12_fall 321 = .ok (.iastore, 1) := by decide +kernel
theorem gdX12_fall_298 : decode cX12_fall 298 = .ok (.istore 13, 2) := by decide +kernel
theorem gdX12_fall_300 : decode cX12_fall 300 = .ok (.iinc 14 1, 3) := by decide +kernel
theorem gdX12_fall_303 : decode cX12_fall 303 = .ok (.goto (-81), 3) := by decide +kernel
theorem gdX12_fall_291 : decode cX12_fall 291 = .ok (.iload 14, 2) := by decide +kernel
theorem gdX12_fall_293 : decode cX12_fall 293 = .ok (.goto 5, 3) := by decide +kernel
theorem gdX12_fall_296 : decode cX12_fall 296 = .ok (.iload 13, 2) := by decide +kernel
theorem gdX12_fall_259 : decode cX12_fall 259 = .ok (.istore 15, 2) := by decide +kernel
theorem gdX12_fall_261 : decode cX12_fall 261 = .ok (.iload 15, 2) := by decide +kernel
theorem gdX12_fall_263 : decode cX12_fall 263 = .ok (.ldc_w 314, 3) := by decide +kernel
theorem gdX12_fall_266 : decode cX12_fall 266 = .ok (.if_icmp .ge 30, 3) := by decide +kernel
theorem gdX12_fall_269 : decode cX12_fall 269 = .ok (.iload 13, 2) := by decide +kernel
theorem gdX12_fall_271 : decode cX12_fall 271 = .ok (.ifCond .lt 20, 3) := by decide +kernel
theorem gdX12_fall_274 : decode cX12_fall 274 = .ok (.iload 15, 2) := by decide +kernel
theorem gdX12_fall_276 : decode cX12_fall 276 = .ok (.aload_n 0, 1) := by decide +kernel
theorem gdX12_fall_277 : decode cX12_fall 277 = .ok (.getfield 165, 3) := by decide +kernel
theorem gdX12_fall_280 : decode cX12_fall 280 = .ok (.aload_n 0, 1) := by decide +kernel
theorem gdX12_fall_281 : decode cX12_fall 281 = .ok (.getfield 46, 3) := by decide +kernel
theorem gdX12_fall_284 : decode cX12_fall 284 = .ok (.iload 13, 2) := by decide +kernel
theorem gdX12_fall_286 : decode cX12_fall 286 = .ok (.iaload, 1) := by decide +kernel
theorem gdX12_fall_287 : decode cX12_fall 287 = .ok (.iaload, 1) := by decide +kernel
theorem gdX12_fall_288 : decode cX12_fall 288 = .ok (.if_icmp .ge 8, 3) := by decide +kernel
theorem gdX12_fall_222 : decode cX12_fall 222 = .ok (.iload 14, 2) := by decide +kernel
theorem gdX12_fall_224 : decode cX12_fall 224 = .ok (.aload_n 0, 1) := by decide +kernel
theorem gdX12_fall_225 : decode cX12_fall 225 = .ok (.getfield 254, 3) := by decide +kernel
theorem gdX12_fall_228 : decode cX12_fall 228 = .ok (.if_icmp .ge 78, 3) := by decide +kernel
theorem gdX12_fall_231 : decode cX12_fall 231 = .ok (.lload 5, 2) := by decide +kernel
theorem gdX12_fall_233 : decode cX12_fall 233 = .ok (.iload 14, 2) := by decide +kernel
theorem gdX12_fall_235 : decode cX12_fall 235 = .ok (.invokestatic 344, 3) := by decide +kernel
theorem gdX12_fall_238 : decode cX12_fall 238 = .ok (.ifCond .eq 18, 3) := by decide +kernel
theorem gdX12_fall_256 : decode cX12_fall 256 = .ok (.ldc_w 314, 3) := by decide +kernel
theorem gdX12_fall_241 : decode cX12_fall 241 = .ok (.aload_n 0, 1) := by decide +kernel
theorem gdX12_fall_242 : decode cX12_fall 242 = .ok (.getfield 165, 3) := by decide +kernel
theorem gdX12_fall_245 : decode cX12_fall 245 = .ok (.aload_n 0, 1) := by decide +kernel
theorem gdX12_fall_246 : decode cX12_fall 246 = .ok (.getfield 46, 3) := by decide +kernel
theorem gdX12_fall_249 : decode cX12_fall 249 = .ok (.iload 14, 2) := by decide +kernel
theorem gdX12_fall_251 : decode cX12_fall 251 = .ok (.iaload, 1) := by decide +kernel
theorem gdX12_fall_252 : decode cX12_fall 252 = .ok (.iaload, 1) := by decide +kernel
theorem gdX12_fall_253 : decode cX12_fall 253 = .ok (.goto 6, 3) := by decide +kernel
theorem gdX12_fall_160 : decode cX12_fall 160 = .ok (.iload 12, 2) := by decide +kernel
theorem gdX12_fall_162 : decode cX12_fall 162 = .ok (.aload_n 0, 1) := by decide +kernel
theorem gdX12_fall_163 : decode cX12_fall 163 = .ok (.getfield 281, 3) := by decide +kernel
theorem gdX12_fall_166 : decode cX12_fall 166 = .ok (.if_icmp .ge 162, 3) := by decide +kernel
theorem gdX12_fall_169 : decode cX12_fall 169 = .ok (.aload_n 0, 1) := by decide +kernel
theorem gdX12_fall_170 : decode cX12_fall 170 = .ok (.getfield 71, 3) := by decide +kernel
theorem gdX12_fall_173 : decode cX12_fall 173 = .ok (.iload 12, 2) := by decide +kernel
theorem gdX12_fall_175 : decode cX12_fall 175 = .ok (.iaload, 1) := by decide +kernel
theorem gdX12_fall_176 : decode cX12_fall 176 = .ok (.ifCond .lt 146, 3) := by decide +kernel
theorem gdX12_fall_179 : decode cX12_fall 179 = .ok (.lload_n 3, 1) := by decide +kernel
theorem gdX12_fall_180 : decode cX12_fall 180 = .ok (.aload_n 0, 1) := by decide +kernel
theorem gdX12_fall_181 : decode cX12_fall 181 = .ok (.getfield 46, 3) := by decide +kernel
theorem gdX12_fall_184 : decode cX12_fall 184 = .ok (.aload_n 0, 1) := by decide +kernel
theorem gdX12_fall_185 : decode cX12_fall 185 = .ok (.getfield 71, 3) := by decide +kernel
theorem gdX12_fall_188 : decode cX12_fall 188 = .ok (.iload 12, 2) := by decide +kernel
theorem gdX12_fall_190 : decode cX12_fall 190 = .ok (.iaload, 1) := by decide +kernel
theorem gdX12_fall_191 : decode cX12_fall 191 = .ok (.iaload, 1) := by decide +kernel
theorem gdX12_fall_192 : decode cX12_fall 192 = .ok (.invokestatic 344, 3) := by decide +kernel
theorem gdX12_fall_195 : decode cX12_fall 195 = .ok (.ifCond .ne 127, 3) := by decide +kernel
theorem gdX12_fall_198 : decode cX12_fall 198 = .ok (.aload_n 0, 1) := by decide +kernel
theorem gdX12_fall_199 : decode cX12_fall 199 = .ok (.aload_n 0, 1) := by decide +kernel
theorem gdX12_fall_200 : decode cX12_fall 200 = .ok (.getfield 46, 3) := by decide +kernel
theorem gdX12_fall_203 : decode cX12_fall 203 = .ok (.aload_n 0, 1) := by decide +kernel
theorem gdX12_fall_204 : decode cX12_fall 204 = .ok (.getfield 71, 3) := by decide +kernel
theorem gdX12_fall_207 : decode cX12_fall 207 = .ok (.iload 12, 2) := by decide +kernel
theorem gdX12_fall_209 : decode cX12_fall 209 = .ok (.iaload, 1) := by decide +kernel
theorem gdX12_fall_210 : decode cX12_fall 210 = .ok (.iaload, 1) := by decide +kernel
theorem gdX12_fall_211 : decode cX12_fall 211 = .ok (.lload_n 3, 1) := by decide +kernel
theorem gdX12_fall_212 : decode cX12_fall 212 = .ok (.invokevirtual 391, 3) := by decide +kernel
theorem gdX12_fall_215 : decode cX12_fall 215 = .ok (.bipush (-9), 2) := by decide +kernel
theorem gdX12_fall_217 : decode cX12_fall 217 = .ok (.istore 13, 2) := by decide +kernel
theorem gdX12_fall_219 : decode cX12_fall 219 = .ok (.iconst 0, 1) := by decide +kernel
theorem gdX12_fall_220 : decode cX12_fall 220 = .ok (.istore 14, 2) := by decide +kernel
theorem gdX12_fall_157 : decode cX12_fall 157 = .ok (.iconst 0, 1) := by decide +kernel
theorem gdX12_fall_158 : decode cX12_fall 158 = .ok (.istore 12, 2) := by decide +kernel
theorem gdX12_fall_134 : decode cX12_fall 134 = .ok (.iload 12, 2) := by decide +kernel
theorem gdX12_fall_136 : decode cX12_fall 136 = .ok (.aload_n 0, 1) := by decide +kernel
theorem gdX12_fall_137 : decode cX12_fall 137 = .ok (.getfield 254, 3) := by decide +kernel
theorem gdX12_fall_140 : decode cX12_fall 140 = .ok (.if_icmp .ge 17, 3) := by decide +kernel
theorem gdX12_fall_143 : decode cX12_fall 143 = .ok (.aload_n 0, 1) := by decide +kernel
theorem gdX12_fall_144 : decode cX12_fall 144 = .ok (.getfield 168, 3) := by decide +kernel
theorem gdX12_fall_147 : decode cX12_fall 147 = .ok (.iload 12, 2) := by decide +kernel
theorem gdX12_fall_149 : decode cX12_fall 149 = .ok (.iconst 0, 1) := by decide +kernel
theorem gdX12_fall_150 : decode cX12_fall 150 = .ok (.iastore, 1) := by decide +kernel
theorem gdX12_fall_151 : decode cX12_fall 151 = .ok (.iinc 12 1, 3) := by decide +kernel
theorem gdX12_fall_154 : decode cX12_fall 154 = .ok (.goto (-20), 3) := by decide +kernel
theorem gdX12_fall_125 : decode cX12_fall 125 = .ok (.iload 11, 2) := by decide +kernel
theorem gdX12_fall_127 : decode cX12_fall 127 = .ok (.iload_n 2, 1) := by decide +kernel
theorem gdX12_fall_128 : decode cX12_fall 128 = .ok (.if_icmp .ge 271, 3) := by decide +kernel
theorem gdX12_fall_131 : decode cX12_fall 131 = .ok (.iconst 0, 1) := by decide +kernel
theorem gdX12_fall_132 : decode cX12_fall 132 = .ok (.istore 12, 2) := by decide +kernel
theorem gdX12_fall_112 : decode cX12_fall 112 = .ok (.aload_n 0, 1) := by decide +kernel
theorem gdX12_fall_113 : decode cX12_fall 113 = .ok (.iconst 4, 1) := by decide +kernel
theorem gdX12_fall_114 : decode cX12_fall 114 = .ok (.invokevirtual 328, 3) := by decide +kernel
theorem gdX12_fall_117 : decode cX12_fall 117 = .ok (.istore 9, 2) := by decide +kernel
theorem gdX12_fall_119 : decode cX12_fall 119 = .ok (.iconst 0, 1) := by decide +kernel
theorem gdX12_fall_120 : decode cX12_fall 120 = .ok (.istore 10, 2) := by decide +kernel
theorem gdX12_fall_122 : decode cX12_fall 122 = .ok (.iconst 0, 1) := by decide +kernel
theorem gdX12_fall_123 : decode cX12_fall 123 = .ok (.istore 11, 2) := by decide +kernel
theorem gdX12_fall_103 : decode cX12_fall 103 = .ok (.lor, 1) := by decide +kernel
theorem gdX12_fall_104 : decode cX12_fall 104 = .ok (.lstore 5, 2) := by decide +kernel
theorem gdX12_fall_106 : decode cX12_fall 106 = .ok (.iinc 9 1, 3) := by decide +kernel
theorem gdX12_fall_109 : decode cX12_fall 109 = .ok (.goto (-60), 3) := by decide +kernel
theorem gdX12_fall_102 : decode cX12_fall 102 = .ok (.lconst 0, 1) := by decide +kernel
theorem gdX12_fall_49 : decode cX12_fall 49 = .ok (.iload 9, 2) := by decide +kernel
theorem gdX12_fall_51 : decode cX12_fall 51 = .ok (.aload_n 0, 1) := by decide +kernel
theorem gdX12_fall_52 : decode cX12_fall 52 = .ok (.getfield 254, 3) := by decide +kernel
theorem gdX12_fall_55 : decode cX12_fall 55 = .ok (.if_icmp .ge 57, 3) := by decide +kernel
theorem gdX12_fall_58 : decode cX12_fall 58 = .ok (.lload 5, 2) := by decide +kernel
theorem gdX12_fall_60 : decode cX12_fall 60 = .ok (.aload_n 0, 1) := by decide +kernel
theorem gdX12_fall_61 : decode cX12_fall 61 = .ok (.getfield 49, 3) := by decide +kernel
theorem gdX12_fall_64 : decode cX12_fall 64 = .ok (.iload 9, 2) := by decide +kernel
theorem gdX12_fall_66 : decode cX12_fall 66 = .ok (.iaload, 1) := by decide +kernel
theorem gdX12_fall_67 : decode cX12_fall 67 = .ok (.iconst 1, 1) := by decide +kernel
theorem gdX12_fall_68 : decode cX12_fall 68 = .ok (.if_icmp .ne 34, 3) := by decide +kernel
theorem gdX12_fall_71 : decode cX12_fall 71 = .ok (.aload_n 0, 1) := by decide +kernel
theorem gdX12_fall_72 : decode cX12_fall 72 = .ok (.getfield 55, 3) := by decide +kernel
theorem gdX12_fall_75 : decode cX12_fall 75 = .ok (.iload 9, 2) := by decide +kernel
theorem gdX12_fall_77 : decode cX12_fall 77 = .ok (.baload, 1) := by decide +kernel
theorem gdX12_fall_78 : decode cX12_fall 78 = .ok (.ifCond .ne 24, 3) := by decide +kernel
theorem gdX12_fall_81 : decode cX12_fall 81 = .ok (.lload_n 3, 1) := by decide +kernel
theorem gdX12_fall_82 : decode cX12_fall 82 = .ok (.aload_n 0, 1) := by decide +kernel
theorem gdX12_fall_83 : decode cX12_fall 83 = .ok (.getfield 46, 3) := by decide +kernel
theorem gdX12_fall_86 : decode cX12_fall 86 = .ok (.iload 9, 2) := by decide +kernel
theorem gdX12_fall_88 : decode cX12_fall 88 = .ok (.iaload, 1) := by decide +kernel
theorem gdX12_fall_89 : decode cX12_fall 89 = .ok (.invokestatic 344, 3) := by decide +kernel
theorem gdX12_fall_92 : decode cX12_fall 92 = .ok (.ifCond .ne 10, 3) := by decide +kernel
theorem gdX12_fall_95 : decode cX12_fall 95 = .ok (.lconst 1, 1) := by decide +kernel
theorem gdX12_fall_96 : decode cX12_fall 96 = .ok (.iload 9, 2) := by decide +kernel
theorem gdX12_fall_98 : decode cX12_fall 98 = .ok (.lshl, 1) := by decide +kernel
theorem gdX12_fall_99 : decode cX12_fall 99 = .ok (.goto 4, 3) := by decide +kernel
theorem gdX12_fall_0 : decode cX12_fall 0 = .ok (.aload_n 0, 1) := by decide +kernel
theorem gdX12_fall_1 : decode cX12_fall 1 = .ok (.iload_n 1, 1) := by decide +kernel
theorem gdX12_fall_2 : decode cX12_fall 2 = .ok (.invokevirtual 308, 3) := by decide +kernel
theorem gdX12_fall_5 : decode cX12_fall 5 = .ok (.ifCond .eq 13, 3) := by decide +kernel
theorem gdX12_fall_8 : decode cX12_fall 8 = .ok (.iload_n 2, 1) := by decide +kernel
theorem gdX12_fall_9 : decode cX12_fall 9 = .ok (.iconst 0, 1) := by decide +kernel
theorem gdX12_fall_10 : decode cX12_fall 10 = .ok (.bipush 20, 2) := by decide +kernel
theorem gdX12_fall_12 : decode cX12_fall 12 = .ok (.invokestatic 208, 3) := by decide +kernel
theorem gdX12_fall_15 : decode cX12_fall 15 = .ok (.ifCond .ne 5, 3) := by decide +kernel
theorem gdX12_fall_20 : decode cX12_fall 20 = .ok (.aload_n 0, 1) := by decide +kernel
theorem gdX12_fall_21 : decode cX12_fall 21 = .ok (.iload_n 1, 1) := by decide +kernel
theorem gdX12_fall_22 : decode cX12_fall 22 = .ok (.invokevirtual 311, 3) := by decide +kernel
theorem gdX12_fall_25 : decode cX12_fall 25 = .ok (.ifCond .ne 9, 3) := by decide +kernel
theorem gdX12_fall_34 : decode cX12_fall 34 = .ok (.aload_n 0, 1) := by decide +kernel
theorem gdX12_fall_35 : decode cX12_fall 35 = .ok (.iload_n 1, 1) := by decide +kernel
theorem gdX12_fall_36 : decode cX12_fall 36 = .ok (.invokevirtual 340, 3) := by decide +kernel
theorem gdX12_fall_39 : decode cX12_fall 39 = .ok (.lstore_n 3, 1) := by decide +kernel
theorem gdX12_fall_40 : decode cX12_fall 40 = .ok (.lconst 0, 1) := by decide +kernel
theorem gdX12_fall_41 : decode cX12_fall 41 = .ok (.lstore 5, 2) := by decide +kernel
theorem gdX12_fall_43 : decode cX12_fall 43 = .ok (.lconst 0, 1) := by decide +kernel
theorem gdX12_fall_44 : decode cX12_fall 44 = .ok (.lstore 7, 2) := by decide +kernel
theorem gdX12_fall_46 : decode cX12_fall 46 = .ok (.iconst 0, 1) := by decide +kernel
theorem gdX12_fall_47 : decode cX12_fall 47 = .ok (.istore 9, 2) := by decide +kernel
theorem gdX12_fall_28 : decode cX12_fall 28 = .ok (.aload_n 0, 1) := by decide +kernel
theorem gdX12_fall_29 : decode cX12_fall 29 = .ok (.iconst 3, 1) := by decide +kernel
theorem gdX12_fall_30 : decode cX12_fall 30 = .ok (.invokevirtual 216, 3) := by decide +kernel
theorem gdX12_fall_33 : decode cX12_fall 33 = .ok (.ireturn, 1) := by decide +kernel
theorem okm_X12_mixMark : okM yX12_mixMark cX12_mixMark 3 none 1 := ⟨w_2159, w_103, by decide +kernel, by decide +kernel, by decide +kernel⟩
theorem okw_X12_mixMark : okV yX12_mixMark := ⟨w_2158, w_87⟩
theorem okm_X12_personTells : okM yX12_personTells cX12_personTells 3 (some .int) 2 := ⟨w_1858, w_103, by decide +kernel, by decide +kernel, by decide +kernel⟩
theorem okw_X12_personTells : okV yX12_personTells := ⟨w_1857, w_52⟩
theorem okm_X12_valueOf : okM yX12_valueOf cX12_valueOf 5 (some .int) 2 := ⟨w_1818, w_103, by decide +kernel, by decide +kernel, by decide +kernel⟩
theorem okw_X12_valueOf : okV yX12_valueOf := ⟨w_1817, w_46⟩
theorem okm_X12_houseTells : okM yX12_houseTells cX12_houseTells 3 (some .int) 2 := ⟨w_1830, w_103, by decide +kernel, by decide +kernel, by decide +kernel⟩
theorem okw_X12_houseTells : okV yX12_houseTells := ⟨w_1829, w_47⟩
theorem okm_X12_heard : okM yX12_heard cX12_heard 5 (some .int) 2 := ⟨w_1996, w_103, by decide +kernel, by decide +kernel, by decide +kernel⟩
theorem okw_X12_heard : okV yX12_heard := ⟨w_1995, w_68⟩
theorem okm_X12_knew : okM yX12_knew cX12_knew 5 (some .boolean) 3 := ⟨w_2004, w_103, by decide +kernel, by decide +kernel, by decide +kernel⟩
theorem okw_X12_knew : okV yX12_knew := ⟨w_2003, w_69⟩
theorem okm_X12_beside : okM yX12_beside cX12_beside 2 (some .int) 2 := ⟨w_1882, w_103, by decide +kernel, by decide +kernel, by decide +kernel⟩
theorem okm_X12_setSteps : okM yX12_setSteps cX12_setSteps 8 none 2 := ⟨w_2028, w_103, by decide +kernel, by decide +kernel, by decide +kernel⟩
theorem okw_X12_setSteps : okV yX12_setSteps := ⟨w_2027, w_73⟩
noncomputable def b_X12_digest_351 (o : OO) : Option (Int64 × OO) := some (o.2 0 76, o)
noncomputable def b_X12_digest_345 (o : OO) (x1 : Int) : Option ((OO × Int) ⊕ ((OO))) := some (.inl (o, x1 + 1))
noncomputable def l_X12_digest_314 (x1 : Int) (o : OO) (x2 : Int) : Option ((OO × Int) ⊕ ((OO))) := qIn x1 4 (qNm (o.1 5 x1.toNat) (fun n2 => qLt x2 n2 (qIn ((40 * x1) + x2) 160 (qNm (o.1 6 ((40 * x1) + x2).toNat) (fun n4 => qB (s_X12_mix o n4) (fun o7 => some (.inl (o7, x2 + 1)))))) (some (.inr (o)))))
noncomputable def e_X12_digest_314 (o : OO) (x1 : Int) (x2 : Int) : Option ((OO × Int) ⊕ ((OO))) := qB (loopW (fun s => l_X12_digest_314 x1 s.1 s.2) (o, x2)) (fun r => b_X12_digest_345 r x1)
noncomputable def b_X12_digest_309 (o : OO) (x1 : Int) (y1 : Int) : Option ((OO × Int) ⊕ ((OO))) := qB (s_X12_mix o y1) (fun o10 => e_X12_digest_314 o10 x1 0)
noncomputable def l_X12_digest_284 (o : OO) (x1 : Int) : Option ((OO × Int) ⊕ ((OO))) := qLt x1 4 (qIn x1 4 (qNm (o.1 5 x1.toNat) (fun n12 => qLt n12 0 (b_X12_digest_309 o x1 (-1)) (qIn x1 4 (qNm (o.1 5 x1.toNat) (fun n14 => b_X12_digest_309 o x1 n14)))))) (some (.inr (o)))
noncomputable def e_X12_digest_284 (o : OO) (x1 : Int) : Option (Int64 × OO) := qB (loopW (fun s => l_X12_digest_284 s.1 s.2) (o, x1)) (fun r => b_X12_digest_351 r)
noncomputable def b_X12_digest_282 (o : OO) : Option (Int64 × OO) := e_X12_digest_284 o 0
noncomputable def b_X12_digest_276 (o : OO) (x1 : Int) : Option ((OO × Int) ⊕ ((OO))) := some (.inl (o, x1 + 1))
noncomputable def l_X12_digest_245 (x1 : Int) (o : OO) (x2 : Int) : Option ((OO × Int) ⊕ ((OO))) := qIn x1 6 (qNm (o.1 2 x1.toNat) (fun n16 => qLt x2 n16 (qIn ((40 * x1) + x2) 240 (qNm (o.1 3 ((40 * x1) + x2).toNat) (fun n18 => qB (s_X12_mix o n18) (fun o21 => some (.inl (o21, x2 + 1)))))) (some (.inr (o)))))
noncomputable def e_X12_digest_245 (o : OO) (x1 : Int) (x2 : Int) : Option ((OO × Int) ⊕ ((OO))) := qB (loopW (fun s => l_X12_digest_245 x1 s.1 s.2) (o, x2)) (fun r => b_X12_digest_276 r x1)
noncomputable def b_X12_digest_240 (o : OO) (x1 : Int) (y1 : Int) : Option ((OO × Int) ⊕ ((OO))) := qB (s_X12_mix o y1) (fun o24 => e_X12_digest_245 o24 x1 0)
noncomputable def l_X12_digest_214 (o : OO) (x1 : Int) : Option ((OO × Int) ⊕ ((OO))) := qLt x1 6 (qIn x1 6 (qNm (o.1 2 x1.toNat) (fun n26 => qLt n26 0 (b_X12_digest_240 o x1 (-1)) (qIn x1 6 (qNm (o.1 2 x1.toNat) (fun n28 => b_X12_digest_240 o x1 n28)))))) (some (.inr (o)))
noncomputable def e_X12_digest_214 (o : OO) (x1 : Int) : Option (Int64 × OO) := qB (loopW (fun s => l_X12_digest_214 s.1 s.2) (o, x1)) (fun r => b_X12_digest_282 r)
noncomputable def b_X12_digest_212 (o : OO) : Option (Int64 × OO) := e_X12_digest_214 o 0
noncomputable def l_X12_digest_193 (o : OO) (x1 : Int) : Option ((OO × Int) ⊕ ((OO))) := qLt x1 (o.1 0 32) (qB (s_X12_mixMark o x1) (fun o31 => some (.inl (o31, x1 + 1)))) (some (.inr (o)))
noncomputable def e_X12_digest_193 (o : OO) (x1 : Int) : Option (Int64 × OO) := qB (loopW (fun s => l_X12_digest_193 s.1 s.2) (o, x1)) (fun r => b_X12_digest_212 r)
noncomputable def b_X12_digest_191 (o : OO) : Option (Int64 × OO) := e_X12_digest_193 o 0
noncomputable def l_X12_digest_157 (o : OO) (x1 : Int) : Option ((OO × Int) ⊕ ((OO))) := qLt x1 (o.1 0 10) (qIn x1 16 (qNm (o.1 7 x1.toNat) (fun n33 => qB (s_X12_mix o n33) (fun o36 => qIn x1 16 (qNm (o36.1 8 x1.toNat) (fun n38 => qB (s_X12_mix o36 n38) (fun o41 => some (.inl (o41, x1 + 1))))))))) (some (.inr (o)))
noncomputable def e_X12_digest_157 (o : OO) (x1 : Int) : Option (Int64 × OO) := qB (loopW (fun s => l_X12_digest_157 s.1 s.2) (o, x1)) (fun r => b_X12_digest_191 r)
noncomputable def b_X12_digest_155 (o : OO) : Option (Int64 × OO) := e_X12_digest_157 o 0
noncomputable def b_X12_digest_149 (o : OO) (x1 : Int) : Option ((OO × Int) ⊕ ((OO))) := some (.inl (o, x1 + 1))
noncomputable def l_X12_digest_128 (x1 : Int) (o : OO) (x2 : Int) : Option ((OO × Int) ⊕ ((OO))) := qLt 3 x2 (some (.inr (o))) (qB (s_X12_personTells o x1 x2) (fun r42 => qB (s_X12_mix o r42) (fun o46 => some (.inl (o46, x2 + 1)))))
noncomputable def e_X12_digest_128 (o : OO) (x1 : Int) (x2 : Int) : Option ((OO × Int) ⊕ ((OO))) := qB (loopW (fun s => l_X12_digest_128 x1 s.1 s.2) (o, x2)) (fun r => b_X12_digest_149 r x1)
noncomputable def l_X12_digest_118 (o : OO) (x1 : Int) : Option ((OO × Int) ⊕ ((OO))) := qLt x1 (o.1 0 27) (e_X12_digest_128 o x1 0) (some (.inr (o)))
noncomputable def e_X12_digest_118 (o : OO) (x1 : Int) : Option (Int64 × OO) := qB (loopW (fun s => l_X12_digest_118 s.1 s.2) (o, x1)) (fun r => b_X12_digest_155 r)
noncomputable def b_X12_digest_116 (o : OO) : Option (Int64 × OO) := e_X12_digest_118 o 0
noncomputable def b_X12_digest_97 (o : OO) (x1 : Int) : Option ((OO × Int) ⊕ ((OO))) := qB (s_X12_valueOf o x1 (o.1 0 4)) (fun r47 => qB (s_X12_mix o r47) (fun o51 => some (.inl (o51, x1 + 1))))
noncomputable def l_X12_digest_76 (x1 : Int) (o : OO) (x2 : Int) : Option ((OO × Int) ⊕ ((OO))) := qLt 5 x2 (some (.inr (o))) (qB (s_X12_houseTells o x1 x2) (fun r52 => qB (s_X12_mix o r52) (fun o56 => some (.inl (o56, x2 + 1)))))
noncomputable def e_X12_digest_76 (o : OO) (x1 : Int) (x2 : Int) : Option ((OO × Int) ⊕ ((OO))) := qB (loopW (fun s => l_X12_digest_76 x1 s.1 s.2) (o, x2)) (fun r => b_X12_digest_97 r x1)
noncomputable def l_X12_digest_66 (o : OO) (x1 : Int) : Option ((OO × Int) ⊕ ((OO))) := qLt x1 (o.1 0 17) (e_X12_digest_76 o x1 0) (some (.inr (o)))
noncomputable def e_X12_digest_66 (o : OO) (x1 : Int) : Option (Int64 × OO) := qB (loopW (fun s => l_X12_digest_66 s.1 s.2) (o, x1)) (fun r => b_X12_digest_116 r)
noncomputable def b_X12_digest_64 (o : OO) : Option (Int64 × OO) := e_X12_digest_66 o 0
noncomputable def l_X12_digest_32 (o : OO) (x1 : Int) : Option ((OO × Int) ⊕ ((OO))) := qLt x1 64 (qIn x1 64 (qNm (o.1 11 x1.toNat) (fun n58 => qB (s_X12_mix o n58) (fun o61 => qIn x1 64 (qNm (o61.1 12 x1.toNat) (fun n63 => qB (s_X12_mix o61 n63) (fun o66 => some (.inl (o66, x1 + 1))))))))) (some (.inr (o)))
noncomputable def e_X12_digest_32 (o : OO) (x1 : Int) : Option (Int64 × OO) := qB (loopW (fun s => l_X12_digest_32 s.1 s.2) (o, x1)) (fun r => b_X12_digest_64 r)
noncomputable def b_X12_digest_30 (o : OO) : Option (Int64 × OO) := e_X12_digest_32 o 0
noncomputable def l_X12_digest_9 (o : OO) (x1 : Int) : Option ((OO × Int) ⊕ ((OO))) := qLt 9 x1 (some (.inr (o))) (qB (s_X12_counts o x1) (fun r67 => qB (s_X12_mix o r67) (fun o71 => some (.inl (o71, x1 + 1)))))
noncomputable def e_X12_digest_9 (o : OO) (x1 : Int) : Option (Int64 × OO) := qB (loopW (fun s => l_X12_digest_9 s.1 s.2) (o, x1)) (fun r => b_X12_digest_30 r)
noncomputable def s_X12_digest (o : OO) : Option (Int64 × OO) := qNm (st2 o 0 76 (17 : Int64)) (fun o72 => e_X12_digest_9 o72 0)
set_option maxHeartbeats 4000000 in
set_option maxRecDepth 100000 in
theorem c_X12_digest (l : Launch) (g : GG) (ad : Nat → Nat) (o : OO) (v : Int64 × OO) (h : s_X12_digest o = some v) : CL l g yX12_digest cX12_digest 3 (some .long) 2 45 (wM g ad o) [.ref (ad 0)] v.1 (wM g ad v.2) := by
  refine met_L (by decide) (Nat.le_of_ble_eq_true rfl) ?_
  intro X E hQ
  show Go X 0 (wM g ad o) [(0, .ref (ad 0))] []
  have j351 : ∀ (o : OO), b_X12_digest_351 o = some v → Go X 351 (wM g ad o) [(0, .ref (ad 0))] [] := by
    intro o h
    unfold b_X12_digest_351 at h
    refine g_aload_n E gdX12_digest_351 rfl 0 rfl ?_
    refine g_get (T := TX12) E fw_X12 0 (wM_0 g ad o) rfl 76 (by decide) w_1542 rfl rfl gdX12_digest_352 ?_
    exact g_lret E hQ (by rw [← Option.some.inj h]) (by rw [← Option.some.inj h]) gdX12_digest_355
  have j345 : ∀ (o : OO) (x1 : Int) (v : (OO × Int) ⊕ ((OO))), b_X12_digest_345 o x1 = some v → (∀ (o : OO) (x1 : Int), v = .inl (o, x1) → Go X 284 (wM g ad o) [(0, .ref (ad 0)), (1, iv x1)] []) → (∀ (o : OO), v = .inr (o) → Go X 351 (wM g ad o) [(0, .ref (ad 0))] []) → Go X 345 (wM g ad o) [(0, .ref (ad 0)), (1, iv x1)] [] := by
    intro o x1 v h k0 k1
    unfold b_X12_digest_345 at h
    refine g_iinc E [(1, iv (x1 + 1)), (0, .ref (ad 0))] gdX12_digest_345 1 rfl (by decide) rfl ?_
    refine g_goto E 284 gdX12_digest_348 (by decide) ?_
    refine g_sub E [1, 0] rfl ?_
    exact k0 o (x1 + 1) (Option.some.inj h).symm
  have l314 : ∀ (x1 : Int) (r : (OO)) (s0 : OO × Int), loopW (fun s => l_X12_digest_314 x1 s.1 s.2) s0 = some r → (∀ (o : OO), r = (o) → Go X 345 (wM g ad o) [(0, .ref (ad 0)), (1, iv x1)] []) → Go X 314 (wM g ad s0.1) [(0, .ref (ad 0)), (1, iv x1), (2, iv s0.2)] [] := by
    intro x1 r s0 h k1
    refine loop_rule (Head := fun s0 => Go X 314 (wM g ad s0.1) [(0, .ref (ad 0)), (1, iv x1), (2, iv s0.2)] []) h ?_
    intro s v h kk kx
    obtain ⟨o, x2⟩ := s
    have h : l_X12_digest_314 x1 o x2 = some v := h
    have k0 : ∀ (o : OO) (x2 : Int), v = .inl (o, x2) → Go X 314 (wM g ad o) [(0, .ref (ad 0)), (1, iv x1), (2, iv x2)] [] := fun o x2 e => kk (o, x2) e
    have k1 : ∀ (o : OO), v = .inr (o) → Go X 345 (wM g ad o) [(0, .ref (ad 0)), (1, iv x1)] [] := fun o e => k1 o (kx _ e).symm
    unfold l_X12_digest_314 at h
    refine g_iload_n E gdX12_digest_314 rfl 2 rfl ?_
    refine g_aload_n E gdX12_digest_315 rfl 0 rfl ?_
    refine g_get (T := TX12) E fw_X12 0 (wM_0 g ad o) rfl 8 (by decide) w_1474 rfl rfl gdX12_digest_316 ?_
    refine g_iload_n E gdX12_digest_319 rfl 1 rfl ?_
    obtain ⟨hi1, h⟩ := qIn_of h
    refine g_iald E 5 (wM_5 g ad o) (by decide) hi1 gdX12_digest_320 ?_
    obtain ⟨n2, e_n2, h⟩ := qNm_of h
    refine g_nmi e_n2 ?_
    refine g_icmp_ge E 345 gdX12_digest_321 (by decide) h (fun h => ?_) (fun h => ?_)
    ·
      refine g_sub E [0, 1] rfl ?_
      exact k1 o (Option.some.inj h).symm
    ·
      refine g_aload_n E gdX12_digest_324 rfl 0 rfl ?_
      refine g_aload_n E gdX12_digest_325 rfl 0 rfl ?_
      refine g_get (T := TX12) E fw_X12 0 (wM_0 g ad o) rfl 9 (by decide) w_1475 rfl rfl gdX12_digest_326 ?_
      refine g_bipush E gdX12_digest_329 (by decide) ?_
      refine g_iload_n E gdX12_digest_331 rfl 1 rfl ?_
      refine g_imul E gdX12_digest_332 ?_
      refine g_iload_n E gdX12_digest_333 rfl 2 rfl ?_
      refine g_iadd E gdX12_digest_334 ?_
      obtain ⟨hi3, h⟩ := qIn_of h
      refine g_iald E 6 (wM_6 g ad o) (by decide) hi3 gdX12_digest_335 ?_
      obtain ⟨n4, e_n4, h⟩ := qNm_of h
      refine g_nmi e_n4 ?_
      obtain ⟨o7, hc6, h⟩ := qB_of h
      refine g_Vv (As := [iv n4]) (rest := []) (w := wM g ad o7) E (c_X12_mix l g ad o n4 o7 hc6) okm_X12_mix okw_X12_mix w_2151 rfl (wM_0 g ad o) rfl rfl (Nat.le_of_ble_eq_true rfl) ⟨Nat.le_of_ble_eq_true rfl, Nat.le_of_ble_eq_true rfl⟩ gdX12_digest_336 ?_
      refine g_iinc E [(2, iv (x2 + 1)), (0, .ref (ad 0)), (1, iv x1)] gdX12_digest_339 2 rfl (by decide) rfl ?_
      refine g_goto E 314 gdX12_digest_342 (by decide) ?_
      refine g_sub E [1, 2, 0] rfl ?_
      exact k0 o7 (x2 + 1) (Option.some.inj h).symm
  have j314 : ∀ (o : OO) (x1 : Int) (x2 : Int) (v : (OO × Int) ⊕ ((OO))), e_X12_digest_314 o x1 x2 = some v → (∀ (o : OO) (x1 : Int), v = .inl (o, x1) → Go X 284 (wM g ad o) [(0, .ref (ad 0)), (1, iv x1)] []) → (∀ (o : OO), v = .inr (o) → Go X 351 (wM g ad o) [(0, .ref (ad 0))] []) → Go X 314 (wM g ad o) [(0, .ref (ad 0)), (1, iv x1), (2, iv x2)] [] := by
    intro o x1 x2 v h k0 k1
    unfold e_X12_digest_314 at h
    obtain ⟨r, hr, h⟩ := qB_of h
    refine l314 x1 r _ hr ?_
    ·
      intro u0 e
      have e := e.symm
      subst e
      have h : b_X12_digest_345 u0 x1 = some v := h
      exact j345 u0 x1 v h k0 k1
  have j309 : ∀ (o : OO) (x1 : Int) (y1 : Int) (v : (OO × Int) ⊕ ((OO))), b_X12_digest_309 o x1 y1 = some v → (∀ (o : OO) (x1 : Int), v = .inl (o, x1) → Go X 284 (wM g ad o) [(0, .ref (ad 0)), (1, iv x1)] []) → (∀ (o : OO), v = .inr (o) → Go X 351 (wM g ad o) [(0, .ref (ad 0))] []) → Go X 309 (wM g ad o) [(0, .ref (ad 0)), (1, iv x1)] [iv y1, .ref (ad 0)] := by
    intro o x1 y1 v h k0 k1
    unfold b_X12_digest_309 at h
    obtain ⟨o10, hc9, h⟩ := qB_of h
    refine g_Vv (As := [iv y1]) (rest := []) (w := wM g ad o10) E (c_X12_mix l g ad o y1 o10 hc9) okm_X12_mix okw_X12_mix w_2151 rfl (wM_0 g ad o) rfl rfl (Nat.le_of_ble_eq_true rfl) ⟨Nat.le_of_ble_eq_true rfl, Nat.le_of_ble_eq_true rfl⟩ gdX12_digest_309 ?_
    refine g_iconst E gdX12_digest_312 ?_
    refine g_istore_n E [(2, iv 0), (0, .ref (ad 0)), (1, iv x1)] gdX12_digest_313 rfl (by decide) rfl ?_
    refine g_sub E [1, 2, 0] rfl ?_
    exact j314 o10 x1 0 v h k0 k1
  have l284 : ∀  (r : (OO)) (s0 : OO × Int), loopW (fun s => l_X12_digest_284 s.1 s.2) s0 = some r → (∀ (o : OO), r = (o) → Go X 351 (wM g ad o) [(0, .ref (ad 0))] []) → Go X 284 (wM g ad s0.1) [(0, .ref (ad 0)), (1, iv s0.2)] [] := by
    intro r s0 h k1
    refine loop_rule (Head := fun s0 => Go X 284 (wM g ad s0.1) [(0, .ref (ad 0)), (1, iv s0.2)] []) h ?_
    intro s v h kk kx
    obtain ⟨o, x1⟩ := s
    have h : l_X12_digest_284 o x1 = some v := h
    have k0 : ∀ (o : OO) (x1 : Int), v = .inl (o, x1) → Go X 284 (wM g ad o) [(0, .ref (ad 0)), (1, iv x1)] [] := fun o x1 e => kk (o, x1) e
    have k1 : ∀ (o : OO), v = .inr (o) → Go X 351 (wM g ad o) [(0, .ref (ad 0))] [] := fun o e => k1 o (kx _ e).symm
    unfold l_X12_digest_284 at h
    refine g_iload_n E gdX12_digest_284 rfl 1 rfl ?_
    refine g_iconst E gdX12_digest_285 ?_
    refine g_icmp_ge E 351 gdX12_digest_286 (by decide) h (fun h => ?_) (fun h => ?_)
    ·
      refine g_sub E [0] rfl ?_
      exact k1 o (Option.some.inj h).symm
    ·
      refine g_aload_n E gdX12_digest_289 rfl 0 rfl ?_
      refine g_aload_n E gdX12_digest_290 rfl 0 rfl ?_
      refine g_get (T := TX12) E fw_X12 0 (wM_0 g ad o) rfl 8 (by decide) w_1474 rfl rfl gdX12_digest_291 ?_
      refine g_iload_n E gdX12_digest_294 rfl 1 rfl ?_
      obtain ⟨hi11, h⟩ := qIn_of h
      refine g_iald E 5 (wM_5 g ad o) (by decide) hi11 gdX12_digest_295 ?_
      obtain ⟨n12, e_n12, h⟩ := qNm_of h
      refine g_nmi e_n12 ?_
      refine g_if_ge E 303 gdX12_digest_296 (by decide) h (fun h => ?_) (fun h => ?_)
      ·
        refine g_aload_n E gdX12_digest_303 rfl 0 rfl ?_
        refine g_get (T := TX12) E fw_X12 0 (wM_0 g ad o) rfl 8 (by decide) w_1474 rfl rfl gdX12_digest_304 ?_
        refine g_iload_n E gdX12_digest_307 rfl 1 rfl ?_
        obtain ⟨hi13, h⟩ := qIn_of h
        refine g_iald E 5 (wM_5 g ad o) (by decide) hi13 gdX12_digest_308 ?_
        obtain ⟨n14, e_n14, h⟩ := qNm_of h
        refine g_nmi e_n14 ?_
        exact j309 o x1 n14 v h k0 k1
      ·
        refine g_iconst E gdX12_digest_299 ?_
        refine g_goto E 309 gdX12_digest_300 (by decide) ?_
        exact j309 o x1 (-1) v h k0 k1
  have j284 : ∀ (o : OO) (x1 : Int), e_X12_digest_284 o x1 = some v → Go X 284 (wM g ad o) [(0, .ref (ad 0)), (1, iv x1)] [] := by
    intro o x1 h
    unfold e_X12_digest_284 at h
    obtain ⟨r, hr, h⟩ := qB_of h
    refine l284  r _ hr ?_
    ·
      intro u0 e
      have e := e.symm
      subst e
      have h : b_X12_digest_351 u0 = some v := h
      exact j351 u0 h
  have j282 : ∀ (o : OO), b_X12_digest_282 o = some v → Go X 282 (wM g ad o) [(0, .ref (ad 0))] [] := by
    intro o h
    unfold b_X12_digest_282 at h
    refine g_iconst E gdX12_digest_282 ?_
    refine g_istore_n E [(1, iv 0), (0, .ref (ad 0))] gdX12_digest_283 rfl (by decide) rfl ?_
    refine g_sub E [1, 0] rfl ?_
    exact j284 o 0 h
  have j276 : ∀ (o : OO) (x1 : Int) (v : (OO × Int) ⊕ ((OO))), b_X12_digest_276 o x1 = some v → (∀ (o : OO) (x1 : Int), v = .inl (o, x1) → Go X 214 (wM g ad o) [(0, .ref (ad 0)), (1, iv x1)] []) → (∀ (o : OO), v = .inr (o) → Go X 282 (wM g ad o) [(0, .ref (ad 0))] []) → Go X 276 (wM g ad o) [(0, .ref (ad 0)), (1, iv x1)] [] := by
    intro o x1 v h k0 k1
    unfold b_X12_digest_276 at h
    refine g_iinc E [(1, iv (x1 + 1)), (0, .ref (ad 0))] gdX12_digest_276 1 rfl (by decide) rfl ?_
    refine g_goto E 214 gdX12_digest_279 (by decide) ?_
    refine g_sub E [1, 0] rfl ?_
    exact k0 o (x1 + 1) (Option.some.inj h).symm
  have l245 : ∀ (x1 : Int) (r : (OO)) (s0 : OO × Int), loopW (fun s => l_X12_digest_245 x1 s.1 s.2) s0 = some r → (∀ (o : OO), r = (o) → Go X 276 (wM g ad o) [(0, .ref (ad 0)), (1, iv x1)] []) → Go X 245 (wM g ad s0.1) [(0, .ref (ad 0)), (1, iv x1), (2, iv s0.2)] [] := by
    intro x1 r s0 h k1
    refine loop_rule (Head := fun s0 => Go X 245 (wM g ad s0.1) [(0, .ref (ad 0)), (1, iv x1), (2, iv s0.2)] []) h ?_
    intro s v h kk kx
    obtain ⟨o, x2⟩ := s
    have h : l_X12_digest_245 x1 o x2 = some v := h
    have k0 : ∀ (o : OO) (x2 : Int), v = .inl (o, x2) → Go X 245 (wM g ad o) [(0, .ref (ad 0)), (1, iv x1), (2, iv x2)] [] := fun o x2 e => kk (o, x2) e
    have k1 : ∀ (o : OO), v = .inr (o) → Go X 276 (wM g ad o) [(0, .ref (ad 0)), (1, iv x1)] [] := fun o e => k1 o (kx _ e).symm
    unfold l_X12_digest_245 at h
    refine g_iload_n E gdX12_digest_245 rfl 2 rfl ?_
    refine g_aload_n E gdX12_digest_246 rfl 0 rfl ?_
    refine g_get (T := TX12) E fw_X12 0 (wM_0 g ad o) rfl 5 (by decide) w_1471 rfl rfl gdX12_digest_247 ?_
    refine g_iload_n E gdX12_digest_250 rfl 1 rfl ?_
    obtain ⟨hi15, h⟩ := qIn_of h
    refine g_iald E 2 (wM_2 g ad o) (by decide) hi15 gdX12_digest_251 ?_
    obtain ⟨n16, e_n16, h⟩ := qNm_of h
    refine g_nmi e_n16 ?_
    refine g_icmp_ge E 276 gdX12_digest_252 (by decide) h (fun h => ?_) (fun h => ?_)
    ·
      refine g_sub E [0, 1] rfl ?_
      exact k1 o (Option.some.inj h).symm
    ·
      refine g_aload_n E gdX12_digest_255 rfl 0 rfl ?_
      refine g_aload_n E gdX12_digest_256 rfl 0 rfl ?_
      refine g_get (T := TX12) E fw_X12 0 (wM_0 g ad o) rfl 6 (by decide) w_1472 rfl rfl gdX12_digest_257 ?_
      refine g_bipush E gdX12_digest_260 (by decide) ?_
      refine g_iload_n E gdX12_digest_262 rfl 1 rfl ?_
      refine g_imul E gdX12_digest_263 ?_
      refine g_iload_n E gdX12_digest_264 rfl 2 rfl ?_
      refine g_iadd E gdX12_digest_265 ?_
      obtain ⟨hi17, h⟩ := qIn_of h
      refine g_iald E 3 (wM_3 g ad o) (by decide) hi17 gdX12_digest_266 ?_
      obtain ⟨n18, e_n18, h⟩ := qNm_of h
      refine g_nmi e_n18 ?_
      obtain ⟨o21, hc20, h⟩ := qB_of h
      refine g_Vv (As := [iv n18]) (rest := []) (w := wM g ad o21) E (c_X12_mix l g ad o n18 o21 hc20) okm_X12_mix okw_X12_mix w_2151 rfl (wM_0 g ad o) rfl rfl (Nat.le_of_ble_eq_true rfl) ⟨Nat.le_of_ble_eq_true rfl, Nat.le_of_ble_eq_true rfl⟩ gdX12_digest_267 ?_
      refine g_iinc E [(2, iv (x2 + 1)), (0, .ref (ad 0)), (1, iv x1)] gdX12_digest_270 2 rfl (by decide) rfl ?_
      refine g_goto E 245 gdX12_digest_273 (by decide) ?_
      refine g_sub E [1, 2, 0] rfl ?_
      exact k0 o21 (x2 + 1) (Option.some.inj h).symm
  have j245 : ∀ (o : OO) (x1 : Int) (x2 : Int) (v : (OO × Int) ⊕ ((OO))), e_X12_digest_245 o x1 x2 = some v → (∀ (o : OO) (x1 : Int), v = .inl (o, x1) → Go X 214 (wM g ad o) [(0, .ref (ad 0)), (1, iv x1)] []) → (∀ (o : OO), v = .inr (o) → Go X 282 (wM g ad o) [(0, .ref (ad 0))] []) → Go X 245 (wM g ad o) [(0, .ref (ad 0)), (1, iv x1), (2, iv x2)] [] := by
    intro o x1 x2 v h k0 k1
    unfold e_X12_digest_245 at h
    obtain ⟨r, hr, h⟩ := qB_of h
    refine l245 x1 r _ hr ?_
    ·
      intro u0 e
      have e := e.symm
      subst e
      have h : b_X12_digest_276 u0 x1 = some v := h
      exact j276 u0 x1 v h k0 k1
  have j240 : ∀ (o : OO) (x1 : Int) (y1 : Int) (v : (OO × Int) ⊕ ((OO))), b_X12_digest_240 o x1 y1 = some v → (∀ (o : OO) (x1 : Int), v = .inl (o, x1) → Go X 214 (wM g ad o) [(0, .ref (ad 0)), (1, iv x1)] []) → (∀ (o : OO), v = .inr (o) → Go X 282 (wM g ad o) [(0, .ref (ad 0))] []) → Go X 240 (wM g ad o) [(0, .ref (ad 0)), (1, iv x1)] [iv y1, .ref (ad 0)] := by
    intro o x1 y1 v h k0 k1
    unfold b_X12_digest_240 at h
    obtain ⟨o24, hc23, h⟩ := qB_of h
    refine g_Vv (As := [iv y1]) (rest := []) (w := wM g ad o24) E (c_X12_mix l g ad o y1 o24 hc23) okm_X12_mix okw_X12_mix w_2151 rfl (wM_0 g ad o) rfl rfl (Nat.le_of_ble_eq_true rfl) ⟨Nat.le_of_ble_eq_true rfl, Nat.le_of_ble_eq_true rfl⟩ gdX12_digest_240 ?_
    refine g_iconst E gdX12_digest_243 ?_
    refine g_istore_n E [(2, iv 0), (0, .ref (ad 0)), (1, iv x1)] gdX12_digest_244 rfl (by decide) rfl ?_
    refine g_sub E [1, 2, 0] rfl ?_
    exact j245 o24 x1 0 v h k0 k1
  have l214 : ∀  (r : (OO)) (s0 : OO × Int), loopW (fun s => l_X12_digest_214 s.1 s.2) s0 = some r → (∀ (o : OO), r = (o) → Go X 282 (wM g ad o) [(0, .ref (ad 0))] []) → Go X 214 (wM g ad s0.1) [(0, .ref (ad 0)), (1, iv s0.2)] [] := by
    intro r s0 h k1
    refine loop_rule (Head := fun s0 => Go X 214 (wM g ad s0.1) [(0, .ref (ad 0)), (1, iv s0.2)] []) h ?_
    intro s v h kk kx
    obtain ⟨o, x1⟩ := s
    have h : l_X12_digest_214 o x1 = some v := h
    have k0 : ∀ (o : OO) (x1 : Int), v = .inl (o, x1) → Go X 214 (wM g ad o) [(0, .ref (ad 0)), (1, iv x1)] [] := fun o x1 e => kk (o, x1) e
    have k1 : ∀ (o : OO), v = .inr (o) → Go X 282 (wM g ad o) [(0, .ref (ad 0))] [] := fun o e => k1 o (kx _ e).symm
    unfold l_X12_digest_214 at h
    refine g_iload_n E gdX12_digest_214 rfl 1 rfl ?_
    refine g_bipush E gdX12_digest_215 (by decide) ?_
    refine g_icmp_ge E 282 gdX12_digest_217 (by decide) h (fun h => ?_) (fun h => ?_)
    ·
      refine g_sub E [0] rfl ?_
      exact k1 o (Option.some.inj h).symm
    ·
      refine g_aload_n E gdX12_digest_220 rfl 0 rfl ?_
      refine g_aload_n E gdX12_digest_221 rfl 0 rfl ?_
      refine g_get (T := TX12) E fw_X12 0 (wM_0 g ad o) rfl 5 (by decide) w_1471 rfl rfl gdX12_digest_222 ?_
      refine g_iload_n E gdX12_digest_225 rfl 1 rfl ?_
      obtain ⟨hi25, h⟩ := qIn_of h
      refine g_iald E 2 (wM_2 g ad o) (by decide) hi25 gdX12_digest_226 ?_
      obtain ⟨n26, e_n26, h⟩ := qNm_of h
      refine g_nmi e_n26 ?_
      refine g_if_ge E 234 gdX12_digest_227 (by decide) h (fun h => ?_) (fun h => ?_)
      ·
        refine g_aload_n E gdX12_digest_234 rfl 0 rfl ?_
        refine g_get (T := TX12) E fw_X12 0 (wM_0 g ad o) rfl 5 (by decide) w_1471 rfl rfl gdX12_digest_235 ?_
        refine g_iload_n E gdX12_digest_238 rfl 1 rfl ?_
        obtain ⟨hi27, h⟩ := qIn_of h
        refine g_iald E 2 (wM_2 g ad o) (by decide) hi27 gdX12_digest_239 ?_
        obtain ⟨n28, e_n28, h⟩ := qNm_of h
        refine g_nmi e_n28 ?_
        exact j240 o x1 n28 v h k0 k1
      ·
        refine g_iconst E gdX12_digest_230 ?_
        refine g_goto E 240 gdX12_digest_231 (by decide) ?_
        exact j240 o x1 (-1) v h k0 k1
  have j214 : ∀ (o : OO) (x1 : Int), e_X12_digest_214 o x1 = some v → Go X 214 (wM g ad o) [(0, .ref (ad 0)), (1, iv x1)] [] := by
    intro o x1 h
    unfold e_X12_digest_214 at h
    obtain ⟨r, hr, h⟩ := qB_of h
    refine l214  r _ hr ?_
    ·
      intro u0 e
      have e := e.symm
      subst e
      have h : b_X12_digest_282 u0 = some v := h
      exact j282 u0 h
  have j212 : ∀ (o : OO), b_X12_digest_212 o = some v → Go X 212 (wM g ad o) [(0, .ref (ad 0))] [] := by
    intro o h
    unfold b_X12_digest_212 at h
    refine g_iconst E gdX12_digest_212 ?_
    refine g_istore_n E [(1, iv 0), (0, .ref (ad 0))] gdX12_digest_213 rfl (by decide) rfl ?_
    refine g_sub E [1, 0] rfl ?_
    exact j214 o 0 h
  have l193 : ∀  (r : (OO)) (s0 : OO × Int), loopW (fun s => l_X12_digest_193 s.1 s.2) s0 = some r → (∀ (o : OO), r = (o) → Go X 212 (wM g ad o) [(0, .ref (ad 0))] []) → Go X 193 (wM g ad s0.1) [(0, .ref (ad 0)), (1, iv s0.2)] [] := by
    intro r s0 h k1
    refine loop_rule (Head := fun s0 => Go X 193 (wM g ad s0.1) [(0, .ref (ad 0)), (1, iv s0.2)] []) h ?_
    intro s v h kk kx
    obtain ⟨o, x1⟩ := s
    have h : l_X12_digest_193 o x1 = some v := h
    have k0 : ∀ (o : OO) (x1 : Int), v = .inl (o, x1) → Go X 193 (wM g ad o) [(0, .ref (ad 0)), (1, iv x1)] [] := fun o x1 e => kk (o, x1) e
    have k1 : ∀ (o : OO), v = .inr (o) → Go X 212 (wM g ad o) [(0, .ref (ad 0))] [] := fun o e => k1 o (kx _ e).symm
    unfold l_X12_digest_193 at h
    refine g_iload_n E gdX12_digest_193 rfl 1 rfl ?_
    refine g_aload_n E gdX12_digest_194 rfl 0 rfl ?_
    refine g_get (T := TX12) E fw_X12 0 (wM_0 g ad o) rfl 32 (by decide) w_1498 rfl rfl gdX12_digest_195 ?_
    refine g_icmp_ge E 212 gdX12_digest_198 (by decide) h (fun h => ?_) (fun h => ?_)
    ·
      refine g_sub E [0] rfl ?_
      exact k1 o (Option.some.inj h).symm
    ·
      refine g_aload_n E gdX12_digest_201 rfl 0 rfl ?_
      refine g_iload_n E gdX12_digest_202 rfl 1 rfl ?_
      obtain ⟨o31, hc30, h⟩ := qB_of h
      refine g_Vv (As := [iv x1]) (rest := []) (w := wM g ad o31) E (c_X12_mixMark l g ad o x1 o31 hc30) okm_X12_mixMark okw_X12_mixMark w_2156 rfl (wM_0 g ad o) rfl rfl (Nat.le_of_ble_eq_true rfl) ⟨Nat.le_of_ble_eq_true rfl, Nat.le_of_ble_eq_true rfl⟩ gdX12_digest_203 ?_
      refine g_iinc E [(1, iv (x1 + 1)), (0, .ref (ad 0))] gdX12_digest_206 1 rfl (by decide) rfl ?_
      refine g_goto E 193 gdX12_digest_209 (by decide) ?_
      refine g_sub E [1, 0] rfl ?_
      exact k0 o31 (x1 + 1) (Option.some.inj h).symm
  have j193 : ∀ (o : OO) (x1 : Int), e_X12_digest_193 o x1 = some v → Go X 193 (wM g ad o) [(0, .ref (ad 0)), (1, iv x1)] [] := by
    intro o x1 h
    unfold e_X12_digest_193 at h
    obtain ⟨r, hr, h⟩ := qB_of h
    refine l193  r _ hr ?_
    ·
      intro u0 e
      have e := e.symm
      subst e
      have h : b_X12_digest_212 u0 = some v := h
      exact j212 u0 h
  have j191 : ∀ (o : OO), b_X12_digest_191 o = some v → Go X 191 (wM g ad o) [(0, .ref (ad 0))] [] := by
    intro o h
    unfold b_X12_digest_191 at h
    refine g_iconst E gdX12_digest_191 ?_
    refine g_istore_n E [(1, iv 0), (0, .ref (ad 0))] gdX12_digest_192 rfl (by decide) rfl ?_
    refine g_sub E [1, 0] rfl ?_
    exact j193 o 0 h
  have l157 : ∀  (r : (OO)) (s0 : OO × Int), loopW (fun s => l_X12_digest_157 s.1 s.2) s0 = some r → (∀ (o : OO), r = (o) → Go X 191 (wM g ad o) [(0, .ref (ad 0))] []) → Go X 157 (wM g ad s0.1) [(0, .ref (ad 0)), (1, iv s0.2)] [] := by
    intro r s0 h k1
    refine loop_rule (Head := fun s0 => Go X 157 (wM g ad s0.1) [(0, .ref (ad 0)), (1, iv s0.2)] []) h ?_
    intro s v h kk kx
    obtain ⟨o, x1⟩ := s
    have h : l_X12_digest_157 o x1 = some v := h
    have k0 : ∀ (o : OO) (x1 : Int), v = .inl (o, x1) → Go X 157 (wM g ad o) [(0, .ref (ad 0)), (1, iv x1)] [] := fun o x1 e => kk (o, x1) e
    have k1 : ∀ (o : OO), v = .inr (o) → Go X 191 (wM g ad o) [(0, .ref (ad 0))] [] := fun o e => k1 o (kx _ e).symm
    unfold l_X12_digest_157 at h
    refine g_iload_n E gdX12_digest_157 rfl 1 rfl ?_
    refine g_aload_n E gdX12_digest_158 rfl 0 rfl ?_
    refine g_get (T := TX12) E fw_X12 0 (wM_0 g ad o) rfl 10 (by decide) w_1476 rfl rfl gdX12_digest_159 ?_
    refine g_icmp_ge E 191 gdX12_digest_162 (by decide) h (fun h => ?_) (fun h => ?_)
    ·
      refine g_sub E [0] rfl ?_
      exact k1 o (Option.some.inj h).symm
    ·
      refine g_aload_n E gdX12_digest_165 rfl 0 rfl ?_
      refine g_aload_n E gdX12_digest_166 rfl 0 rfl ?_
      refine g_get (T := TX12) E fw_X12 0 (wM_0 g ad o) rfl 11 (by decide) w_1477 rfl rfl gdX12_digest_167 ?_
      refine g_iload_n E gdX12_digest_170 rfl 1 rfl ?_
      obtain ⟨hi32, h⟩ := qIn_of h
      refine g_iald E 7 (wM_7 g ad o) (by decide) hi32 gdX12_digest_171 ?_
      obtain ⟨n33, e_n33, h⟩ := qNm_of h
      refine g_nmi e_n33 ?_
      obtain ⟨o36, hc35, h⟩ := qB_of h
      refine g_Vv (As := [iv n33]) (rest := []) (w := wM g ad o36) E (c_X12_mix l g ad o n33 o36 hc35) okm_X12_mix okw_X12_mix w_2151 rfl (wM_0 g ad o) rfl rfl (Nat.le_of_ble_eq_true rfl) ⟨Nat.le_of_ble_eq_true rfl, Nat.le_of_ble_eq_true rfl⟩ gdX12_digest_172 ?_
      refine g_aload_n E gdX12_digest_175 rfl 0 rfl ?_
      refine g_aload_n E gdX12_digest_176 rfl 0 rfl ?_
      refine g_get (T := TX12) E fw_X12 0 (wM_0 g ad o36) rfl 12 (by decide) w_1478 rfl rfl gdX12_digest_177 ?_
      refine g_iload_n E gdX12_digest_180 rfl 1 rfl ?_
      obtain ⟨hi37, h⟩ := qIn_of h
      refine g_iald E 8 (wM_8 g ad o36) (by decide) hi37 gdX12_digest_181 ?_
      obtain ⟨n38, e_n38, h⟩ := qNm_of h
      refine g_nmi e_n38 ?_
      obtain ⟨o41, hc40, h⟩ := qB_of h
      refine g_Vv (As := [iv n38]) (rest := []) (w := wM g ad o41) E (c_X12_mix l g ad o36 n38 o41 hc40) okm_X12_mix okw_X12_mix w_2151 rfl (wM_0 g ad o36) rfl rfl (Nat.le_of_ble_eq_true rfl) ⟨Nat.le_of_ble_eq_true rfl, Nat.le_of_ble_eq_true rfl⟩ gdX12_digest_182 ?_
      refine g_iinc E [(1, iv (x1 + 1)), (0, .ref (ad 0))] gdX12_digest_185 1 rfl (by decide) rfl ?_
      refine g_goto E 157 gdX12_digest_188 (by decide) ?_
      refine g_sub E [1, 0] rfl ?_
      exact k0 o41 (x1 + 1) (Option.some.inj h).symm
  have j157 : ∀ (o : OO) (x1 : Int), e_X12_digest_157 o x1 = some v → Go X 157 (wM g ad o) [(0, .ref (ad 0)), (1, iv x1)] [] := by
    intro o x1 h
    unfold e_X12_digest_157 at h
    obtain ⟨r, hr, h⟩ := qB_of h
    refine l157  r _ hr ?_
    ·
      intro u0 e
      have e := e.symm
      subst e
      have h : b_X12_digest_191 u0 = some v := h
      exact j191 u0 h
  have j155 : ∀ (o : OO), b_X12_digest_155 o = some v → Go X 155 (wM g ad o) [(0, .ref (ad 0))] [] := by
    intro o h
    unfold b_X12_digest_155 at h
    refine g_iconst E gdX12_digest_155 ?_
    refine g_istore_n E [(1, iv 0), (0, .ref (ad 0))] gdX12_digest_156 rfl (by decide) rfl ?_
    refine g_sub E [1, 0] rfl ?_
    exact j157 o 0 h
  have j149 : ∀ (o : OO) (x1 : Int) (v : (OO × Int) ⊕ ((OO))), b_X12_digest_149 o x1 = some v → (∀ (o : OO) (x1 : Int), v = .inl (o, x1) → Go X 118 (wM g ad o) [(0, .ref (ad 0)), (1, iv x1)] []) → (∀ (o : OO), v = .inr (o) → Go X 155 (wM g ad o) [(0, .ref (ad 0))] []) → Go X 149 (wM g ad o) [(0, .ref (ad 0)), (1, iv x1)] [] := by
    intro o x1 v h k0 k1
    unfold b_X12_digest_149 at h
    refine g_iinc E [(1, iv (x1 + 1)), (0, .ref (ad 0))] gdX12_digest_149 1 rfl (by decide) rfl ?_
    refine g_goto E 118 gdX12_digest_152 (by decide) ?_
    refine g_sub E [1, 0] rfl ?_
    exact k0 o (x1 + 1) (Option.some.inj h).symm
  have l128 : ∀ (x1 : Int) (r : (OO)) (s0 : OO × Int), loopW (fun s => l_X12_digest_128 x1 s.1 s.2) s0 = some r → (∀ (o : OO), r = (o) → Go X 149 (wM g ad o) [(0, .ref (ad 0)), (1, iv x1)] []) → Go X 128 (wM g ad s0.1) [(0, .ref (ad 0)), (1, iv x1), (2, iv s0.2)] [] := by
    intro x1 r s0 h k1
    refine loop_rule (Head := fun s0 => Go X 128 (wM g ad s0.1) [(0, .ref (ad 0)), (1, iv x1), (2, iv s0.2)] []) h ?_
    intro s v h kk kx
    obtain ⟨o, x2⟩ := s
    have h : l_X12_digest_128 x1 o x2 = some v := h
    have k0 : ∀ (o : OO) (x2 : Int), v = .inl (o, x2) → Go X 128 (wM g ad o) [(0, .ref (ad 0)), (1, iv x1), (2, iv x2)] [] := fun o x2 e => kk (o, x2) e
    have k1 : ∀ (o : OO), v = .inr (o) → Go X 149 (wM g ad o) [(0, .ref (ad 0)), (1, iv x1)] [] := fun o e => k1 o (kx _ e).symm
    unfold l_X12_digest_128 at h
    refine g_iload_n E gdX12_digest_128 rfl 2 rfl ?_
    refine g_iconst E gdX12_digest_129 ?_
    refine g_icmp_gt E 149 gdX12_digest_130 (by decide) h (fun h => ?_) (fun h => ?_)
    ·
      refine g_sub E [0, 1] rfl ?_
      exact k1 o (Option.some.inj h).symm
    ·
      refine g_aload_n E gdX12_digest_133 rfl 0 rfl ?_
      refine g_aload_n E gdX12_digest_134 rfl 0 rfl ?_
      refine g_iload_n E gdX12_digest_135 rfl 1 rfl ?_
      refine g_iload_n E gdX12_digest_136 rfl 2 rfl ?_
      obtain ⟨r42, hc43, h⟩ := qB_of h
      refine g_Vi (r := r42) (As := [iv x1, iv x2]) (rest := [.ref (ad 0)]) (w := wM g ad o) E (c_X12_personTells l g ad o x1 x2 r42 hc43) okm_X12_personTells okw_X12_personTells w_1855 rfl (wM_0 g ad o) rfl rfl (Nat.le_of_ble_eq_true rfl) ⟨Nat.le_of_ble_eq_true rfl, Nat.le_of_ble_eq_true rfl⟩ gdX12_digest_137 ?_
      obtain ⟨o46, hc45, h⟩ := qB_of h
      refine g_Vv (As := [iv r42]) (rest := []) (w := wM g ad o46) E (c_X12_mix l g ad o r42 o46 hc45) okm_X12_mix okw_X12_mix w_2151 rfl (wM_0 g ad o) rfl rfl (Nat.le_of_ble_eq_true rfl) ⟨Nat.le_of_ble_eq_true rfl, Nat.le_of_ble_eq_true rfl⟩ gdX12_digest_140 ?_
      refine g_iinc E [(2, iv (x2 + 1)), (0, .ref (ad 0)), (1, iv x1)] gdX12_digest_143 2 rfl (by decide) rfl ?_
      refine g_goto E 128 gdX12_digest_146 (by decide) ?_
      refine g_sub E [1, 2, 0] rfl ?_
      exact k0 o46 (x2 + 1) (Option.some.inj h).symm
  have j128 : ∀ (o : OO) (x1 : Int) (x2 : Int) (v : (OO × Int) ⊕ ((OO))), e_X12_digest_128 o x1 x2 = some v → (∀ (o : OO) (x1 : Int), v = .inl (o, x1) → Go X 118 (wM g ad o) [(0, .ref (ad 0)), (1, iv x1)] []) → (∀ (o : OO), v = .inr (o) → Go X 155 (wM g ad o) [(0, .ref (ad 0))] []) → Go X 128 (wM g ad o) [(0, .ref (ad 0)), (1, iv x1), (2, iv x2)] [] := by
    intro o x1 x2 v h k0 k1
    unfold e_X12_digest_128 at h
    obtain ⟨r, hr, h⟩ := qB_of h
    refine l128 x1 r _ hr ?_
    ·
      intro u0 e
      have e := e.symm
      subst e
      have h : b_X12_digest_149 u0 x1 = some v := h
      exact j149 u0 x1 v h k0 k1
  have l118 : ∀  (r : (OO)) (s0 : OO × Int), loopW (fun s => l_X12_digest_118 s.1 s.2) s0 = some r → (∀ (o : OO), r = (o) → Go X 155 (wM g ad o) [(0, .ref (ad 0))] []) → Go X 118 (wM g ad s0.1) [(0, .ref (ad 0)), (1, iv s0.2)] [] := by
    intro r s0 h k1
    refine loop_rule (Head := fun s0 => Go X 118 (wM g ad s0.1) [(0, .ref (ad 0)), (1, iv s0.2)] []) h ?_
    intro s v h kk kx
    obtain ⟨o, x1⟩ := s
    have h : l_X12_digest_118 o x1 = some v := h
    have k0 : ∀ (o : OO) (x1 : Int), v = .inl (o, x1) → Go X 118 (wM g ad o) [(0, .ref (ad 0)), (1, iv x1)] [] := fun o x1 e => kk (o, x1) e
    have k1 : ∀ (o : OO), v = .inr (o) → Go X 155 (wM g ad o) [(0, .ref (ad 0))] [] := fun o e => k1 o (kx _ e).symm
    unfold l_X12_digest_118 at h
    refine g_iload_n E gdX12_digest_118 rfl 1 rfl ?_
    refine g_aload_n E gdX12_digest_119 rfl 0 rfl ?_
    refine g_get (T := TX12) E fw_X12 0 (wM_0 g ad o) rfl 27 (by decide) w_1493 rfl rfl gdX12_digest_120 ?_
    refine g_icmp_ge E 155 gdX12_digest_123 (by decide) h (fun h => ?_) (fun h => ?_)
    ·
      refine g_sub E [0] rfl ?_
      exact k1 o (Option.some.inj h).symm
    ·
      refine g_iconst E gdX12_digest_126 ?_
      refine g_istore_n E [(2, iv 0), (0, .ref (ad 0)), (1, iv x1)] gdX12_digest_127 rfl (by decide) rfl ?_
      refine g_sub E [1, 2, 0] rfl ?_
      exact j128 o x1 0 v h k0 k1
  have j118 : ∀ (o : OO) (x1 : Int), e_X12_digest_118 o x1 = some v → Go X 118 (wM g ad o) [(0, .ref (ad 0)), (1, iv x1)] [] := by
    intro o x1 h
    unfold e_X12_digest_118 at h
    obtain ⟨r, hr, h⟩ := qB_of h
    refine l118  r _ hr ?_
    ·
      intro u0 e
      have e := e.symm
      subst e
      have h : b_X12_digest_155 u0 = some v := h
      exact j155 u0 h
  have j116 : ∀ (o : OO), b_X12_digest_116 o = some v → Go X 116 (wM g ad o) [(0, .ref (ad 0))] [] := by
    intro o h
    unfold b_X12_digest_116 at h
    refine g_iconst E gdX12_digest_116 ?_
    refine g_istore_n E [(1, iv 0), (0, .ref (ad 0))] gdX12_digest_117 rfl (by decide) rfl ?_
    refine g_sub E [1, 0] rfl ?_
    exact j118 o 0 h
  have j97 : ∀ (o : OO) (x1 : Int) (v : (OO × Int) ⊕ ((OO))), b_X12_digest_97 o x1 = some v → (∀ (o : OO) (x1 : Int), v = .inl (o, x1) → Go X 66 (wM g ad o) [(0, .ref (ad 0)), (1, iv x1)] []) → (∀ (o : OO), v = .inr (o) → Go X 116 (wM g ad o) [(0, .ref (ad 0))] []) → Go X 97 (wM g ad o) [(0, .ref (ad 0)), (1, iv x1)] [] := by
    intro o x1 v h k0 k1
    unfold b_X12_digest_97 at h
    refine g_aload_n E gdX12_digest_97 rfl 0 rfl ?_
    refine g_aload_n E gdX12_digest_98 rfl 0 rfl ?_
    refine g_iload_n E gdX12_digest_99 rfl 1 rfl ?_
    refine g_aload_n E gdX12_digest_100 rfl 0 rfl ?_
    refine g_get (T := TX12) E fw_X12 0 (wM_0 g ad o) rfl 4 (by decide) w_1470 rfl rfl gdX12_digest_101 ?_
    obtain ⟨r47, hc48, h⟩ := qB_of h
    refine g_Vi (r := r47) (As := [iv x1, iv (o.1 0 4)]) (rest := [.ref (ad 0)]) (w := wM g ad o) E (c_X12_valueOf l g ad o x1 (o.1 0 4) r47 hc48) okm_X12_valueOf okw_X12_valueOf w_1815 rfl (wM_0 g ad o) rfl rfl (Nat.le_of_ble_eq_true rfl) ⟨Nat.le_of_ble_eq_true rfl, Nat.le_of_ble_eq_true rfl⟩ gdX12_digest_104 ?_
    obtain ⟨o51, hc50, h⟩ := qB_of h
    refine g_Vv (As := [iv r47]) (rest := []) (w := wM g ad o51) E (c_X12_mix l g ad o r47 o51 hc50) okm_X12_mix okw_X12_mix w_2151 rfl (wM_0 g ad o) rfl rfl (Nat.le_of_ble_eq_true rfl) ⟨Nat.le_of_ble_eq_true rfl, Nat.le_of_ble_eq_true rfl⟩ gdX12_digest_107 ?_
    refine g_iinc E [(1, iv (x1 + 1)), (0, .ref (ad 0))] gdX12_digest_110 1 rfl (by decide) rfl ?_
    refine g_goto E 66 gdX12_digest_113 (by decide) ?_
    refine g_sub E [1, 0] rfl ?_
    exact k0 o51 (x1 + 1) (Option.some.inj h).symm
  have l76 : ∀ (x1 : Int) (r : (OO)) (s0 : OO × Int), loopW (fun s => l_X12_digest_76 x1 s.1 s.2) s0 = some r → (∀ (o : OO), r = (o) → Go X 97 (wM g ad o) [(0, .ref (ad 0)), (1, iv x1)] []) → Go X 76 (wM g ad s0.1) [(0, .ref (ad 0)), (1, iv x1), (2, iv s0.2)] [] := by
    intro x1 r s0 h k1
    refine loop_rule (Head := fun s0 => Go X 76 (wM g ad s0.1) [(0, .ref (ad 0)), (1, iv x1), (2, iv s0.2)] []) h ?_
    intro s v h kk kx
    obtain ⟨o, x2⟩ := s
    have h : l_X12_digest_76 x1 o x2 = some v := h
    have k0 : ∀ (o : OO) (x2 : Int), v = .inl (o, x2) → Go X 76 (wM g ad o) [(0, .ref (ad 0)), (1, iv x1), (2, iv x2)] [] := fun o x2 e => kk (o, x2) e
    have k1 : ∀ (o : OO), v = .inr (o) → Go X 97 (wM g ad o) [(0, .ref (ad 0)), (1, iv x1)] [] := fun o e => k1 o (kx _ e).symm
    unfold l_X12_digest_76 at h
    refine g_iload_n E gdX12_digest_76 rfl 2 rfl ?_
    refine g_iconst E gdX12_digest_77 ?_
    refine g_icmp_gt E 97 gdX12_digest_78 (by decide) h (fun h => ?_) (fun h => ?_)
    ·
      refine g_sub E [0, 1] rfl ?_
      exact k1 o (Option.some.inj h).symm
    ·
      refine g_aload_n E gdX12_digest_81 rfl 0 rfl ?_
      refine g_aload_n E gdX12_digest_82 rfl 0 rfl ?_
      refine g_iload_n E gdX12_digest_83 rfl 1 rfl ?_
      refine g_iload_n E gdX12_digest_84 rfl 2 rfl ?_
      obtain ⟨r52, hc53, h⟩ := qB_of h
      refine g_Vi (r := r52) (As := [iv x1, iv x2]) (rest := [.ref (ad 0)]) (w := wM g ad o) E (c_X12_houseTells l g ad o x1 x2 r52 hc53) okm_X12_houseTells okw_X12_houseTells w_1827 rfl (wM_0 g ad o) rfl rfl (Nat.le_of_ble_eq_true rfl) ⟨Nat.le_of_ble_eq_true rfl, Nat.le_of_ble_eq_true rfl⟩ gdX12_digest_85 ?_
      obtain ⟨o56, hc55, h⟩ := qB_of h
      refine g_Vv (As := [iv r52]) (rest := []) (w := wM g ad o56) E (c_X12_mix l g ad o r52 o56 hc55) okm_X12_mix okw_X12_mix w_2151 rfl (wM_0 g ad o) rfl rfl (Nat.le_of_ble_eq_true rfl) ⟨Nat.le_of_ble_eq_true rfl, Nat.le_of_ble_eq_true rfl⟩ gdX12_digest_88 ?_
      refine g_iinc E [(2, iv (x2 + 1)), (0, .ref (ad 0)), (1, iv x1)] gdX12_digest_91 2 rfl (by decide) rfl ?_
      refine g_goto E 76 gdX12_digest_94 (by decide) ?_
      refine g_sub E [1, 2, 0] rfl ?_
      exact k0 o56 (x2 + 1) (Option.some.inj h).symm
  have j76 : ∀ (o : OO) (x1 : Int) (x2 : Int) (v : (OO × Int) ⊕ ((OO))), e_X12_digest_76 o x1 x2 = some v → (∀ (o : OO) (x1 : Int), v = .inl (o, x1) → Go X 66 (wM g ad o) [(0, .ref (ad 0)), (1, iv x1)] []) → (∀ (o : OO), v = .inr (o) → Go X 116 (wM g ad o) [(0, .ref (ad 0))] []) → Go X 76 (wM g ad o) [(0, .ref (ad 0)), (1, iv x1), (2, iv x2)] [] := by
    intro o x1 x2 v h k0 k1
    unfold e_X12_digest_76 at h
    obtain ⟨r, hr, h⟩ := qB_of h
    refine l76 x1 r _ hr ?_
    ·
      intro u0 e
      have e := e.symm
      subst e
      have h : b_X12_digest_97 u0 x1 = some v := h
      exact j97 u0 x1 v h k0 k1
  have l66 : ∀  (r : (OO)) (s0 : OO × Int), loopW (fun s => l_X12_digest_66 s.1 s.2) s0 = some r → (∀ (o : OO), r = (o) → Go X 116 (wM g ad o) [(0, .ref (ad 0))] []) → Go X 66 (wM g ad s0.1) [(0, .ref (ad 0)), (1, iv s0.2)] [] := by
    intro r s0 h k1
    refine loop_rule (Head := fun s0 => Go X 66 (wM g ad s0.1) [(0, .ref (ad 0)), (1, iv s0.2)] []) h ?_
    intro s v h kk kx
    obtain ⟨o, x1⟩ := s
    have h : l_X12_digest_66 o x1 = some v := h
    have k0 : ∀ (o : OO) (x1 : Int), v = .inl (o, x1) → Go X 66 (wM g ad o) [(0, .ref (ad 0)), (1, iv x1)] [] := fun o x1 e => kk (o, x1) e
    have k1 : ∀ (o : OO), v = .inr (o) → Go X 116 (wM g ad o) [(0, .ref (ad 0))] [] := fun o e => k1 o (kx _ e).symm
    unfold l_X12_digest_66 at h
    refine g_iload_n E gdX12_digest_66 rfl 1 rfl ?_
    refine g_aload_n E gdX12_digest_67 rfl 0 rfl ?_
    refine g_get (T := TX12) E fw_X12 0 (wM_0 g ad o) rfl 17 (by decide) w_1483 rfl rfl gdX12_digest_68 ?_
    refine g_icmp_ge E 116 gdX12_digest_71 (by decide) h (fun h => ?_) (fun h => ?_)
    ·
      refine g_sub E [0] rfl ?_
      exact k1 o (Option.some.inj h).symm
    ·
      refine g_iconst E gdX12_digest_74 ?_
      refine g_istore_n E [(2, iv 0), (0, .ref (ad 0)), (1, iv x1)] gdX12_digest_75 rfl (by decide) rfl ?_
      refine g_sub E [1, 2, 0] rfl ?_
      exact j76 o x1 0 v h k0 k1
  have j66 : ∀ (o : OO) (x1 : Int), e_X12_digest_66 o x1 = some v → Go X 66 (wM g ad o) [(0, .ref (ad 0)), (1, iv x1)] [] := by
    intro o x1 h
    unfold e_X12_digest_66 at h
    obtain ⟨r, hr, h⟩ := qB_of h
    refine l66  r _ hr ?_
    ·
      intro u0 e
      have e := e.symm
      subst e
      have h : b_X12_digest_116 u0 = some v := h
      exact j116 u0 h
  have j64 : ∀ (o : OO), b_X12_digest_64 o = some v → Go X 64 (wM g ad o) [(0, .ref (ad 0))] [] := by
    intro o h
    unfold b_X12_digest_64 at h
    refine g_iconst E gdX12_digest_64 ?_
    refine g_istore_n E [(1, iv 0), (0, .ref (ad 0))] gdX12_digest_65 rfl (by decide) rfl ?_
    refine g_sub E [1, 0] rfl ?_
    exact j66 o 0 h
  have l32 : ∀  (r : (OO)) (s0 : OO × Int), loopW (fun s => l_X12_digest_32 s.1 s.2) s0 = some r → (∀ (o : OO), r = (o) → Go X 64 (wM g ad o) [(0, .ref (ad 0))] []) → Go X 32 (wM g ad s0.1) [(0, .ref (ad 0)), (1, iv s0.2)] [] := by
    intro r s0 h k1
    refine loop_rule (Head := fun s0 => Go X 32 (wM g ad s0.1) [(0, .ref (ad 0)), (1, iv s0.2)] []) h ?_
    intro s v h kk kx
    obtain ⟨o, x1⟩ := s
    have h : l_X12_digest_32 o x1 = some v := h
    have k0 : ∀ (o : OO) (x1 : Int), v = .inl (o, x1) → Go X 32 (wM g ad o) [(0, .ref (ad 0)), (1, iv x1)] [] := fun o x1 e => kk (o, x1) e
    have k1 : ∀ (o : OO), v = .inr (o) → Go X 64 (wM g ad o) [(0, .ref (ad 0))] [] := fun o e => k1 o (kx _ e).symm
    unfold l_X12_digest_32 at h
    refine g_iload_n E gdX12_digest_32 rfl 1 rfl ?_
    refine g_bipush E gdX12_digest_33 (by decide) ?_
    refine g_icmp_ge E 64 gdX12_digest_35 (by decide) h (fun h => ?_) (fun h => ?_)
    ·
      refine g_sub E [0] rfl ?_
      exact k1 o (Option.some.inj h).symm
    ·
      refine g_aload_n E gdX12_digest_38 rfl 0 rfl ?_
      refine g_aload_n E gdX12_digest_39 rfl 0 rfl ?_
      refine g_get (T := TX12) E fw_X12 0 (wM_0 g ad o) rfl 15 (by decide) w_1481 rfl rfl gdX12_digest_40 ?_
      refine g_iload_n E gdX12_digest_43 rfl 1 rfl ?_
      obtain ⟨hi57, h⟩ := qIn_of h
      refine g_iald E 11 (wM_11 g ad o) (by decide) hi57 gdX12_digest_44 ?_
      obtain ⟨n58, e_n58, h⟩ := qNm_of h
      refine g_nmi e_n58 ?_
      obtain ⟨o61, hc60, h⟩ := qB_of h
      refine g_Vv (As := [iv n58]) (rest := []) (w := wM g ad o61) E (c_X12_mix l g ad o n58 o61 hc60) okm_X12_mix okw_X12_mix w_2151 rfl (wM_0 g ad o) rfl rfl (Nat.le_of_ble_eq_true rfl) ⟨Nat.le_of_ble_eq_true rfl, Nat.le_of_ble_eq_true rfl⟩ gdX12_digest_45 ?_
      refine g_aload_n E gdX12_digest_48 rfl 0 rfl ?_
      refine g_aload_n E gdX12_digest_49 rfl 0 rfl ?_
      refine g_get (T := TX12) E fw_X12 0 (wM_0 g ad o61) rfl 16 (by decide) w_1482 rfl rfl gdX12_digest_50 ?_
      refine g_iload_n E gdX12_digest_53 rfl 1 rfl ?_
      obtain ⟨hi62, h⟩ := qIn_of h
      refine g_iald E 12 (wM_12 g ad o61) (by decide) hi62 gdX12_digest_54 ?_
      obtain ⟨n63, e_n63, h⟩ := qNm_of h
      refine g_nmi e_n63 ?_
      obtain ⟨o66, hc65, h⟩ := qB_of h
      refine g_Vv (As := [iv n63]) (rest := []) (w := wM g ad o66) E (c_X12_mix l g ad o61 n63 o66 hc65) okm_X12_mix okw_X12_mix w_2151 rfl (wM_0 g ad o61) rfl rfl (Nat.le_of_ble_eq_true rfl) ⟨Nat.le_of_ble_eq_true rfl, Nat.le_of_ble_eq_true rfl⟩ gdX12_digest_55 ?_
      refine g_iinc E [(1, iv (x1 + 1)), (0, .ref (ad 0))] gdX12_digest_58 1 rfl (by decide) rfl ?_
      refine g_goto E 32 gdX12_digest_61 (by decide) ?_
      refine g_sub E [1, 0] rfl ?_
      exact k0 o66 (x1 + 1) (Option.some.inj h).symm
  have j32 : ∀ (o : OO) (x1 : Int), e_X12_digest_32 o x1 = some v → Go X 32 (wM g ad o) [(0, .ref (ad 0)), (1, iv x1)] [] := by
    intro o x1 h
    unfold e_X12_digest_32 at h
    obtain ⟨r, hr, h⟩ := qB_of h
    refine l32  r _ hr ?_
    ·
      intro u0 e
      have e := e.symm
      subst e
      have h : b_X12_digest_64 u0 = some v := h
      exact j64 u0 h
  have j30 : ∀ (o : OO), b_X12_digest_30 o = some v → Go X 30 (wM g ad o) [(0, .ref (ad 0))] [] := by
    intro o h
    unfold b_X12_digest_30 at h
    refine g_iconst E gdX12_digest_30 ?_
    refine g_istore_n E [(1, iv 0), (0, .ref (ad 0))] gdX12_digest_31 rfl (by decide) rfl ?_
    refine g_sub E [1, 0] rfl ?_
    exact j32 o 0 h
  have l9 : ∀  (r : (OO)) (s0 : OO × Int), loopW (fun s => l_X12_digest_9 s.1 s.2) s0 = some r → (∀ (o : OO), r = (o) → Go X 30 (wM g ad o) [(0, .ref (ad 0))] []) → Go X 9 (wM g ad s0.1) [(0, .ref (ad 0)), (1, iv s0.2)] [] := by
    intro r s0 h k1
    refine loop_rule (Head := fun s0 => Go X 9 (wM g ad s0.1) [(0, .ref (ad 0)), (1, iv s0.2)] []) h ?_
    intro s v h kk kx
    obtain ⟨o, x1⟩ := s
    have h : l_X12_digest_9 o x1 = some v := h
    have k0 : ∀ (o : OO) (x1 : Int), v = .inl (o, x1) → Go X 9 (wM g ad o) [(0, .ref (ad 0)), (1, iv x1)] [] := fun o x1 e => kk (o, x1) e
    have k1 : ∀ (o : OO), v = .inr (o) → Go X 30 (wM g ad o) [(0, .ref (ad 0))] [] := fun o e => k1 o (kx _ e).symm
    unfold l_X12_digest_9 at h
    refine g_iload_n E gdX12_digest_9 rfl 1 rfl ?_
    refine g_bipush E gdX12_digest_10 (by decide) ?_
    refine g_icmp_gt E 30 gdX12_digest_12 (by decide) h (fun h => ?_) (fun h => ?_)
    ·
      refine g_sub E [0] rfl ?_
      exact k1 o (Option.some.inj h).symm
    ·
      refine g_aload_n E gdX12_digest_15 rfl 0 rfl ?_
      refine g_aload_n E gdX12_digest_16 rfl 0 rfl ?_
      refine g_iload_n E gdX12_digest_17 rfl 1 rfl ?_
      obtain ⟨r67, hc68, h⟩ := qB_of h
      refine g_Vi (r := r67) (As := [iv x1]) (rest := [.ref (ad 0)]) (w := wM g ad o) E (c_X12_counts l g ad o x1 r67 hc68) okm_X12_counts okw_X12_counts w_2134 rfl (wM_0 g ad o) rfl rfl (Nat.le_of_ble_eq_true rfl) ⟨Nat.le_of_ble_eq_true rfl, Nat.le_of_ble_eq_true rfl⟩ gdX12_digest_18 ?_
      obtain ⟨o71, hc70, h⟩ := qB_of h
      refine g_Vv (As := [iv r67]) (rest := []) (w := wM g ad o71) E (c_X12_mix l g ad o r67 o71 hc70) okm_X12_mix okw_X12_mix w_2151 rfl (wM_0 g ad o) rfl rfl (Nat.le_of_ble_eq_true rfl) ⟨Nat.le_of_ble_eq_true rfl, Nat.le_of_ble_eq_true rfl⟩ gdX12_digest_21 ?_
      refine g_iinc E [(1, iv (x1 + 1)), (0, .ref (ad 0))] gdX12_digest_24 1 rfl (by decide) rfl ?_
      refine g_goto E 9 gdX12_digest_27 (by decide) ?_
      refine g_sub E [1, 0] rfl ?_
      exact k0 o71 (x1 + 1) (Option.some.inj h).symm
  have j9 : ∀ (o : OO) (x1 : Int), e_X12_digest_9 o x1 = some v → Go X 9 (wM g ad o) [(0, .ref (ad 0)), (1, iv x1)] [] := by
    intro o x1 h
    unfold e_X12_digest_9 at h
    obtain ⟨r, hr, h⟩ := qB_of h
    refine l9  r _ hr ?_
    ·
      intro u0 e
      have e := e.symm
      subst e
      have h : b_X12_digest_30 u0 = some v := h
      exact j30 u0 h
  unfold s_X12_digest at h
  refine g_aload_n E gdX12_digest_0 rfl 0 rfl ?_
  refine g_ldc2 E gdX12_digest_1 w_2150 ?_
  obtain ⟨o72, e_o72, h⟩ := qNm_of h
  refine g_putl (T := TX12) (ws' := wM g ad o72) E fw_X12 tyX12 tyX12_ok nmX12 0 (wM_0 g ad o) rfl 76 (by decide) w_1542 rfl rfl (by decide +kernel) (Nat.le_of_ble_eq_true rfl) (by rw [e_o72]; exact wM_p0_76 g ad o _) gdX12_digest_4 ?_
  refine g_iconst E gdX12_digest_7 ?_
  refine g_istore_n E [(1, iv 0), (0, .ref (ad 0))] gdX12_digest_8 rfl (by decide) rfl ?_
  refine g_sub E [1, 0] rfl ?_
  exact j9 o72 0 h
noncomputable def b_X12_heard_55 (o : OO) (x3 : Int) : Option (Int) := some x3
noncomputable def b_X12_heard_48 (o : OO) (x1 : Int) (x2 : Int) (x4 : Int) (y0 : Int) : Option ((Int × Int) ⊕ ((Int))) := some (.inl (y0, x4 + 1))
noncomputable def b_X12_heard_47 (o : OO) (x1 : Int) (x2 : Int) (x3 : Int) (x4 : Int) : Option ((Int × Int) ⊕ ((Int))) := b_X12_heard_48 o x1 x2 x4 x3
noncomputable def l_X12_heard_6 (o : OO) (x1 : Int) (x2 : Int) (x3 : Int) (x4 : Int) : Option ((Int × Int) ⊕ ((Int))) := qLt x4 (o.1 0 52) (qIn x4 60 (qNm (o.1 43 x4.toNat) (fun n2 => qEq n2 x1 (qIn x4 60 (qNm (o.1 44 x4.toNat) (fun n4 => qEq n4 x2 (qIn x4 60 (qNm (o.1 45 x4.toNat) (fun n6 => b_X12_heard_48 o x1 x2 x4 n6))) (b_X12_heard_47 o x1 x2 x3 x4)))) (b_X12_heard_47 o x1 x2 x3 x4)))) (some (.inr (x3)))
noncomputable def e_X12_heard_6 (o : OO) (x1 : Int) (x2 : Int) (x3 : Int) (x4 : Int) : Option (Int) := qB (loopW (fun s => l_X12_heard_6 o x1 x2 s.1 s.2) (x3, x4)) (fun r => b_X12_heard_55 o r)
noncomputable def s_X12_heard (o : OO) (x1 : Int) (x2 : Int) : Option (Int) := e_X12_heard_6 o x1 x2 (-9) 0
set_option maxHeartbeats 4000000 in
set_option maxRecDepth 100000 in
theorem c_X12_heard (l : Launch) (g : GG) (ad : Nat → Nat) (o : OO) (x1 : Int) (x2 : Int) (v : Int) (h : s_X12_heard o x1 x2 = some v) : CI l g yX12_heard cX12_heard 5 (some .int) 0 0 (wM g ad o) [.ref (ad 0), iv x1, iv x2] v (wM g ad o) := by
  refine met_I (by decide) (Nat.le_of_ble_eq_true rfl) ?_
  intro X E hQ
  show Go X 0 (wM g ad o) [(0, .ref (ad 0)), (1, iv x1), (2, iv x2)] []
  have j55 : ∀ (x3 : Int), b_X12_heard_55 o x3 = some v → Go X 55 (wM g ad o) [(3, iv x3)] [] := by
    intro x3 h
    unfold b_X12_heard_55 at h
    refine g_iload_n E gdX12_heard_55 rfl 0 rfl ?_
    exact g_iret E hQ (Option.some.inj h) rfl gdX12_heard_56
  have j48 : ∀ (x1 : Int) (x2 : Int) (x4 : Int) (y0 : Int) (v : (Int × Int) ⊕ ((Int))), b_X12_heard_48 o x1 x2 x4 y0 = some v → (∀ (x3 : Int) (x4 : Int), v = .inl (x3, x4) → Go X 6 (wM g ad o) [(0, .ref (ad 0)), (1, iv x1), (2, iv x2), (3, iv x3), (4, iv x4)] []) → (∀ (x3 : Int), v = .inr (x3) → Go X 55 (wM g ad o) [(3, iv x3)] []) → Go X 48 (wM g ad o) [(0, .ref (ad 0)), (1, iv x1), (2, iv x2), (4, iv x4)] [iv y0] := by
    intro x1 x2 x4 y0 v h k0 k1
    unfold b_X12_heard_48 at h
    refine g_istore_n E [(3, iv y0), (0, .ref (ad 0)), (1, iv x1), (2, iv x2), (4, iv x4)] gdX12_heard_48 rfl (by decide) rfl ?_
    refine g_iinc E [(4, iv (x4 + 1)), (3, iv y0), (0, .ref (ad 0)), (1, iv x1), (2, iv x2)] gdX12_heard_49 4 rfl (by decide) rfl ?_
    refine g_goto E 6 gdX12_heard_52 (by decide) ?_
    refine g_sub E [2, 3, 4, 1, 0] rfl ?_
    exact k0 y0 (x4 + 1) (Option.some.inj h).symm
  have j47 : ∀ (x1 : Int) (x2 : Int) (x3 : Int) (x4 : Int) (v : (Int × Int) ⊕ ((Int))), b_X12_heard_47 o x1 x2 x3 x4 = some v → (∀ (x3 : Int) (x4 : Int), v = .inl (x3, x4) → Go X 6 (wM g ad o) [(0, .ref (ad 0)), (1, iv x1), (2, iv x2), (3, iv x3), (4, iv x4)] []) → (∀ (x3 : Int), v = .inr (x3) → Go X 55 (wM g ad o) [(3, iv x3)] []) → Go X 47 (wM g ad o) [(0, .ref (ad 0)), (1, iv x1), (2, iv x2), (3, iv x3), (4, iv x4)] [] := by
    intro x1 x2 x3 x4 v h k0 k1
    unfold b_X12_heard_47 at h
    refine g_iload_n E gdX12_heard_47 rfl 3 rfl ?_
    refine g_sub E [0, 1, 2, 4] rfl ?_
    exact j48 x1 x2 x4 x3 v h k0 k1
  have l6 : ∀ (x1 : Int) (x2 : Int) (r : (Int)) (s0 : Int × Int), loopW (fun s => l_X12_heard_6 o x1 x2 s.1 s.2) s0 = some r → (∀ (x3 : Int), r = (x3) → Go X 55 (wM g ad o) [(3, iv x3)] []) → Go X 6 (wM g ad o) [(0, .ref (ad 0)), (1, iv x1), (2, iv x2), (3, iv s0.1), (4, iv s0.2)] [] := by
    intro x1 x2 r s0 h k1
    refine loop_rule (Head := fun s0 => Go X 6 (wM g ad o) [(0, .ref (ad 0)), (1, iv x1), (2, iv x2), (3, iv s0.1), (4, iv s0.2)] []) h ?_
    intro s v h kk kx
    obtain ⟨x3, x4⟩ := s
    have h : l_X12_heard_6 o x1 x2 x3 x4 = some v := h
    have k0 : ∀ (x3 : Int) (x4 : Int), v = .inl (x3, x4) → Go X 6 (wM g ad o) [(0, .ref (ad 0)), (1, iv x1), (2, iv x2), (3, iv x3), (4, iv x4)] [] := fun x3 x4 e => kk (x3, x4) e
    have k1 : ∀ (x3 : Int), v = .inr (x3) → Go X 55 (wM g ad o) [(3, iv x3)] [] := fun x3 e => k1 x3 (kx _ e).symm
    unfold l_X12_heard_6 at h
    refine g_iload E gdX12_heard_6 4 rfl ?_
    refine g_aload_n E gdX12_heard_8 rfl 0 rfl ?_
    refine g_get (T := TX12) E fw_X12 0 (wM_0 g ad o) rfl 52 (by decide) w_1518 rfl rfl gdX12_heard_9 ?_
    refine g_icmp_ge E 55 gdX12_heard_12 (by decide) h (fun h => ?_) (fun h => ?_)
    ·
      refine g_sub E [3] rfl ?_
      exact k1 x3 (Option.some.inj h).symm
    ·
      refine g_aload_n E gdX12_heard_15 rfl 0 rfl ?_
      refine g_get (T := TX12) E fw_X12 0 (wM_0 g ad o) rfl 53 (by decide) w_1519 rfl rfl gdX12_heard_16 ?_
      refine g_iload E gdX12_heard_19 4 rfl ?_
      obtain ⟨hi1, h⟩ := qIn_of h
      refine g_iald E 43 (wM_43 g ad o) (by decide) hi1 gdX12_heard_21 ?_
      obtain ⟨n2, e_n2, h⟩ := qNm_of h
      refine g_nmi e_n2 ?_
      refine g_iload_n E gdX12_heard_22 rfl 1 rfl ?_
      refine g_icmp_ne E 47 gdX12_heard_23 (by decide) h (fun h => ?_) (fun h => ?_)
      ·
        exact j47 x1 x2 x3 x4 v h k0 k1
      ·
        refine g_aload_n E gdX12_heard_26 rfl 0 rfl ?_
        refine g_get (T := TX12) E fw_X12 0 (wM_0 g ad o) rfl 54 (by decide) w_1520 rfl rfl gdX12_heard_27 ?_
        refine g_iload E gdX12_heard_30 4 rfl ?_
        obtain ⟨hi3, h⟩ := qIn_of h
        refine g_iald E 44 (wM_44 g ad o) (by decide) hi3 gdX12_heard_32 ?_
        obtain ⟨n4, e_n4, h⟩ := qNm_of h
        refine g_nmi e_n4 ?_
        refine g_iload_n E gdX12_heard_33 rfl 2 rfl ?_
        refine g_icmp_ne E 47 gdX12_heard_34 (by decide) h (fun h => ?_) (fun h => ?_)
        ·
          exact j47 x1 x2 x3 x4 v h k0 k1
        ·
          refine g_aload_n E gdX12_heard_37 rfl 0 rfl ?_
          refine g_get (T := TX12) E fw_X12 0 (wM_0 g ad o) rfl 55 (by decide) w_1521 rfl rfl gdX12_heard_38 ?_
          refine g_iload E gdX12_heard_41 4 rfl ?_
          obtain ⟨hi5, h⟩ := qIn_of h
          refine g_iald E 45 (wM_45 g ad o) (by decide) hi5 gdX12_heard_43 ?_
          obtain ⟨n6, e_n6, h⟩ := qNm_of h
          refine g_nmi e_n6 ?_
          refine g_goto E 48 gdX12_heard_44 (by decide) ?_
          refine g_sub E [0, 1, 2, 4] rfl ?_
          exact j48 x1 x2 x4 n6 v h k0 k1
  have j6 : ∀ (x1 : Int) (x2 : Int) (x3 : Int) (x4 : Int), e_X12_heard_6 o x1 x2 x3 x4 = some v → Go X 6 (wM g ad o) [(0, .ref (ad 0)), (1, iv x1), (2, iv x2), (3, iv x3), (4, iv x4)] [] := by
    intro x1 x2 x3 x4 h
    unfold e_X12_heard_6 at h
    obtain ⟨r, hr, h⟩ := qB_of h
    refine l6 x1 x2 r _ hr ?_
    ·
      intro u0 e
      have e := e.symm
      subst e
      have h : b_X12_heard_55 o u0 = some v := h
      exact j55 u0 h
  unfold s_X12_heard at h
  refine g_bipush E gdX12_heard_0 (by decide) ?_
  refine g_istore_n E [(3, iv (-9)), (0, .ref (ad 0)), (1, iv x1), (2, iv x2)] gdX12_heard_2 rfl (by decide) rfl ?_
  refine g_iconst E gdX12_heard_3 ?_
  refine g_istore E [(4, iv 0), (3, iv (-9)), (0, .ref (ad 0)), (1, iv x1), (2, iv x2)] gdX12_heard_4 (by decide) rfl ?_
  refine g_sub E [2, 3, 4, 1, 0] rfl ?_
  exact j6 x1 x2 (-9) 0 h
noncomputable def b_X12_knew_24 (o : OO) (y0 : Int) : Option (Int) := qZ y0 (some y0)
noncomputable def b_X12_knew_23 (o : OO) : Option (Int) := b_X12_knew_24 o 0
noncomputable def s_X12_knew (o : OO) (x1 : Int) (x2 : Int) (x3 : Int) : Option (Int) := qB (s_X12_heard o x1 x2) (fun r1 => qLt r1 0 (b_X12_knew_23 o) (qLt x3 r1 (b_X12_knew_23 o) (b_X12_knew_24 o 1)))
set_option maxHeartbeats 4000000 in
set_option maxRecDepth 100000 in
theorem c_X12_knew (l : Launch) (g : GG) (ad : Nat → Nat) (o : OO) (x1 : Int) (x2 : Int) (x3 : Int) (v : Int) (h : s_X12_knew o x1 x2 x3 = some v) : CI l g yX12_knew cX12_knew 5 (some .boolean) 1 24 (wM g ad o) [.ref (ad 0), iv x1, iv x2, iv x3] v (wM g ad o) := by
  refine met_I (by decide) (Nat.le_of_ble_eq_true rfl) ?_
  intro X E hQ
  show Go X 0 (wM g ad o) [(0, .ref (ad 0)), (1, iv x1), (2, iv x2), (3, iv x3)] []
  have j24 : ∀ (y0 : Int), b_X12_knew_24 o y0 = some v → Go X 24 (wM g ad o) [] [iv y0] := by
    intro y0 h
    unfold b_X12_knew_24 at h
    obtain ⟨hz, h⟩ := qZ_of h
    exact g_zret E hQ hz (Option.some.inj h) rfl gdX12_knew_24
  have j23 : b_X12_knew_23 o = some v → Go X 23 (wM g ad o) [] [] := by
    intro h
    unfold b_X12_knew_23 at h
    refine g_iconst E gdX12_knew_23 ?_
    exact j24 0 h
  unfold s_X12_knew at h
  refine g_aload_n E gdX12_knew_0 rfl 0 rfl ?_
  refine g_iload_n E gdX12_knew_1 rfl 1 rfl ?_
  refine g_iload_n E gdX12_knew_2 rfl 2 rfl ?_
  obtain ⟨r1, hc2, h⟩ := qB_of h
  refine g_Vi (r := r1) (As := [iv x1, iv x2]) (rest := []) (w := wM g ad o) E (c_X12_heard l g ad o x1 x2 r1 hc2) okm_X12_heard okw_X12_heard w_1993 rfl (wM_0 g ad o) rfl rfl (Nat.le_of_ble_eq_true rfl) ⟨Nat.le_of_ble_eq_true rfl, Nat.le_of_ble_eq_true rfl⟩ gdX12_knew_3 ?_
  refine g_istore E [(4, iv r1), (0, .ref (ad 0)), (1, iv x1), (2, iv x2), (3, iv x3)] gdX12_knew_6 (by decide) rfl ?_
  refine g_iload E gdX12_knew_8 0 rfl ?_
  refine g_if_lt E 23 gdX12_knew_10 (by decide) h (fun h => ?_) (fun h => ?_)
  ·
    refine g_sub E [] rfl ?_
    exact j23  h
  ·
    refine g_iload E gdX12_knew_13 0 rfl ?_
    refine g_iload_n E gdX12_knew_15 rfl 4 rfl ?_
    refine g_icmp_gt E 23 gdX12_knew_16 (by decide) h (fun h => ?_) (fun h => ?_)
    ·
      refine g_sub E [] rfl ?_
      exact j23  h
    ·
      refine g_iconst E gdX12_knew_19 ?_
      refine g_goto E 24 gdX12_knew_20 (by decide) ?_
      refine g_sub E [] rfl ?_
      exact j24 1 h
noncomputable def b_X12_early_233 (o : OO) (x3 : Int) (x4 : Int) : Option (Int × OO) := some ((100 * x3) + x4, o)
noncomputable def b_X12_early_227 (o : OO) (x1 : Int) (x3 : Int) (x4 : Int) (x5 : Int) : Option ((Int × Int × Int) ⊕ ((Int × Int))) := some (.inl (x3, x4, x5 + 1))
noncomputable def b_X12_early_224 (o : OO) (x1 : Int) (x3 : Int) (x5 : Int) (y0 : Int) (y1 : Int) : Option ((Int × Int × Int) ⊕ ((Int × Int))) := qNm (y0 + y1) (fun n1 => b_X12_early_227 o x1 x3 n1 x5)
noncomputable def b_X12_early_223 (o : OO) (x1 : Int) (x3 : Int) (x5 : Int) (y0 : Int) : Option ((Int × Int × Int) ⊕ ((Int × Int))) := b_X12_early_224 o x1 x3 x5 y0 0
noncomputable def b_X12_early_205 (o : OO) (x1 : Int) (x4 : Int) (x5 : Int) (x7 : Int) (x8 : Int) (y0 : Int) (y1 : Int) : Option ((Int × Int × Int) ⊕ ((Int × Int))) := qNm (y0 + y1) (fun n2 => qEq x8 0 (qEq x7 0 (b_X12_early_223 o x1 n2 x5 x4) (b_X12_early_224 o x1 n2 x5 x4 1)) (b_X12_early_223 o x1 n2 x5 x4))
noncomputable def b_X12_early_173 (o : OO) (x1 : Int) (x3 : Int) (x4 : Int) (x5 : Int) (x7 : Int) : Option ((Int × Int × Int) ⊕ ((Int × Int))) := qIn x5 40 (qNm (o.1 41 x5.toNat) (fun n4 => qIn x5 40 (qNm (o.1 42 x5.toNat) (fun n6 => qB (s_X12_knew o n4 x1 n6) (fun r7 => qEq r7 0 (b_X12_early_205 o x1 x4 x5 x7 r7 x3 0) (b_X12_early_205 o x1 x4 x5 x7 r7 x3 1))))))
noncomputable def b_X12_early_165 (o : OO) (x1 : Int) (x3 : Int) (x4 : Int) (x5 : Int) (x8 : Int) (y0 : Int) : Option ((Int × Int) ⊕ ((Int))) := some (.inl (y0, x8 + 1))
noncomputable def b_X12_early_160 (o : OO) (x1 : Int) (x3 : Int) (x4 : Int) (x5 : Int) (x8 : Int) : Option ((Int × Int) ⊕ ((Int))) := b_X12_early_165 o x1 x3 x4 x5 x8 1
noncomputable def b_X12_early_164 (o : OO) (x1 : Int) (x3 : Int) (x4 : Int) (x5 : Int) (x8 : Int) : Option ((Int × Int) ⊕ ((Int))) := b_X12_early_165 o x1 x3 x4 x5 x8 0
noncomputable def l_X12_early_95 (o : OO) (x1 : Int) (x3 : Int) (x4 : Int) (x5 : Int) (x7 : Int) (x8 : Int) : Option ((Int × Int) ⊕ ((Int))) := qLt x8 (o.1 0 27) (qEq x7 0 (qIn x5 40 (qNm (o.1 41 x5.toNat) (fun n10 => qEq x8 n10 (b_X12_early_164 o x1 x3 x4 x5 x8) (qIn x8 40 (qNm (o.1 24 x8.toNat) (fun n12 => qIn x5 40 (qNm (o.1 41 x5.toNat) (fun n14 => qIn n14 40 (qNm (o.1 24 n14.toNat) (fun n16 => qEq n12 n16 (qIn x5 40 (qNm (o.1 42 x5.toNat) (fun n18 => qB (s_X12_knew o x8 x1 n18) (fun r19 => qEq r19 0 (b_X12_early_164 o x1 x3 x4 x5 x8) (b_X12_early_160 o x1 x3 x4 x5 x8))))) (b_X12_early_164 o x1 x3 x4 x5 x8))))))))))) (b_X12_early_160 o x1 x3 x4 x5 x8)) (some (.inr (x7)))
noncomputable def e_X12_early_95 (o : OO) (x1 : Int) (x3 : Int) (x4 : Int) (x5 : Int) (x7 : Int) (x8 : Int) : Option ((Int × Int × Int) ⊕ ((Int × Int))) := qB (loopW (fun s => l_X12_early_95 o x1 x3 x4 x5 s.1 s.2) (x7, x8)) (fun r => b_X12_early_173 o x1 x3 x4 x5 r)
noncomputable def b_X12_early_59 (o : OO) (x1 : Int) (x3 : Int) (x4 : Int) (x5 : Int) (y0 : Int) : Option ((Int × Int × Int) ⊕ ((Int × Int))) := qEq y0 0 (b_X12_early_227 o x1 x3 x4 x5) (qB (s_X12_cellsOf o x1) (fun p21 => qIn x5 40 (qNm (o.1 40 x5.toNat) (fun n24 => qIn n24 32 (qNm (o.1 13 n24.toNat) (fun n26 => qB (s_X12_has p21 n26) (fun r27 => qEq r27 0 (b_X12_early_227 o x1 x3 x4 x5) (e_X12_early_95 o x1 x3 x4 x5 0 0))))))))
noncomputable def b_X12_early_54 (o : OO) (x1 : Int) (x3 : Int) (x4 : Int) (x5 : Int) : Option ((Int × Int × Int) ⊕ ((Int × Int))) := b_X12_early_59 o x1 x3 x4 x5 1
noncomputable def l_X12_early_20 (o : OO) (x1 : Int) (x3 : Int) (x4 : Int) (x5 : Int) : Option ((Int × Int × Int) ⊕ ((Int × Int))) := qLt x5 (o.1 0 48) (qIn x1 24 (qNm (o.1 29 x1.toNat) (fun n30 => qLt n30 0 (b_X12_early_54 o x1 x3 x4 x5) (qIn x5 40 (qNm (o.1 42 x5.toNat) (fun n32 => qIn x1 24 (qNm (o.1 29 x1.toNat) (fun n34 => qLt n32 n34 (b_X12_early_54 o x1 x3 x4 x5) (b_X12_early_59 o x1 x3 x4 x5 0))))))))) (some (.inr ((x3, x4))))
noncomputable def e_X12_early_20 (o : OO) (x1 : Int) (x3 : Int) (x4 : Int) (x5 : Int) : Option (Int × OO) := qB (loopW (fun s => l_X12_early_20 o x1 s.1 s.2.1 s.2.2) (x3, x4, x5)) (fun r => b_X12_early_233 o r.1 r.2)
noncomputable def s_X12_early (o : OO) (x1 : Int) : Option (Int × OO) := qB2 (s_X12_askedLine o x1) (fun r35 o37 => qLt r35 0 (some (r35, o37)) (e_X12_early_20 o37 x1 0 0 0))
set_option maxHeartbeats 4000000 in
set_option maxRecDepth 100000 in
theorem c_X12_early (l : Launch) (g : GG) (ad : Nat → Nat) (o : OO) (x1 : Int) (v : Int × OO) (h : s_X12_early o x1 = some v) : CI l g yX12_early cX12_early 9 (some .int) 3 64 (wM g ad o) [.ref (ad 0), iv x1] v.1 (wM g ad v.2) := by
  refine met_I (by decide) (Nat.le_of_ble_eq_true rfl) ?_
  intro X E hQ
  show Go X 0 (wM g ad o) [(0, .ref (ad 0)), (1, iv x1)] []
  have j233 : ∀ (o : OO) (x3 : Int) (x4 : Int), b_X12_early_233 o x3 x4 = some v → Go X 233 (wM g ad o) [(3, iv x3), (4, iv x4)] [] := by
    intro o x3 x4 h
    unfold b_X12_early_233 at h
    refine g_bipush E gdX12_early_233 (by decide) ?_
    refine g_iload_n E gdX12_early_235 rfl 0 rfl ?_
    refine g_imul E gdX12_early_236 ?_
    refine g_iload E gdX12_early_237 1 rfl ?_
    refine g_iadd E gdX12_early_239 ?_
    exact g_iret E hQ (by rw [← Option.some.inj h]) (by rw [← Option.some.inj h]) gdX12_early_240
  have j227 : ∀ (o : OO) (x1 : Int) (x3 : Int) (x4 : Int) (x5 : Int) (v : (Int × Int × Int) ⊕ ((Int × Int))), b_X12_early_227 o x1 x3 x4 x5 = some v → (∀ (x3 : Int) (x4 : Int) (x5 : Int), v = .inl (x3, x4, x5) → Go X 20 (wM g ad o) [(0, .ref (ad 0)), (1, iv x1), (3, iv x3), (4, iv x4), (5, iv x5)] []) → (∀ (x3 : Int) (x4 : Int), v = .inr ((x3, x4)) → Go X 233 (wM g ad o) [(3, iv x3), (4, iv x4)] []) → Go X 227 (wM g ad o) [(0, .ref (ad 0)), (1, iv x1), (3, iv x3), (4, iv x4), (5, iv x5)] [] := by
    intro o x1 x3 x4 x5 v h k0 k1
    unfold b_X12_early_227 at h
    refine g_iinc E [(5, iv (x5 + 1)), (0, .ref (ad 0)), (1, iv x1), (3, iv x3), (4, iv x4)] gdX12_early_227 4 rfl (by decide) rfl ?_
    refine g_goto E 20 gdX12_early_230 (by decide) ?_
    refine g_sub E [1, 2, 3, 4, 0] rfl ?_
    exact k0 x3 x4 (x5 + 1) (Option.some.inj h).symm
  have j224 : ∀ (o : OO) (x1 : Int) (x3 : Int) (x5 : Int) (y0 : Int) (y1 : Int) (v : (Int × Int × Int) ⊕ ((Int × Int))), b_X12_early_224 o x1 x3 x5 y0 y1 = some v → (∀ (x3 : Int) (x4 : Int) (x5 : Int), v = .inl (x3, x4, x5) → Go X 20 (wM g ad o) [(0, .ref (ad 0)), (1, iv x1), (3, iv x3), (4, iv x4), (5, iv x5)] []) → (∀ (x3 : Int) (x4 : Int), v = .inr ((x3, x4)) → Go X 233 (wM g ad o) [(3, iv x3), (4, iv x4)] []) → Go X 224 (wM g ad o) [(0, .ref (ad 0)), (1, iv x1), (3, iv x3), (5, iv x5)] [iv y1, iv y0] := by
    intro o x1 x3 x5 y0 y1 v h k0 k1
    unfold b_X12_early_224 at h
    refine g_iadd E gdX12_early_224 ?_
    obtain ⟨n1, e_n1, h⟩ := qNm_of h
    refine g_nmi e_n1 ?_
    refine g_istore E [(4, iv n1), (0, .ref (ad 0)), (1, iv x1), (3, iv x3), (5, iv x5)] gdX12_early_225 (by decide) rfl ?_
    refine g_sub E [1, 2, 3, 0, 4] rfl ?_
    exact j227 o x1 x3 n1 x5 v h k0 k1
  have j223 : ∀ (o : OO) (x1 : Int) (x3 : Int) (x5 : Int) (y0 : Int) (v : (Int × Int × Int) ⊕ ((Int × Int))), b_X12_early_223 o x1 x3 x5 y0 = some v → (∀ (x3 : Int) (x4 : Int) (x5 : Int), v = .inl (x3, x4, x5) → Go X 20 (wM g ad o) [(0, .ref (ad 0)), (1, iv x1), (3, iv x3), (4, iv x4), (5, iv x5)] []) → (∀ (x3 : Int) (x4 : Int), v = .inr ((x3, x4)) → Go X 233 (wM g ad o) [(3, iv x3), (4, iv x4)] []) → Go X 223 (wM g ad o) [(0, .ref (ad 0)), (1, iv x1), (3, iv x3), (5, iv x5)] [iv y0] := by
    intro o x1 x3 x5 y0 v h k0 k1
    unfold b_X12_early_223 at h
    refine g_iconst E gdX12_early_223 ?_
    exact j224 o x1 x3 x5 y0 0 v h k0 k1
  have j205 : ∀ (o : OO) (x1 : Int) (x4 : Int) (x5 : Int) (x7 : Int) (x8 : Int) (y0 : Int) (y1 : Int) (v : (Int × Int × Int) ⊕ ((Int × Int))), b_X12_early_205 o x1 x4 x5 x7 x8 y0 y1 = some v → (∀ (x3 : Int) (x4 : Int) (x5 : Int), v = .inl (x3, x4, x5) → Go X 20 (wM g ad o) [(0, .ref (ad 0)), (1, iv x1), (3, iv x3), (4, iv x4), (5, iv x5)] []) → (∀ (x3 : Int) (x4 : Int), v = .inr ((x3, x4)) → Go X 233 (wM g ad o) [(3, iv x3), (4, iv x4)] []) → Go X 205 (wM g ad o) [(0, .ref (ad 0)), (1, iv x1), (4, iv x4), (5, iv x5), (7, iv x7), (8, iv x8)] [iv y1, iv y0] := by
    intro o x1 x4 x5 x7 x8 y0 y1 v h k0 k1
    unfold b_X12_early_205 at h
    refine g_iadd E gdX12_early_205 ?_
    obtain ⟨n2, e_n2, h⟩ := qNm_of h
    refine g_nmi e_n2 ?_
    refine g_istore_n E [(3, iv n2), (0, .ref (ad 0)), (1, iv x1), (4, iv x4), (5, iv x5), (7, iv x7), (8, iv x8)] gdX12_early_206 rfl (by decide) rfl ?_
    refine g_iload E gdX12_early_207 3 rfl ?_
    refine g_iload E gdX12_early_209 6 rfl ?_
    refine g_if_ne E 223 gdX12_early_211 (by decide) h (fun h => ?_) (fun h => ?_)
    ·
      refine g_sub E [1, 2, 0, 4] rfl ?_
      exact j223 o x1 n2 x5 x4 v h k0 k1
    ·
      refine g_iload E gdX12_early_214 5 rfl ?_
      refine g_if_eq E 223 gdX12_early_216 (by decide) h (fun h => ?_) (fun h => ?_)
      ·
        refine g_sub E [1, 2, 0, 4] rfl ?_
        exact j223 o x1 n2 x5 x4 v h k0 k1
      ·
        refine g_iconst E gdX12_early_219 ?_
        refine g_goto E 224 gdX12_early_220 (by decide) ?_
        refine g_sub E [1, 2, 0, 4] rfl ?_
        exact j224 o x1 n2 x5 x4 1 v h k0 k1
  have j173 : ∀ (o : OO) (x1 : Int) (x3 : Int) (x4 : Int) (x5 : Int) (x7 : Int) (v : (Int × Int × Int) ⊕ ((Int × Int))), b_X12_early_173 o x1 x3 x4 x5 x7 = some v → (∀ (x3 : Int) (x4 : Int) (x5 : Int), v = .inl (x3, x4, x5) → Go X 20 (wM g ad o) [(0, .ref (ad 0)), (1, iv x1), (3, iv x3), (4, iv x4), (5, iv x5)] []) → (∀ (x3 : Int) (x4 : Int), v = .inr ((x3, x4)) → Go X 233 (wM g ad o) [(3, iv x3), (4, iv x4)] []) → Go X 173 (wM g ad o) [(0, .ref (ad 0)), (1, iv x1), (3, iv x3), (4, iv x4), (5, iv x5), (7, iv x7)] [] := by
    intro o x1 x3 x4 x5 x7 v h k0 k1
    unfold b_X12_early_173 at h
    refine g_aload_n E gdX12_early_173 rfl 0 rfl ?_
    refine g_aload_n E gdX12_early_174 rfl 0 rfl ?_
    refine g_get (T := TX12) E fw_X12 0 (wM_0 g ad o) rfl 50 (by decide) w_1516 rfl rfl gdX12_early_175 ?_
    refine g_iload E gdX12_early_178 4 rfl ?_
    obtain ⟨hi3, h⟩ := qIn_of h
    refine g_iald E 41 (wM_41 g ad o) (by decide) hi3 gdX12_early_180 ?_
    obtain ⟨n4, e_n4, h⟩ := qNm_of h
    refine g_nmi e_n4 ?_
    refine g_iload_n E gdX12_early_181 rfl 1 rfl ?_
    refine g_aload_n E gdX12_early_182 rfl 0 rfl ?_
    refine g_get (T := TX12) E fw_X12 0 (wM_0 g ad o) rfl 51 (by decide) w_1517 rfl rfl gdX12_early_183 ?_
    refine g_iload E gdX12_early_186 4 rfl ?_
    obtain ⟨hi5, h⟩ := qIn_of h
    refine g_iald E 42 (wM_42 g ad o) (by decide) hi5 gdX12_early_188 ?_
    obtain ⟨n6, e_n6, h⟩ := qNm_of h
    refine g_nmi e_n6 ?_
    obtain ⟨r7, hc8, h⟩ := qB_of h
    refine g_Vi (r := r7) (As := [iv n4, iv x1, iv n6]) (rest := []) (w := wM g ad o) E (c_X12_knew l g ad o n4 x1 n6 r7 hc8) okm_X12_knew okw_X12_knew w_2001 rfl (wM_0 g ad o) rfl rfl (Nat.le_of_ble_eq_true rfl) ⟨Nat.le_of_ble_eq_true rfl, Nat.le_of_ble_eq_true rfl⟩ gdX12_early_189 ?_
    refine g_istore E [(8, iv r7), (0, .ref (ad 0)), (1, iv x1), (3, iv x3), (4, iv x4), (5, iv x5), (7, iv x7)] gdX12_early_192 (by decide) rfl ?_
    refine g_iload_n E gdX12_early_194 rfl 3 rfl ?_
    refine g_iload E gdX12_early_195 0 rfl ?_
    refine g_if_eq E 204 gdX12_early_197 (by decide) h (fun h => ?_) (fun h => ?_)
    ·
      refine g_iconst E gdX12_early_204 ?_
      refine g_sub E [1, 2, 4, 5, 6, 0] rfl ?_
      exact j205 o x1 x4 x5 x7 r7 x3 0 v h k0 k1
    ·
      refine g_iconst E gdX12_early_200 ?_
      refine g_goto E 205 gdX12_early_201 (by decide) ?_
      refine g_sub E [1, 2, 4, 5, 6, 0] rfl ?_
      exact j205 o x1 x4 x5 x7 r7 x3 1 v h k0 k1
  have j165 : ∀ (o : OO) (x1 : Int) (x3 : Int) (x4 : Int) (x5 : Int) (x8 : Int) (y0 : Int) (v : (Int × Int) ⊕ ((Int))), b_X12_early_165 o x1 x3 x4 x5 x8 y0 = some v → (∀ (x7 : Int) (x8 : Int), v = .inl (x7, x8) → Go X 95 (wM g ad o) [(0, .ref (ad 0)), (1, iv x1), (3, iv x3), (4, iv x4), (5, iv x5), (7, iv x7), (8, iv x8)] []) → (∀ (x7 : Int), v = .inr (x7) → Go X 173 (wM g ad o) [(0, .ref (ad 0)), (1, iv x1), (3, iv x3), (4, iv x4), (5, iv x5), (7, iv x7)] []) → Go X 165 (wM g ad o) [(0, .ref (ad 0)), (1, iv x1), (3, iv x3), (4, iv x4), (5, iv x5), (8, iv x8)] [iv y0] := by
    intro o x1 x3 x4 x5 x8 y0 v h k0 k1
    unfold b_X12_early_165 at h
    refine g_istore E [(7, iv y0), (0, .ref (ad 0)), (1, iv x1), (3, iv x3), (4, iv x4), (5, iv x5), (8, iv x8)] gdX12_early_165 (by decide) rfl ?_
    refine g_iinc E [(8, iv (x8 + 1)), (7, iv y0), (0, .ref (ad 0)), (1, iv x1), (3, iv x3), (4, iv x4), (5, iv x5)] gdX12_early_167 6 rfl (by decide) rfl ?_
    refine g_goto E 95 gdX12_early_170 (by decide) ?_
    refine g_sub E [2, 3, 4, 5, 6, 1, 0] rfl ?_
    exact k0 y0 (x8 + 1) (Option.some.inj h).symm
  have j160 : ∀ (o : OO) (x1 : Int) (x3 : Int) (x4 : Int) (x5 : Int) (x8 : Int) (v : (Int × Int) ⊕ ((Int))), b_X12_early_160 o x1 x3 x4 x5 x8 = some v → (∀ (x7 : Int) (x8 : Int), v = .inl (x7, x8) → Go X 95 (wM g ad o) [(0, .ref (ad 0)), (1, iv x1), (3, iv x3), (4, iv x4), (5, iv x5), (7, iv x7), (8, iv x8)] []) → (∀ (x7 : Int), v = .inr (x7) → Go X 173 (wM g ad o) [(0, .ref (ad 0)), (1, iv x1), (3, iv x3), (4, iv x4), (5, iv x5), (7, iv x7)] []) → Go X 160 (wM g ad o) [(0, .ref (ad 0)), (1, iv x1), (3, iv x3), (4, iv x4), (5, iv x5), (8, iv x8)] [] := by
    intro o x1 x3 x4 x5 x8 v h k0 k1
    unfold b_X12_early_160 at h
    refine g_iconst E gdX12_early_160 ?_
    refine g_goto E 165 gdX12_early_161 (by decide) ?_
    exact j165 o x1 x3 x4 x5 x8 1 v h k0 k1
  have j164 : ∀ (o : OO) (x1 : Int) (x3 : Int) (x4 : Int) (x5 : Int) (x8 : Int) (v : (Int × Int) ⊕ ((Int))), b_X12_early_164 o x1 x3 x4 x5 x8 = some v → (∀ (x7 : Int) (x8 : Int), v = .inl (x7, x8) → Go X 95 (wM g ad o) [(0, .ref (ad 0)), (1, iv x1), (3, iv x3), (4, iv x4), (5, iv x5), (7, iv x7), (8, iv x8)] []) → (∀ (x7 : Int), v = .inr (x7) → Go X 173 (wM g ad o) [(0, .ref (ad 0)), (1, iv x1), (3, iv x3), (4, iv x4), (5, iv x5), (7, iv x7)] []) → Go X 164 (wM g ad o) [(0, .ref (ad 0)), (1, iv x1), (3, iv x3), (4, iv x4), (5, iv x5), (8, iv x8)] [] := by
    intro o x1 x3 x4 x5 x8 v h k0 k1
    unfold b_X12_early_164 at h
    refine g_iconst E gdX12_early_164 ?_
    exact j165 o x1 x3 x4 x5 x8 0 v h k0 k1
  have l95 : ∀ (o : OO) (x1 : Int) (x3 : Int) (x4 : Int) (x5 : Int) (r : (Int)) (s0 : Int × Int), loopW (fun s => l_X12_early_95 o x1 x3 x4 x5 s.1 s.2) s0 = some r → (∀ (x7 : Int), r = (x7) → Go X 173 (wM g ad o) [(0, .ref (ad 0)), (1, iv x1), (3, iv x3), (4, iv x4), (5, iv x5), (7, iv x7)] []) → Go X 95 (wM g ad o) [(0, .ref (ad 0)), (1, iv x1), (3, iv x3), (4, iv x4), (5, iv x5), (7, iv s0.1), (8, iv s0.2)] [] := by
    intro o x1 x3 x4 x5 r s0 h k1
    refine loop_rule (Head := fun s0 => Go X 95 (wM g ad o) [(0, .ref (ad 0)), (1, iv x1), (3, iv x3), (4, iv x4), (5, iv x5), (7, iv s0.1), (8, iv s0.2)] []) h ?_
    intro s v h kk kx
    obtain ⟨x7, x8⟩ := s
    have h : l_X12_early_95 o x1 x3 x4 x5 x7 x8 = some v := h
    have k0 : ∀ (x7 : Int) (x8 : Int), v = .inl (x7, x8) → Go X 95 (wM g ad o) [(0, .ref (ad 0)), (1, iv x1), (3, iv x3), (4, iv x4), (5, iv x5), (7, iv x7), (8, iv x8)] [] := fun x7 x8 e => kk (x7, x8) e
    have k1 : ∀ (x7 : Int), v = .inr (x7) → Go X 173 (wM g ad o) [(0, .ref (ad 0)), (1, iv x1), (3, iv x3), (4, iv x4), (5, iv x5), (7, iv x7)] [] := fun x7 e => k1 x7 (kx _ e).symm
    unfold l_X12_early_95 at h
    refine g_iload E gdX12_early_95 6 rfl ?_
    refine g_aload_n E gdX12_early_97 rfl 0 rfl ?_
    refine g_get (T := TX12) E fw_X12 0 (wM_0 g ad o) rfl 27 (by decide) w_1493 rfl rfl gdX12_early_98 ?_
    refine g_icmp_ge E 173 gdX12_early_101 (by decide) h (fun h => ?_) (fun h => ?_)
    ·
      refine g_sub E [0, 1, 2, 3, 4, 5] rfl ?_
      exact k1 x7 (Option.some.inj h).symm
    ·
      refine g_iload E gdX12_early_104 5 rfl ?_
      refine g_if_ne E 160 gdX12_early_106 (by decide) h (fun h => ?_) (fun h => ?_)
      ·
        refine g_sub E [0, 1, 2, 3, 4, 6] rfl ?_
        exact j160 o x1 x3 x4 x5 x8 v h k0 k1
      ·
        refine g_iload E gdX12_early_109 6 rfl ?_
        refine g_aload_n E gdX12_early_111 rfl 0 rfl ?_
        refine g_get (T := TX12) E fw_X12 0 (wM_0 g ad o) rfl 50 (by decide) w_1516 rfl rfl gdX12_early_112 ?_
        refine g_iload E gdX12_early_115 4 rfl ?_
        obtain ⟨hi9, h⟩ := qIn_of h
        refine g_iald E 41 (wM_41 g ad o) (by decide) hi9 gdX12_early_117 ?_
        obtain ⟨n10, e_n10, h⟩ := qNm_of h
        refine g_nmi e_n10 ?_
        refine g_icmp_eq E 164 gdX12_early_118 (by decide) h (fun h => ?_) (fun h => ?_)
        ·
          refine g_sub E [0, 1, 2, 3, 4, 6] rfl ?_
          exact j164 o x1 x3 x4 x5 x8 v h k0 k1
        ·
          refine g_aload_n E gdX12_early_121 rfl 0 rfl ?_
          refine g_get (T := TX12) E fw_X12 0 (wM_0 g ad o) rfl 31 (by decide) w_1497 rfl rfl gdX12_early_122 ?_
          refine g_iload E gdX12_early_125 6 rfl ?_
          obtain ⟨hi11, h⟩ := qIn_of h
          refine g_iald E 24 (wM_24 g ad o) (by decide) hi11 gdX12_early_127 ?_
          obtain ⟨n12, e_n12, h⟩ := qNm_of h
          refine g_nmi e_n12 ?_
          refine g_aload_n E gdX12_early_128 rfl 0 rfl ?_
          refine g_get (T := TX12) E fw_X12 0 (wM_0 g ad o) rfl 31 (by decide) w_1497 rfl rfl gdX12_early_129 ?_
          refine g_aload_n E gdX12_early_132 rfl 0 rfl ?_
          refine g_get (T := TX12) E fw_X12 0 (wM_0 g ad o) rfl 50 (by decide) w_1516 rfl rfl gdX12_early_133 ?_
          refine g_iload E gdX12_early_136 4 rfl ?_
          obtain ⟨hi13, h⟩ := qIn_of h
          refine g_iald E 41 (wM_41 g ad o) (by decide) hi13 gdX12_early_138 ?_
          obtain ⟨n14, e_n14, h⟩ := qNm_of h
          refine g_nmi e_n14 ?_
          obtain ⟨hi15, h⟩ := qIn_of h
          refine g_iald E 24 (wM_24 g ad o) (by decide) hi15 gdX12_early_139 ?_
          obtain ⟨n16, e_n16, h⟩ := qNm_of h
          refine g_nmi e_n16 ?_
          refine g_icmp_ne E 164 gdX12_early_140 (by decide) h (fun h => ?_) (fun h => ?_)
          ·
            refine g_sub E [0, 1, 2, 3, 4, 6] rfl ?_
            exact j164 o x1 x3 x4 x5 x8 v h k0 k1
          ·
            refine g_aload_n E gdX12_early_143 rfl 0 rfl ?_
            refine g_iload E gdX12_early_144 6 rfl ?_
            refine g_iload_n E gdX12_early_146 rfl 1 rfl ?_
            refine g_aload_n E gdX12_early_147 rfl 0 rfl ?_
            refine g_get (T := TX12) E fw_X12 0 (wM_0 g ad o) rfl 51 (by decide) w_1517 rfl rfl gdX12_early_148 ?_
            refine g_iload E gdX12_early_151 4 rfl ?_
            obtain ⟨hi17, h⟩ := qIn_of h
            refine g_iald E 42 (wM_42 g ad o) (by decide) hi17 gdX12_early_153 ?_
            obtain ⟨n18, e_n18, h⟩ := qNm_of h
            refine g_nmi e_n18 ?_
            obtain ⟨r19, hc20, h⟩ := qB_of h
            refine g_Vi (r := r19) (As := [iv x8, iv x1, iv n18]) (rest := []) (w := wM g ad o) E (c_X12_knew l g ad o x8 x1 n18 r19 hc20) okm_X12_knew okw_X12_knew w_2001 rfl (wM_0 g ad o) rfl rfl (Nat.le_of_ble_eq_true rfl) ⟨Nat.le_of_ble_eq_true rfl, Nat.le_of_ble_eq_true rfl⟩ gdX12_early_154 ?_
            refine g_if_eq E 164 gdX12_early_157 (by decide) h (fun h => ?_) (fun h => ?_)
            ·
              refine g_sub E [0, 1, 2, 3, 4, 6] rfl ?_
              exact j164 o x1 x3 x4 x5 x8 v h k0 k1
            ·
              refine g_sub E [0, 1, 2, 3, 4, 6] rfl ?_
              exact j160 o x1 x3 x4 x5 x8 v h k0 k1
  have j95 : ∀ (o : OO) (x1 : Int) (x3 : Int) (x4 : Int) (x5 : Int) (x7 : Int) (x8 : Int) (v : (Int × Int × Int) ⊕ ((Int × Int))), e_X12_early_95 o x1 x3 x4 x5 x7 x8 = some v → (∀ (x3 : Int) (x4 : Int) (x5 : Int), v = .inl (x3, x4, x5) → Go X 20 (wM g ad o) [(0, .ref (ad 0)), (1, iv x1), (3, iv x3), (4, iv x4), (5, iv x5)] []) → (∀ (x3 : Int) (x4 : Int), v = .inr ((x3, x4)) → Go X 233 (wM g ad o) [(3, iv x3), (4, iv x4)] []) → Go X 95 (wM g ad o) [(0, .ref (ad 0)), (1, iv x1), (3, iv x3), (4, iv x4), (5, iv x5), (7, iv x7), (8, iv x8)] [] := by
    intro o x1 x3 x4 x5 x7 x8 v h k0 k1
    unfold e_X12_early_95 at h
    obtain ⟨r, hr, h⟩ := qB_of h
    refine l95 o x1 x3 x4 x5 r _ hr ?_
    ·
      intro u0 e
      have e := e.symm
      subst e
      have h : b_X12_early_173 o x1 x3 x4 x5 u0 = some v := h
      exact j173 o x1 x3 x4 x5 u0 v h k0 k1
  have j59 : ∀ (o : OO) (x1 : Int) (x3 : Int) (x4 : Int) (x5 : Int) (y0 : Int) (v : (Int × Int × Int) ⊕ ((Int × Int))), b_X12_early_59 o x1 x3 x4 x5 y0 = some v → (∀ (x3 : Int) (x4 : Int) (x5 : Int), v = .inl (x3, x4, x5) → Go X 20 (wM g ad o) [(0, .ref (ad 0)), (1, iv x1), (3, iv x3), (4, iv x4), (5, iv x5)] []) → (∀ (x3 : Int) (x4 : Int), v = .inr ((x3, x4)) → Go X 233 (wM g ad o) [(3, iv x3), (4, iv x4)] []) → Go X 59 (wM g ad o) [(0, .ref (ad 0)), (1, iv x1), (3, iv x3), (4, iv x4), (5, iv x5)] [iv y0] := by
    intro o x1 x3 x4 x5 y0 v h k0 k1
    unfold b_X12_early_59 at h
    refine g_istore E [(6, iv y0), (0, .ref (ad 0)), (1, iv x1), (3, iv x3), (4, iv x4), (5, iv x5)] gdX12_early_59 (by decide) rfl ?_
    refine g_iload E gdX12_early_61 0 rfl ?_
    refine g_if_eq E 227 gdX12_early_63 (by decide) h (fun h => ?_) (fun h => ?_)
    ·
      refine g_sub E [1, 2, 3, 4, 5] rfl ?_
      exact j227 o x1 x3 x4 x5 v h k0 k1
    ·
      refine g_aload_n E gdX12_early_66 rfl 1 rfl ?_
      refine g_iload_n E gdX12_early_67 rfl 2 rfl ?_
      obtain ⟨p21, hc22, h⟩ := qB_of h
      refine g_Vl (r := p21) (As := [iv x1]) (rest := []) (w := wM g ad o) E (c_X12_cellsOf l g ad o x1 p21 hc22) okm_X12_cellsOf okw_X12_cellsOf w_1914 rfl (wM_0 g ad o) rfl rfl (Nat.le_of_ble_eq_true rfl) ⟨Nat.le_of_ble_eq_true rfl, Nat.le_of_ble_eq_true rfl⟩ gdX12_early_68 ?_
      refine g_aload_n E gdX12_early_71 rfl 1 rfl ?_
      refine g_get (T := TX12) E fw_X12 0 (wM_0 g ad o) rfl 18 (by decide) w_1484 rfl rfl gdX12_early_72 ?_
      refine g_aload_n E gdX12_early_75 rfl 1 rfl ?_
      refine g_get (T := TX12) E fw_X12 0 (wM_0 g ad o) rfl 49 (by decide) w_1515 rfl rfl gdX12_early_76 ?_
      refine g_iload E gdX12_early_79 5 rfl ?_
      obtain ⟨hi23, h⟩ := qIn_of h
      refine g_iald E 40 (wM_40 g ad o) (by decide) hi23 gdX12_early_81 ?_
      obtain ⟨n24, e_n24, h⟩ := qNm_of h
      refine g_nmi e_n24 ?_
      obtain ⟨hi25, h⟩ := qIn_of h
      refine g_iald E 13 (wM_13 g ad o) (by decide) hi25 gdX12_early_82 ?_
      obtain ⟨n26, e_n26, h⟩ := qNm_of h
      refine g_nmi e_n26 ?_
      obtain ⟨r27, hc28, h⟩ := qB_of h
      refine g_Si (r := r27) (As := [.long p21, iv n26]) (rest := []) (w := wM g ad o) E (c_X12_has l g (wM g ad o) p21 n26 r27 hc28) okm_X12_has w_1919 w_1918 rfl rfl (Nat.le_of_ble_eq_true rfl) ⟨Nat.le_of_ble_eq_true rfl, Nat.le_of_ble_eq_true rfl⟩ gdX12_early_83 ?_
      refine g_if_eq E 227 gdX12_early_86 (by decide) h (fun h => ?_) (fun h => ?_)
      ·
        refine g_sub E [1, 2, 3, 4, 5] rfl ?_
        exact j227 o x1 x3 x4 x5 v h k0 k1
      ·
        refine g_iconst E gdX12_early_89 ?_
        refine g_istore E [(7, iv 0), (6, iv y0), (0, .ref (ad 0)), (1, iv x1), (3, iv x3), (4, iv x4), (5, iv x5)] gdX12_early_90 (by decide) rfl ?_
        refine g_iconst E gdX12_early_92 ?_
        refine g_istore E [(8, iv 0), (7, iv 0), (6, iv y0), (0, .ref (ad 0)), (1, iv x1), (3, iv x3), (4, iv x4), (5, iv x5)] gdX12_early_93 (by decide) rfl ?_
        refine g_sub E [3, 4, 5, 6, 7, 1, 0] rfl ?_
        exact j95 o x1 x3 x4 x5 0 0 v h k0 k1
  have j54 : ∀ (o : OO) (x1 : Int) (x3 : Int) (x4 : Int) (x5 : Int) (v : (Int × Int × Int) ⊕ ((Int × Int))), b_X12_early_54 o x1 x3 x4 x5 = some v → (∀ (x3 : Int) (x4 : Int) (x5 : Int), v = .inl (x3, x4, x5) → Go X 20 (wM g ad o) [(0, .ref (ad 0)), (1, iv x1), (3, iv x3), (4, iv x4), (5, iv x5)] []) → (∀ (x3 : Int) (x4 : Int), v = .inr ((x3, x4)) → Go X 233 (wM g ad o) [(3, iv x3), (4, iv x4)] []) → Go X 54 (wM g ad o) [(0, .ref (ad 0)), (1, iv x1), (3, iv x3), (4, iv x4), (5, iv x5)] [] := by
    intro o x1 x3 x4 x5 v h k0 k1
    unfold b_X12_early_54 at h
    refine g_iconst E gdX12_early_54 ?_
    refine g_goto E 59 gdX12_early_55 (by decide) ?_
    exact j59 o x1 x3 x4 x5 1 v h k0 k1
  have l20 : ∀ (o : OO) (x1 : Int) (r : (Int × Int)) (s0 : Int × Int × Int), loopW (fun s => l_X12_early_20 o x1 s.1 s.2.1 s.2.2) s0 = some r → (∀ (x3 : Int) (x4 : Int), r = ((x3, x4)) → Go X 233 (wM g ad o) [(3, iv x3), (4, iv x4)] []) → Go X 20 (wM g ad o) [(0, .ref (ad 0)), (1, iv x1), (3, iv s0.1), (4, iv s0.2.1), (5, iv s0.2.2)] [] := by
    intro o x1 r s0 h k1
    refine loop_rule (Head := fun s0 => Go X 20 (wM g ad o) [(0, .ref (ad 0)), (1, iv x1), (3, iv s0.1), (4, iv s0.2.1), (5, iv s0.2.2)] []) h ?_
    intro s v h kk kx
    obtain ⟨x3, x4, x5⟩ := s
    have h : l_X12_early_20 o x1 x3 x4 x5 = some v := h
    have k0 : ∀ (x3 : Int) (x4 : Int) (x5 : Int), v = .inl (x3, x4, x5) → Go X 20 (wM g ad o) [(0, .ref (ad 0)), (1, iv x1), (3, iv x3), (4, iv x4), (5, iv x5)] [] := fun x3 x4 x5 e => kk (x3, x4, x5) e
    have k1 : ∀ (x3 : Int) (x4 : Int), v = .inr ((x3, x4)) → Go X 233 (wM g ad o) [(3, iv x3), (4, iv x4)] [] := fun x3 x4 e => k1 x3 x4 (kx _ e).symm
    unfold l_X12_early_20 at h
    refine g_iload E gdX12_early_20 4 rfl ?_
    refine g_aload_n E gdX12_early_22 rfl 0 rfl ?_
    refine g_get (T := TX12) E fw_X12 0 (wM_0 g ad o) rfl 48 (by decide) w_1514 rfl rfl gdX12_early_23 ?_
    refine g_icmp_ge E 233 gdX12_early_26 (by decide) h (fun h => ?_) (fun h => ?_)
    ·
      refine g_sub E [2, 3] rfl ?_
      exact k1 x3 x4 (Option.some.inj h).symm
    ·
      refine g_aload_n E gdX12_early_29 rfl 0 rfl ?_
      refine g_get (T := TX12) E fw_X12 0 (wM_0 g ad o) rfl 37 (by decide) w_1503 rfl rfl gdX12_early_30 ?_
      refine g_iload_n E gdX12_early_33 rfl 1 rfl ?_
      obtain ⟨hi29, h⟩ := qIn_of h
      refine g_iald E 29 (wM_29 g ad o) (by decide) hi29 gdX12_early_34 ?_
      obtain ⟨n30, e_n30, h⟩ := qNm_of h
      refine g_nmi e_n30 ?_
      refine g_if_lt E 54 gdX12_early_35 (by decide) h (fun h => ?_) (fun h => ?_)
      ·
        exact j54 o x1 x3 x4 x5 v h k0 k1
      ·
        refine g_aload_n E gdX12_early_38 rfl 0 rfl ?_
        refine g_get (T := TX12) E fw_X12 0 (wM_0 g ad o) rfl 51 (by decide) w_1517 rfl rfl gdX12_early_39 ?_
        refine g_iload E gdX12_early_42 4 rfl ?_
        obtain ⟨hi31, h⟩ := qIn_of h
        refine g_iald E 42 (wM_42 g ad o) (by decide) hi31 gdX12_early_44 ?_
        obtain ⟨n32, e_n32, h⟩ := qNm_of h
        refine g_nmi e_n32 ?_
        refine g_aload_n E gdX12_early_45 rfl 0 rfl ?_
        refine g_get (T := TX12) E fw_X12 0 (wM_0 g ad o) rfl 37 (by decide) w_1503 rfl rfl gdX12_early_46 ?_
        refine g_iload_n E gdX12_early_49 rfl 1 rfl ?_
        obtain ⟨hi33, h⟩ := qIn_of h
        refine g_iald E 29 (wM_29 g ad o) (by decide) hi33 gdX12_early_50 ?_
        obtain ⟨n34, e_n34, h⟩ := qNm_of h
        refine g_nmi e_n34 ?_
        refine g_icmp_ge E 58 gdX12_early_51 (by decide) h (fun h => ?_) (fun h => ?_)
        ·
          refine g_iconst E gdX12_early_58 ?_
          exact j59 o x1 x3 x4 x5 0 v h k0 k1
        ·
          exact j54 o x1 x3 x4 x5 v h k0 k1
  have j20 : ∀ (o : OO) (x1 : Int) (x3 : Int) (x4 : Int) (x5 : Int), e_X12_early_20 o x1 x3 x4 x5 = some v → Go X 20 (wM g ad o) [(0, .ref (ad 0)), (1, iv x1), (3, iv x3), (4, iv x4), (5, iv x5)] [] := by
    intro o x1 x3 x4 x5 h
    unfold e_X12_early_20 at h
    obtain ⟨r, hr, h⟩ := qB_of h
    refine l20 o x1 r _ hr ?_
    ·
      intro u0 u1 e
      subst e
      have h : b_X12_early_233 o u0 u1 = some v := h
      exact j233 o u0 u1 h
  unfold s_X12_early at h
  refine g_aload_n E gdX12_early_0 rfl 0 rfl ?_
  refine g_iload_n E gdX12_early_1 rfl 1 rfl ?_
  obtain ⟨r35, o37, hc36, h⟩ := qB2_of h
  refine g_Vi (r := r35) (As := [iv x1]) (rest := []) (w := wM g ad o37) E (c_X12_askedLine l g ad o x1 (r35, o37) hc36) okm_X12_askedLine okw_X12_askedLine w_1925 rfl (wM_0 g ad o) rfl rfl (Nat.le_of_ble_eq_true rfl) ⟨Nat.le_of_ble_eq_true rfl, Nat.le_of_ble_eq_true rfl⟩ gdX12_early_2 ?_
  refine g_istore_n E [(2, iv r35), (0, .ref (ad 0)), (1, iv x1)] gdX12_early_5 rfl (by decide) rfl ?_
  refine g_iload_n E gdX12_early_6 rfl 0 rfl ?_
  refine g_if_ge E 12 gdX12_early_7 (by decide) h (fun h => ?_) (fun h => ?_)
  ·
    refine g_iconst E gdX12_early_12 ?_
    refine g_istore_n E [(3, iv 0), (2, iv r35), (0, .ref (ad 0)), (1, iv x1)] gdX12_early_13 rfl (by decide) rfl ?_
    refine g_iconst E gdX12_early_14 ?_
    refine g_istore E [(4, iv 0), (3, iv 0), (2, iv r35), (0, .ref (ad 0)), (1, iv x1)] gdX12_early_15 (by decide) rfl ?_
    refine g_iconst E gdX12_early_17 ?_
    refine g_istore E [(5, iv 0), (4, iv 0), (3, iv 0), (2, iv r35), (0, .ref (ad 0)), (1, iv x1)] gdX12_early_18 (by decide) rfl ?_
    refine g_sub E [4, 5, 2, 1, 0] rfl ?_
    exact j20 o37 x1 0 0 0 h
  ·
    refine g_iload_n E gdX12_early_10 rfl 0 rfl ?_
    exact g_iret E hQ (by rw [← Option.some.inj h]) (by rw [← Option.some.inj h]) gdX12_early_11
noncomputable def b_X12_beside_44 (y0 : Int) : Option (Int) := some y0
noncomputable def b_X12_beside_60 (y0 : Int) : Option (Int) := some y0
noncomputable def b_X12_beside_78 (y0 : Int) : Option (Int) := some y0
noncomputable def b_X12_beside_97 (y0 : Int) : Option (Int) := some y0
noncomputable def s_X12_beside (x0 : Int) (x1 : Int) : Option (Int) := qEq x1 0 (qDv x0 8 (qLt 0 (jq x0 8) (b_X12_beside_44 (x0 - 8)) (b_X12_beside_44 (-9)))) (qEq x1 1 (qDv x0 8 (qLt 0 (x0 - jq x0 8 * 8) (b_X12_beside_60 (x0 - 1)) (b_X12_beside_60 (-9)))) (qEq x1 2 (qDv x0 8 (qLt (x0 - jq x0 8 * 8) 7 (b_X12_beside_78 (x0 + 1)) (b_X12_beside_78 (-9)))) (qDv x0 8 (qLt (jq x0 8) 7 (b_X12_beside_97 (x0 + 8)) (b_X12_beside_97 (-9))))))
set_option maxHeartbeats 4000000 in
set_option maxRecDepth 100000 in
theorem c_X12_beside (l : Launch) (g : GG) (ws : va_W) (x0 : Int) (x1 : Int) (v : Int) (h : s_X12_beside x0 x1 = some v) : CI l g yX12_beside cX12_beside 2 (some .int) 0 0 ws [iv x0, iv x1] v ws := by
  refine met_I (by decide) (Nat.le_of_ble_eq_true rfl) ?_
  intro X E hQ
  show Go X 0 ws [(0, iv x0), (1, iv x1)] []
  have j44 : ∀ (y0 : Int), b_X12_beside_44 y0 = some v → Go X 44 ws [] [iv y0] := by
    intro y0 h
    unfold b_X12_beside_44 at h
    exact g_iret E hQ (Option.some.inj h) rfl gdX12_beside_44
  have j60 : ∀ (y0 : Int), b_X12_beside_60 y0 = some v → Go X 60 ws [] [iv y0] := by
    intro y0 h
    unfold b_X12_beside_60 at h
    exact g_iret E hQ (Option.some.inj h) rfl gdX12_beside_60
  have j78 : ∀ (y0 : Int), b_X12_beside_78 y0 = some v → Go X 78 ws [] [iv y0] := by
    intro y0 h
    unfold b_X12_beside_78 at h
    exact g_iret E hQ (Option.some.inj h) rfl gdX12_beside_78
  have j97 : ∀ (y0 : Int), b_X12_beside_97 y0 = some v → Go X 97 ws [] [iv y0] := by
    intro y0 h
    unfold b_X12_beside_97 at h
    exact g_iret E hQ (Option.some.inj h) rfl gdX12_beside_97
  unfold s_X12_beside at h
  refine g_iload_n E gdX12_beside_0 rfl 1 rfl ?_
  obtain ⟨h1, -, ⟨hx, h⟩ | ⟨hx0, h⟩⟩ := qEq_of h
  ·
    refine g_tabIn (kx := 0) (off := 27) E 28 gdX12_beside_1 hx (by decide) (by decide) (by decide) (by decide) (by decide) ?_
    refine g_iload_n E gdX12_beside_28 rfl 0 rfl ?_
    refine g_bipush E gdX12_beside_29 (by decide) ?_
    obtain ⟨hd1, h⟩ := qDv_of h
    refine g_idiv E hd1 gdX12_beside_31 ?_
    refine g_if_le E 42 gdX12_beside_32 (by decide) h (fun h => ?_) (fun h => ?_)
    ·
      refine g_bipush E gdX12_beside_42 (by decide) ?_
      refine g_sub E [] rfl ?_
      exact j44 (-9) h
    ·
      refine g_iload_n E gdX12_beside_35 rfl 0 rfl ?_
      refine g_bipush E gdX12_beside_36 (by decide) ?_
      refine g_isub E gdX12_beside_38 ?_
      refine g_goto E 44 gdX12_beside_39 (by decide) ?_
      refine g_sub E [] rfl ?_
      exact j44 (x0 - 8) h
  ·
    obtain ⟨h1, -, ⟨hx, h⟩ | ⟨hx1, h⟩⟩ := qEq_of h
    ·
      refine g_tabIn (kx := 1) (off := 44) E 45 gdX12_beside_1 hx (by decide) (by decide) (by decide) (by decide) (by decide) ?_
      refine g_iload_n E gdX12_beside_45 rfl 0 rfl ?_
      refine g_bipush E gdX12_beside_46 (by decide) ?_
      obtain ⟨hd2, h⟩ := qDv_of h
      refine g_irem E hd2 gdX12_beside_48 ?_
      refine g_if_le E 58 gdX12_beside_49 (by decide) h (fun h => ?_) (fun h => ?_)
      ·
        refine g_bipush E gdX12_beside_58 (by decide) ?_
        refine g_sub E [] rfl ?_
        exact j60 (-9) h
      ·
        refine g_iload_n E gdX12_beside_52 rfl 0 rfl ?_
        refine g_iconst E gdX12_beside_53 ?_
        refine g_isub E gdX12_beside_54 ?_
        refine g_goto E 60 gdX12_beside_55 (by decide) ?_
        refine g_sub E [] rfl ?_
        exact j60 (x0 - 1) h
    ·
      obtain ⟨h1, -, ⟨hx, h⟩ | ⟨hx2, h⟩⟩ := qEq_of h
      ·
        refine g_tabIn (kx := 2) (off := 60) E 61 gdX12_beside_1 hx (by decide) (by decide) (by decide) (by decide) (by decide) ?_
        refine g_iload_n E gdX12_beside_61 rfl 0 rfl ?_
        refine g_bipush E gdX12_beside_62 (by decide) ?_
        obtain ⟨hd3, h⟩ := qDv_of h
        refine g_irem E hd3 gdX12_beside_64 ?_
        refine g_bipush E gdX12_beside_65 (by decide) ?_
        refine g_icmp_ge E 76 gdX12_beside_67 (by decide) h (fun h => ?_) (fun h => ?_)
        ·
          refine g_bipush E gdX12_beside_76 (by decide) ?_
          refine g_sub E [] rfl ?_
          exact j78 (-9) h
        ·
          refine g_iload_n E gdX12_beside_70 rfl 0 rfl ?_
          refine g_iconst E gdX12_beside_71 ?_
          refine g_iadd E gdX12_beside_72 ?_
          refine g_goto E 78 gdX12_beside_73 (by decide) ?_
          refine g_sub E [] rfl ?_
          exact j78 (x0 + 1) h
      ·
        refine g_tabOut E 79 gdX12_beside_1 h1 (by omega) (by decide) ?_
        refine g_iload_n E gdX12_beside_79 rfl 0 rfl ?_
        refine g_bipush E gdX12_beside_80 (by decide) ?_
        obtain ⟨hd4, h⟩ := qDv_of h
        refine g_idiv E hd4 gdX12_beside_82 ?_
        refine g_bipush E gdX12_beside_83 (by decide) ?_
        refine g_icmp_ge E 95 gdX12_beside_85 (by decide) h (fun h => ?_) (fun h => ?_)
        ·
          refine g_bipush E gdX12_beside_95 (by decide) ?_
          refine g_sub E [] rfl ?_
          exact j97 (-9) h
        ·
          refine g_iload_n E gdX12_beside_88 rfl 0 rfl ?_
          refine g_bipush E gdX12_beside_89 (by decide) ?_
          refine g_iadd E gdX12_beside_91 ?_
          refine g_goto E 97 gdX12_beside_92 (by decide) ?_
          refine g_sub E [] rfl ?_
          exact j97 (x0 + 8) h
noncomputable def b_X12_setSteps_166 (o : OO) : Option (OO) := some o
noncomputable def b_X12_setSteps_163 (o : OO) (z2 : Int64) (x4 : Int) : Option ((OO × Int) ⊕ ((OO))) := some (.inl (o, x4))
noncomputable def b_X12_setSteps_157 (o : OO) (z2 : Int64) (x4 : Int) (x5 : Int) : Option ((OO × Int × Int) ⊕ ((OO × Int))) := some (.inl (o, x4, x5 + 1))
noncomputable def b_X12_setSteps_151 (o : OO) (z2 : Int64) (x4 : Int) (x5 : Int) (x6 : Int) : Option ((OO × Int × Int) ⊕ ((OO × Int))) := some (.inl (o, x4, x6 + 1))
noncomputable def l_X12_setSteps_60 (z2 : Int64) (x5 : Int) (o : OO) (x4 : Int) (x6 : Int) : Option ((OO × Int × Int) ⊕ ((OO × Int))) := qLt x6 4 (qIn x5 64 (qNm (o.1 52 x5.toNat) (fun n2 => qLt n2 100000000 (qB (s_X12_beside x5 x6) (fun r3 => qLt r3 0 (b_X12_setSteps_151 o z2 x4 x5 x6) (qIn r3 64 (qNm (o.1 11 r3.toNat) (fun n6 => qEq n6 4 (b_X12_setSteps_151 o z2 x4 x5 x6) (qB (s_X12_has z2 r3) (fun r7 => qEq r7 0 (qIn x5 64 (qNm (o.1 52 x5.toNat) (fun n10 => qIn r3 64 (qNm (o.1 52 r3.toNat) (fun n12 => qLt (n10 + 1) n12 (qIn x5 64 (qNm (o.1 52 x5.toNat) (fun n14 => qIn r3 64 (qNm (st1 o 52 r3.toNat (n14 + 1)) (fun o16 => b_X12_setSteps_151 o16 z2 1 x5 x6))))) (b_X12_setSteps_151 o z2 x4 x5 x6)))))) (b_X12_setSteps_151 o z2 x4 x5 x6)))))))) (some (.inr ((o, x4))))))) (some (.inr ((o, x4))))
noncomputable def e_X12_setSteps_60 (o : OO) (z2 : Int64) (x4 : Int) (x5 : Int) (x6 : Int) : Option ((OO × Int × Int) ⊕ ((OO × Int))) := qB (loopW (fun s => l_X12_setSteps_60 z2 x5 s.1 s.2.1 s.2.2) (o, x4, x6)) (fun r => b_X12_setSteps_157 r.1 z2 r.2 x5)
noncomputable def l_X12_setSteps_50 (z2 : Int64) (o : OO) (x4 : Int) (x5 : Int) : Option ((OO × Int × Int) ⊕ ((OO × Int))) := qLt x5 64 (e_X12_setSteps_60 o z2 x4 x5 0) (some (.inr ((o, x4))))
noncomputable def e_X12_setSteps_50 (o : OO) (z2 : Int64) (x4 : Int) (x5 : Int) : Option ((OO × Int) ⊕ ((OO))) := qB (loopW (fun s => l_X12_setSteps_50 z2 s.1 s.2.1 s.2.2) (o, x4, x5)) (fun r => b_X12_setSteps_163 r.1 z2 r.2)
noncomputable def l_X12_setSteps_39 (z2 : Int64) (o : OO) (x4 : Int) : Option ((OO × Int) ⊕ ((OO))) := qEq x4 0 (some (.inr (o))) (e_X12_setSteps_50 o z2 0 0)
noncomputable def e_X12_setSteps_39 (o : OO) (z2 : Int64) (x4 : Int) : Option (OO) := qB (loopW (fun s => l_X12_setSteps_39 z2 s.1 s.2) (o, x4)) (fun r => b_X12_setSteps_166 r)
noncomputable def b_X12_setSteps_36 (o : OO) (z2 : Int64) : Option (OO) := e_X12_setSteps_39 o z2 1
noncomputable def b_X12_setSteps_29 (o : OO) (x1 : Int) (z2 : Int64) (x4 : Int) (y1 : Int) (y2 : Int) : Option ((OO × Int) ⊕ ((OO))) := qIn y1 64 (qNm (st1 o 52 y1.toNat y2) (fun o18 => some (.inl (o18, x4 + 1))))
noncomputable def l_X12_setSteps_3 (x1 : Int) (z2 : Int64) (o : OO) (x4 : Int) : Option ((OO × Int) ⊕ ((OO))) := qLt x4 64 (qEq x4 x1 (b_X12_setSteps_29 o x1 z2 x4 x4 0) (b_X12_setSteps_29 o x1 z2 x4 x4 100000000)) (some (.inr (o)))
noncomputable def e_X12_setSteps_3 (o : OO) (x1 : Int) (z2 : Int64) (x4 : Int) : Option (OO) := qB (loopW (fun s => l_X12_setSteps_3 x1 z2 s.1 s.2) (o, x4)) (fun r => b_X12_setSteps_36 r z2)
noncomputable def s_X12_setSteps (o : OO) (x1 : Int) (z2 : Int64) : Option (OO) := e_X12_setSteps_3 o x1 z2 0
set_option maxHeartbeats 4000000 in
set_option maxRecDepth 100000 in
theorem c_X12_setSteps (l : Launch) (g : GG) (ad : Nat → Nat) (o : OO) (x1 : Int) (z2 : Int64) (v : OO) (h : s_X12_setSteps o x1 z2 = some v) : CV l g yX12_setSteps cX12_setSteps 8 1 22 (wM g ad o) [.ref (ad 0), iv x1, .long z2] (wM g ad v) := by
  refine met_V (by decide) (Nat.le_of_ble_eq_true rfl) ?_
  intro X E hQ
  show Go X 0 (wM g ad o) [(0, .ref (ad 0)), (1, iv x1), (2, .long z2)] []
  have j166 : ∀ (o : OO), b_X12_setSteps_166 o = some v → Go X 166 (wM g ad o) [] [] := by
    intro o h
    unfold b_X12_setSteps_166 at h
    exact g_vret E hQ (by rw [← Option.some.inj h]) gdX12_setSteps_166
  have j163 : ∀ (o : OO) (z2 : Int64) (x4 : Int) (v : (OO × Int) ⊕ ((OO))), b_X12_setSteps_163 o z2 x4 = some v → (∀ (o : OO) (x4 : Int), v = .inl (o, x4) → Go X 39 (wM g ad o) [(0, .ref (ad 0)), (2, .long z2), (4, iv x4)] []) → (∀ (o : OO), v = .inr (o) → Go X 166 (wM g ad o) [] []) → Go X 163 (wM g ad o) [(0, .ref (ad 0)), (2, .long z2), (4, iv x4)] [] := by
    intro o z2 x4 v h k0 k1
    unfold b_X12_setSteps_163 at h
    refine g_goto E 39 gdX12_setSteps_163 (by decide) ?_
    exact k0 o x4 (Option.some.inj h).symm
  have j157 : ∀ (o : OO) (z2 : Int64) (x4 : Int) (x5 : Int) (v : (OO × Int × Int) ⊕ ((OO × Int))), b_X12_setSteps_157 o z2 x4 x5 = some v → (∀ (o : OO) (x4 : Int) (x5 : Int), v = .inl (o, x4, x5) → Go X 50 (wM g ad o) [(0, .ref (ad 0)), (2, .long z2), (4, iv x4), (5, iv x5)] []) → (∀ (o : OO) (x4 : Int), v = .inr ((o, x4)) → Go X 163 (wM g ad o) [(0, .ref (ad 0)), (2, .long z2), (4, iv x4)] []) → Go X 157 (wM g ad o) [(0, .ref (ad 0)), (2, .long z2), (4, iv x4), (5, iv x5)] [] := by
    intro o z2 x4 x5 v h k0 k1
    unfold b_X12_setSteps_157 at h
    refine g_iinc E [(5, iv (x5 + 1)), (0, .ref (ad 0)), (2, .long z2), (4, iv x4)] gdX12_setSteps_157 3 rfl (by decide) rfl ?_
    refine g_goto E 50 gdX12_setSteps_160 (by decide) ?_
    refine g_sub E [1, 2, 3, 0] rfl ?_
    exact k0 o x4 (x5 + 1) (Option.some.inj h).symm
  have j151 : ∀ (o : OO) (z2 : Int64) (x4 : Int) (x5 : Int) (x6 : Int) (v : (OO × Int × Int) ⊕ ((OO × Int))), b_X12_setSteps_151 o z2 x4 x5 x6 = some v → (∀ (o : OO) (x4 : Int) (x6 : Int), v = .inl (o, x4, x6) → Go X 60 (wM g ad o) [(0, .ref (ad 0)), (2, .long z2), (4, iv x4), (5, iv x5), (6, iv x6)] []) → (∀ (o : OO) (x4 : Int), v = .inr ((o, x4)) → Go X 157 (wM g ad o) [(0, .ref (ad 0)), (2, .long z2), (4, iv x4), (5, iv x5)] []) → Go X 151 (wM g ad o) [(0, .ref (ad 0)), (2, .long z2), (4, iv x4), (5, iv x5), (6, iv x6)] [] := by
    intro o z2 x4 x5 x6 v h k0 k1
    unfold b_X12_setSteps_151 at h
    refine g_iinc E [(6, iv (x6 + 1)), (0, .ref (ad 0)), (2, .long z2), (4, iv x4), (5, iv x5)] gdX12_setSteps_151 4 rfl (by decide) rfl ?_
    refine g_goto E 60 gdX12_setSteps_154 (by decide) ?_
    refine g_sub E [1, 2, 3, 4, 0] rfl ?_
    exact k0 o x4 (x6 + 1) (Option.some.inj h).symm
  have l60 : ∀ (z2 : Int64) (x5 : Int) (r : (OO × Int)) (s0 : OO × Int × Int), loopW (fun s => l_X12_setSteps_60 z2 x5 s.1 s.2.1 s.2.2) s0 = some r → (∀ (o : OO) (x4 : Int), r = ((o, x4)) → Go X 157 (wM g ad o) [(0, .ref (ad 0)), (2, .long z2), (4, iv x4), (5, iv x5)] []) → Go X 60 (wM g ad s0.1) [(0, .ref (ad 0)), (2, .long z2), (4, iv s0.2.1), (5, iv x5), (6, iv s0.2.2)] [] := by
    intro z2 x5 r s0 h k1
    refine loop_rule (Head := fun s0 => Go X 60 (wM g ad s0.1) [(0, .ref (ad 0)), (2, .long z2), (4, iv s0.2.1), (5, iv x5), (6, iv s0.2.2)] []) h ?_
    intro s v h kk kx
    obtain ⟨o, x4, x6⟩ := s
    have h : l_X12_setSteps_60 z2 x5 o x4 x6 = some v := h
    have k0 : ∀ (o : OO) (x4 : Int) (x6 : Int), v = .inl (o, x4, x6) → Go X 60 (wM g ad o) [(0, .ref (ad 0)), (2, .long z2), (4, iv x4), (5, iv x5), (6, iv x6)] [] := fun o x4 x6 e => kk (o, x4, x6) e
    have k1 : ∀ (o : OO) (x4 : Int), v = .inr ((o, x4)) → Go X 157 (wM g ad o) [(0, .ref (ad 0)), (2, .long z2), (4, iv x4), (5, iv x5)] [] := fun o x4 e => k1 o x4 (kx _ e).symm
    unfold l_X12_setSteps_60 at h
    refine g_iload E gdX12_setSteps_60 4 rfl ?_
    refine g_iconst E gdX12_setSteps_62 ?_
    refine g_icmp_ge E 157 gdX12_setSteps_63 (by decide) h (fun h => ?_) (fun h => ?_)
    ·
      refine g_sub E [0, 1, 2, 3] rfl ?_
      exact k1 o x4 (Option.some.inj h).symm
    ·
      refine g_aload_n E gdX12_setSteps_66 rfl 0 rfl ?_
      refine g_get (T := TX12) E fw_X12 0 (wM_0 g ad o) rfl 62 (by decide) w_1528 rfl rfl gdX12_setSteps_67 ?_
      refine g_iload E gdX12_setSteps_70 3 rfl ?_
      obtain ⟨hi1, h⟩ := qIn_of h
      refine g_iald E 52 (wM_52 g ad o) (by decide) hi1 gdX12_setSteps_72 ?_
      obtain ⟨n2, e_n2, h⟩ := qNm_of h
      refine g_nmi e_n2 ?_
      refine g_ldcw (k := 100000000) E gdX12_setSteps_73 w_1879 (by decide) ?_
      refine g_icmp_ge E 157 gdX12_setSteps_76 (by decide) h (fun h => ?_) (fun h => ?_)
      ·
        refine g_sub E [0, 1, 2, 3] rfl ?_
        exact k1 o x4 (Option.some.inj h).symm
      ·
        refine g_iload E gdX12_setSteps_79 3 rfl ?_
        refine g_iload E gdX12_setSteps_81 4 rfl ?_
        obtain ⟨r3, hc4, h⟩ := qB_of h
        refine g_Si (r := r3) (As := [iv x5, iv x6]) (rest := []) (w := wM g ad o) E (c_X12_beside l g (wM g ad o) x5 x6 r3 hc4) okm_X12_beside w_1881 w_1880 rfl rfl (Nat.le_of_ble_eq_true rfl) ⟨Nat.le_of_ble_eq_true rfl, Nat.le_of_ble_eq_true rfl⟩ gdX12_setSteps_83 ?_
        refine g_istore E [(7, iv r3), (0, .ref (ad 0)), (2, .long z2), (4, iv x4), (5, iv x5), (6, iv x6)] gdX12_setSteps_86 (by decide) rfl ?_
        refine g_iload E gdX12_setSteps_88 0 rfl ?_
        refine g_if_lt E 151 gdX12_setSteps_90 (by decide) h (fun h => ?_) (fun h => ?_)
        ·
          refine g_sub E [1, 2, 3, 4, 5] rfl ?_
          exact j151 o z2 x4 x5 x6 v h k0 k1
        ·
          refine g_aload_n E gdX12_setSteps_93 rfl 1 rfl ?_
          refine g_get (T := TX12) E fw_X12 0 (wM_0 g ad o) rfl 15 (by decide) w_1481 rfl rfl gdX12_setSteps_94 ?_
          refine g_iload E gdX12_setSteps_97 0 rfl ?_
          obtain ⟨hi5, h⟩ := qIn_of h
          refine g_iald E 11 (wM_11 g ad o) (by decide) hi5 gdX12_setSteps_99 ?_
          obtain ⟨n6, e_n6, h⟩ := qNm_of h
          refine g_nmi e_n6 ?_
          refine g_iconst E gdX12_setSteps_100 ?_
          refine g_icmp_eq E 151 gdX12_setSteps_101 (by decide) h (fun h => ?_) (fun h => ?_)
          ·
            refine g_sub E [1, 2, 3, 4, 5] rfl ?_
            exact j151 o z2 x4 x5 x6 v h k0 k1
          ·
            refine g_lload_n E gdX12_setSteps_104 rfl 2 rfl ?_
            refine g_iload E gdX12_setSteps_105 0 rfl ?_
            obtain ⟨r7, hc8, h⟩ := qB_of h
            refine g_Si (r := r7) (As := [.long z2, iv r3]) (rest := []) (w := wM g ad o) E (c_X12_has l g (wM g ad o) z2 r3 r7 hc8) okm_X12_has w_1919 w_1918 rfl rfl (Nat.le_of_ble_eq_true rfl) ⟨Nat.le_of_ble_eq_true rfl, Nat.le_of_ble_eq_true rfl⟩ gdX12_setSteps_107 ?_
            refine g_if_ne E 151 gdX12_setSteps_110 (by decide) h (fun h => ?_) (fun h => ?_)
            ·
              refine g_sub E [1, 2, 3, 4, 5] rfl ?_
              exact j151 o z2 x4 x5 x6 v h k0 k1
            ·
              refine g_aload_n E gdX12_setSteps_113 rfl 1 rfl ?_
              refine g_get (T := TX12) E fw_X12 0 (wM_0 g ad o) rfl 62 (by decide) w_1528 rfl rfl gdX12_setSteps_114 ?_
              refine g_iload E gdX12_setSteps_117 4 rfl ?_
              obtain ⟨hi9, h⟩ := qIn_of h
              refine g_iald E 52 (wM_52 g ad o) (by decide) hi9 gdX12_setSteps_119 ?_
              obtain ⟨n10, e_n10, h⟩ := qNm_of h
              refine g_nmi e_n10 ?_
              refine g_iconst E gdX12_setSteps_120 ?_
              refine g_iadd E gdX12_setSteps_121 ?_
              refine g_aload_n E gdX12_setSteps_122 rfl 1 rfl ?_
              refine g_get (T := TX12) E fw_X12 0 (wM_0 g ad o) rfl 62 (by decide) w_1528 rfl rfl gdX12_setSteps_123 ?_
              refine g_iload E gdX12_setSteps_126 0 rfl ?_
              obtain ⟨hi11, h⟩ := qIn_of h
              refine g_iald E 52 (wM_52 g ad o) (by decide) hi11 gdX12_setSteps_128 ?_
              obtain ⟨n12, e_n12, h⟩ := qNm_of h
              refine g_nmi e_n12 ?_
              refine g_icmp_ge E 151 gdX12_setSteps_129 (by decide) h (fun h => ?_) (fun h => ?_)
              ·
                refine g_sub E [1, 2, 3, 4, 5] rfl ?_
                exact j151 o z2 x4 x5 x6 v h k0 k1
              ·
                refine g_aload_n E gdX12_setSteps_132 rfl 1 rfl ?_
                refine g_get (T := TX12) E fw_X12 0 (wM_0 g ad o) rfl 62 (by decide) w_1528 rfl rfl gdX12_setSteps_133 ?_
                refine g_iload E gdX12_setSteps_136 0 rfl ?_
                refine g_aload_n E gdX12_setSteps_138 rfl 1 rfl ?_
                refine g_get (T := TX12) E fw_X12 0 (wM_0 g ad o) rfl 62 (by decide) w_1528 rfl rfl gdX12_setSteps_139 ?_
                refine g_iload E gdX12_setSteps_142 4 rfl ?_
                obtain ⟨hi13, h⟩ := qIn_of h
                refine g_iald E 52 (wM_52 g ad o) (by decide) hi13 gdX12_setSteps_144 ?_
                obtain ⟨n14, e_n14, h⟩ := qNm_of h
                refine g_nmi e_n14 ?_
                refine g_iconst E gdX12_setSteps_145 ?_
                refine g_iadd E gdX12_setSteps_146 ?_
                obtain ⟨hi15, h⟩ := qIn_of h
                obtain ⟨o16, e_o16, h⟩ := qNm_of h
                refine g_iast (ws' := wM g ad o16) E 52 (wM_52 g ad o) (by decide) hi15 (by rw [e_o16]; exact wM_s52 g ad o _ _) gdX12_setSteps_147 ?_
                refine g_iconst E gdX12_setSteps_148 ?_
                refine g_istore E [(4, iv 1), (7, iv r3), (0, .ref (ad 0)), (2, .long z2), (5, iv x5), (6, iv x6)] gdX12_setSteps_149 (by decide) rfl ?_
                refine g_sub E [2, 3, 0, 4, 5] rfl ?_
                exact j151 o16 z2 1 x5 x6 v h k0 k1
  have j60 : ∀ (o : OO) (z2 : Int64) (x4 : Int) (x5 : Int) (x6 : Int) (v : (OO × Int × Int) ⊕ ((OO × Int))), e_X12_setSteps_60 o z2 x4 x5 x6 = some v → (∀ (o : OO) (x4 : Int) (x5 : Int), v = .inl (o, x4, x5) → Go X 50 (wM g ad o) [(0, .ref (ad 0)), (2, .long z2), (4, iv x4), (5, iv x5)] []) → (∀ (o : OO) (x4 : Int), v = .inr ((o, x4)) → Go X 163 (wM g ad o) [(0, .ref (ad 0)), (2, .long z2), (4, iv x4)] []) → Go X 60 (wM g ad o) [(0, .ref (ad 0)), (2, .long z2), (4, iv x4), (5, iv x5), (6, iv x6)] [] := by
    intro o z2 x4 x5 x6 v h k0 k1
    unfold e_X12_setSteps_60 at h
    obtain ⟨r, hr, h⟩ := qB_of h
    refine l60 z2 x5 r _ hr ?_
    ·
      intro u0 u1 e
      subst e
      have h : b_X12_setSteps_157 u0 z2 u1 x5 = some v := h
      exact j157 u0 z2 u1 x5 v h k0 k1
  have l50 : ∀ (z2 : Int64) (r : (OO × Int)) (s0 : OO × Int × Int), loopW (fun s => l_X12_setSteps_50 z2 s.1 s.2.1 s.2.2) s0 = some r → (∀ (o : OO) (x4 : Int), r = ((o, x4)) → Go X 163 (wM g ad o) [(0, .ref (ad 0)), (2, .long z2), (4, iv x4)] []) → Go X 50 (wM g ad s0.1) [(0, .ref (ad 0)), (2, .long z2), (4, iv s0.2.1), (5, iv s0.2.2)] [] := by
    intro z2 r s0 h k1
    refine loop_rule (Head := fun s0 => Go X 50 (wM g ad s0.1) [(0, .ref (ad 0)), (2, .long z2), (4, iv s0.2.1), (5, iv s0.2.2)] []) h ?_
    intro s v h kk kx
    obtain ⟨o, x4, x5⟩ := s
    have h : l_X12_setSteps_50 z2 o x4 x5 = some v := h
    have k0 : ∀ (o : OO) (x4 : Int) (x5 : Int), v = .inl (o, x4, x5) → Go X 50 (wM g ad o) [(0, .ref (ad 0)), (2, .long z2), (4, iv x4), (5, iv x5)] [] := fun o x4 x5 e => kk (o, x4, x5) e
    have k1 : ∀ (o : OO) (x4 : Int), v = .inr ((o, x4)) → Go X 163 (wM g ad o) [(0, .ref (ad 0)), (2, .long z2), (4, iv x4)] [] := fun o x4 e => k1 o x4 (kx _ e).symm
    unfold l_X12_setSteps_50 at h
    refine g_iload E gdX12_setSteps_50 3 rfl ?_
    refine g_bipush E gdX12_setSteps_52 (by decide) ?_
    refine g_icmp_ge E 163 gdX12_setSteps_54 (by decide) h (fun h => ?_) (fun h => ?_)
    ·
      refine g_sub E [0, 1, 2] rfl ?_
      exact k1 o x4 (Option.some.inj h).symm
    ·
      refine g_iconst E gdX12_setSteps_57 ?_
      refine g_istore E [(6, iv 0), (0, .ref (ad 0)), (2, .long z2), (4, iv x4), (5, iv x5)] gdX12_setSteps_58 (by decide) rfl ?_
      refine g_sub E [1, 2, 3, 4, 0] rfl ?_
      exact j60 o z2 x4 x5 0 v h k0 k1
  have j50 : ∀ (o : OO) (z2 : Int64) (x4 : Int) (x5 : Int) (v : (OO × Int) ⊕ ((OO))), e_X12_setSteps_50 o z2 x4 x5 = some v → (∀ (o : OO) (x4 : Int), v = .inl (o, x4) → Go X 39 (wM g ad o) [(0, .ref (ad 0)), (2, .long z2), (4, iv x4)] []) → (∀ (o : OO), v = .inr (o) → Go X 166 (wM g ad o) [] []) → Go X 50 (wM g ad o) [(0, .ref (ad 0)), (2, .long z2), (4, iv x4), (5, iv x5)] [] := by
    intro o z2 x4 x5 v h k0 k1
    unfold e_X12_setSteps_50 at h
    obtain ⟨r, hr, h⟩ := qB_of h
    refine l50 z2 r _ hr ?_
    ·
      intro u0 u1 e
      subst e
      have h : b_X12_setSteps_163 u0 z2 u1 = some v := h
      exact j163 u0 z2 u1 v h k0 k1
  have l39 : ∀ (z2 : Int64) (r : (OO)) (s0 : OO × Int), loopW (fun s => l_X12_setSteps_39 z2 s.1 s.2) s0 = some r → (∀ (o : OO), r = (o) → Go X 166 (wM g ad o) [] []) → Go X 39 (wM g ad s0.1) [(0, .ref (ad 0)), (2, .long z2), (4, iv s0.2)] [] := by
    intro z2 r s0 h k1
    refine loop_rule (Head := fun s0 => Go X 39 (wM g ad s0.1) [(0, .ref (ad 0)), (2, .long z2), (4, iv s0.2)] []) h ?_
    intro s v h kk kx
    obtain ⟨o, x4⟩ := s
    have h : l_X12_setSteps_39 z2 o x4 = some v := h
    have k0 : ∀ (o : OO) (x4 : Int), v = .inl (o, x4) → Go X 39 (wM g ad o) [(0, .ref (ad 0)), (2, .long z2), (4, iv x4)] [] := fun o x4 e => kk (o, x4) e
    have k1 : ∀ (o : OO), v = .inr (o) → Go X 166 (wM g ad o) [] [] := fun o e => k1 o (kx _ e).symm
    unfold l_X12_setSteps_39 at h
    refine g_iload E gdX12_setSteps_39 2 rfl ?_
    refine g_if_eq E 166 gdX12_setSteps_41 (by decide) h (fun h => ?_) (fun h => ?_)
    ·
      refine g_sub E [] rfl ?_
      exact k1 o (Option.some.inj h).symm
    ·
      refine g_iconst E gdX12_setSteps_44 ?_
      refine g_istore E [(4, iv 0), (0, .ref (ad 0)), (2, .long z2)] gdX12_setSteps_45 (by decide) rfl ?_
      refine g_iconst E gdX12_setSteps_47 ?_
      refine g_istore E [(5, iv 0), (4, iv 0), (0, .ref (ad 0)), (2, .long z2)] gdX12_setSteps_48 (by decide) rfl ?_
      refine g_sub E [2, 3, 1, 0] rfl ?_
      exact j50 o z2 0 0 v h k0 k1
  have j39 : ∀ (o : OO) (z2 : Int64) (x4 : Int), e_X12_setSteps_39 o z2 x4 = some v → Go X 39 (wM g ad o) [(0, .ref (ad 0)), (2, .long z2), (4, iv x4)] [] := by
    intro o z2 x4 h
    unfold e_X12_setSteps_39 at h
    obtain ⟨r, hr, h⟩ := qB_of h
    refine l39 z2 r _ hr ?_
    ·
      intro u0 e
      have e := e.symm
      subst e
      have h : b_X12_setSteps_166 u0 = some v := h
      exact j166 u0 h
  have j36 : ∀ (o : OO) (z2 : Int64), b_X12_setSteps_36 o z2 = some v → Go X 36 (wM g ad o) [(0, .ref (ad 0)), (2, .long z2)] [] := by
    intro o z2 h
    unfold b_X12_setSteps_36 at h
    refine g_iconst E gdX12_setSteps_36 ?_
    refine g_istore E [(4, iv 1), (0, .ref (ad 0)), (2, .long z2)] gdX12_setSteps_37 (by decide) rfl ?_
    refine g_sub E [1, 2, 0] rfl ?_
    exact j39 o z2 1 h
  have j29 : ∀ (o : OO) (x1 : Int) (z2 : Int64) (x4 : Int) (y1 : Int) (y2 : Int) (v : (OO × Int) ⊕ ((OO))), b_X12_setSteps_29 o x1 z2 x4 y1 y2 = some v → (∀ (o : OO) (x4 : Int), v = .inl (o, x4) → Go X 3 (wM g ad o) [(0, .ref (ad 0)), (1, iv x1), (2, .long z2), (4, iv x4)] []) → (∀ (o : OO), v = .inr (o) → Go X 36 (wM g ad o) [(0, .ref (ad 0)), (2, .long z2)] []) → Go X 29 (wM g ad o) [(0, .ref (ad 0)), (1, iv x1), (2, .long z2), (4, iv x4)] [iv y2, iv y1, .ref (ad 52)] := by
    intro o x1 z2 x4 y1 y2 v h k0 k1
    unfold b_X12_setSteps_29 at h
    obtain ⟨hi17, h⟩ := qIn_of h
    obtain ⟨o18, e_o18, h⟩ := qNm_of h
    refine g_iast (ws' := wM g ad o18) E 52 (wM_52 g ad o) (by decide) hi17 (by rw [e_o18]; exact wM_s52 g ad o _ _) gdX12_setSteps_29 ?_
    refine g_iinc E [(4, iv (x4 + 1)), (0, .ref (ad 0)), (1, iv x1), (2, .long z2)] gdX12_setSteps_30 3 rfl (by decide) rfl ?_
    refine g_goto E 3 gdX12_setSteps_33 (by decide) ?_
    refine g_sub E [1, 2, 3, 0] rfl ?_
    exact k0 o18 (x4 + 1) (Option.some.inj h).symm
  have l3 : ∀ (x1 : Int) (z2 : Int64) (r : (OO)) (s0 : OO × Int), loopW (fun s => l_X12_setSteps_3 x1 z2 s.1 s.2) s0 = some r → (∀ (o : OO), r = (o) → Go X 36 (wM g ad o) [(0, .ref (ad 0)), (2, .long z2)] []) → Go X 3 (wM g ad s0.1) [(0, .ref (ad 0)), (1, iv x1), (2, .long z2), (4, iv s0.2)] [] := by
    intro x1 z2 r s0 h k1
    refine loop_rule (Head := fun s0 => Go X 3 (wM g ad s0.1) [(0, .ref (ad 0)), (1, iv x1), (2, .long z2), (4, iv s0.2)] []) h ?_
    intro s v h kk kx
    obtain ⟨o, x4⟩ := s
    have h : l_X12_setSteps_3 x1 z2 o x4 = some v := h
    have k0 : ∀ (o : OO) (x4 : Int), v = .inl (o, x4) → Go X 3 (wM g ad o) [(0, .ref (ad 0)), (1, iv x1), (2, .long z2), (4, iv x4)] [] := fun o x4 e => kk (o, x4) e
    have k1 : ∀ (o : OO), v = .inr (o) → Go X 36 (wM g ad o) [(0, .ref (ad 0)), (2, .long z2)] [] := fun o e => k1 o (kx _ e).symm
    unfold l_X12_setSteps_3 at h
    refine g_iload E gdX12_setSteps_3 3 rfl ?_
    refine g_bipush E gdX12_setSteps_5 (by decide) ?_
    refine g_icmp_ge E 36 gdX12_setSteps_7 (by decide) h (fun h => ?_) (fun h => ?_)
    ·
      refine g_sub E [0, 2] rfl ?_
      exact k1 o (Option.some.inj h).symm
    ·
      refine g_aload_n E gdX12_setSteps_10 rfl 0 rfl ?_
      refine g_get (T := TX12) E fw_X12 0 (wM_0 g ad o) rfl 62 (by decide) w_1528 rfl rfl gdX12_setSteps_11 ?_
      refine g_iload E gdX12_setSteps_14 3 rfl ?_
      refine g_iload E gdX12_setSteps_16 3 rfl ?_
      refine g_iload_n E gdX12_setSteps_18 rfl 1 rfl ?_
      refine g_icmp_ne E 26 gdX12_setSteps_19 (by decide) h (fun h => ?_) (fun h => ?_)
      ·
        refine g_ldcw (k := 100000000) E gdX12_setSteps_26 w_1879 (by decide) ?_
        exact j29 o x1 z2 x4 x4 100000000 v h k0 k1
      ·
        refine g_iconst E gdX12_setSteps_22 ?_
        refine g_goto E 29 gdX12_setSteps_23 (by decide) ?_
        exact j29 o x1 z2 x4 x4 0 v h k0 k1
  have j3 : ∀ (o : OO) (x1 : Int) (z2 : Int64) (x4 : Int), e_X12_setSteps_3 o x1 z2 x4 = some v → Go X 3 (wM g ad o) [(0, .ref (ad 0)), (1, iv x1), (2, .long z2), (4, iv x4)] [] := by
    intro o x1 z2 x4 h
    unfold e_X12_setSteps_3 at h
    obtain ⟨r, hr, h⟩ := qB_of h
    refine l3 x1 z2 r _ hr ?_
    ·
      intro u0 e
      have e := e.symm
      subst e
      have h : b_X12_setSteps_36 u0 z2 = some v := h
      exact j36 u0 z2 h
  unfold s_X12_setSteps at h
  refine g_iconst E gdX12_setSteps_0 ?_
  refine g_istore E [(4, iv 0), (0, .ref (ad 0)), (1, iv x1), (2, .long z2)] gdX12_setSteps_1 (by decide) rfl ?_
  refine g_sub E [1, 2, 3, 0] rfl ?_
  exact j3 o x1 z2 0 h
noncomputable def b_X12_fall_18 (o : OO) : Option (Int × OO) := some ((-1), o)
noncomputable def b_X12_fall_399 (o : OO) (z7 : Int64) (x10 : Int) : Option (Int × OO) := qNm (st2 o 0 3 z7) (fun o1 => some (x10, o1))
noncomputable def b_X12_fall_393 (o : OO) (x2 : Int) (z3 : Int64) (z5 : Int64) (z7 : Int64) (x9 : Int) (x10 : Int) (x11 : Int) : Option ((OO × Int64 × Int64 × Int × Int) ⊕ ((OO × Int64 × Int))) := some (.inl (o, z5, z7, x10, x11 + 1))
noncomputable def b_X12_fall_387 (o : OO) (x2 : Int) (z3 : Int64) (z5 : Int64) (z7 : Int64) (x9 : Int) (x10 : Int) (x11 : Int) (x12 : Int) : Option ((Int64 × Int64 × Int × Int) ⊕ ((Int64 × Int64 × Int))) := some (.inl (z5, z7, x10, x12 + 1))
noncomputable def l_X12_fall_331 (o : OO) (x2 : Int) (z3 : Int64) (x9 : Int) (x11 : Int) (z5 : Int64) (z7 : Int64) (x10 : Int) (x12 : Int) : Option ((Int64 × Int64 × Int × Int) ⊕ ((Int64 × Int64 × Int))) := qLt x12 (o.1 0 17) (qB (s_X12_has z5 x12) (fun r2 => qEq r2 0 (b_X12_fall_387 o x2 z3 z5 z7 x9 x10 x11 x12) (qIn x12 32 (qNm (o.1 53 x12.toNat) (fun n5 => qLt n5 x9 (qNm (z5 &&& ((jshl (1 : Int64) (Int32.ofInt x12)) ^^^ (-1 : Int64))) (fun m6 => qNm (z7 ||| (jshl (1 : Int64) (Int32.ofInt x12))) (fun m7 => b_X12_fall_387 o x2 z3 m6 m7 x9 (x10 + 1) x11 x12))) (b_X12_fall_387 o x2 z3 z5 z7 x9 x10 x11 x12)))))) (some (.inr ((z5, z7, x10))))
noncomputable def e_X12_fall_331 (o : OO) (x2 : Int) (z3 : Int64) (z5 : Int64) (z7 : Int64) (x9 : Int) (x10 : Int) (x11 : Int) (x12 : Int) : Option ((OO × Int64 × Int64 × Int × Int) ⊕ ((OO × Int64 × Int))) := qB (loopW (fun s => l_X12_fall_331 o x2 z3 x9 x11 s.1 s.2.1 s.2.2.1 s.2.2.2) (z5, z7, x10, x12)) (fun r => b_X12_fall_393 o x2 z3 r.1 r.2.1 x9 r.2.2 x11)
noncomputable def b_X12_fall_328 (o : OO) (x2 : Int) (z3 : Int64) (z5 : Int64) (z7 : Int64) (x9 : Int) (x10 : Int) (x11 : Int) : Option ((OO × Int64 × Int64 × Int × Int) ⊕ ((OO × Int64 × Int))) := e_X12_fall_331 o x2 z3 z5 z7 x9 x10 x11 0
noncomputable def b_X12_fall_322 (o : OO) (x2 : Int) (z3 : Int64) (z5 : Int64) (z7 : Int64) (x9 : Int) (x10 : Int) (x11 : Int) (x12 : Int) : Option ((OO × Int) ⊕ ((OO))) := some (.inl (o, x12 + 1))
noncomputable def b_X12_fall_306 (o : OO) (x2 : Int) (z3 : Int64) (z5 : Int64) (z7 : Int64) (x9 : Int) (x10 : Int) (x11 : Int) (x12 : Int) (x13 : Int) : Option ((OO × Int) ⊕ ((OO))) := qLt x13 0 (b_X12_fall_322 o x2 z3 z5 z7 x9 x10 x11 x12) (qIn x13 32 (qNm (o.1 53 x13.toNat) (fun n9 => qIn x13 32 (qNm (st1 o 53 x13.toNat (n9 + 1)) (fun o11 => b_X12_fall_322 o11 x2 z3 z5 z7 x9 x10 x11 x12)))))
noncomputable def b_X12_fall_298 (o : OO) (x2 : Int) (z3 : Int64) (z5 : Int64) (z7 : Int64) (x9 : Int) (x10 : Int) (x11 : Int) (x12 : Int) (x14 : Int) (y0 : Int) : Option ((Int × Int) ⊕ ((Int))) := some (.inl (y0, x14 + 1))
noncomputable def b_X12_fall_291 (o : OO) (x2 : Int) (z3 : Int64) (z5 : Int64) (z7 : Int64) (x9 : Int) (x10 : Int) (x11 : Int) (x12 : Int) (x14 : Int) : Option ((Int × Int) ⊕ ((Int))) := b_X12_fall_298 o x2 z3 z5 z7 x9 x10 x11 x12 x14 x14
noncomputable def b_X12_fall_296 (o : OO) (x2 : Int) (z3 : Int64) (z5 : Int64) (z7 : Int64) (x9 : Int) (x10 : Int) (x11 : Int) (x12 : Int) (x13 : Int) (x14 : Int) : Option ((Int × Int) ⊕ ((Int))) := b_X12_fall_298 o x2 z3 z5 z7 x9 x10 x11 x12 x14 x13
noncomputable def b_X12_fall_259 (o : OO) (x2 : Int) (z3 : Int64) (z5 : Int64) (z7 : Int64) (x9 : Int) (x10 : Int) (x11 : Int) (x12 : Int) (x13 : Int) (x14 : Int) (y0 : Int) : Option ((Int × Int) ⊕ ((Int))) := qLt y0 100000000 (qLt x13 0 (b_X12_fall_291 o x2 z3 z5 z7 x9 x10 x11 x12 x14) (qIn x13 32 (qNm (o.1 13 x13.toNat) (fun n13 => qIn n13 64 (qNm (o.1 52 n13.toNat) (fun n15 => qLt y0 n15 (b_X12_fall_291 o x2 z3 z5 z7 x9 x10 x11 x12 x14) (b_X12_fall_296 o x2 z3 z5 z7 x9 x10 x11 x12 x13 x14))))))) (b_X12_fall_296 o x2 z3 z5 z7 x9 x10 x11 x12 x13 x14)
noncomputable def l_X12_fall_222 (o : OO) (x2 : Int) (z3 : Int64) (z5 : Int64) (z7 : Int64) (x9 : Int) (x10 : Int) (x11 : Int) (x12 : Int) (x13 : Int) (x14 : Int) : Option ((Int × Int) ⊕ ((Int))) := qLt x14 (o.1 0 17) (qB (s_X12_has z5 x14) (fun r16 => qEq r16 0 (b_X12_fall_259 o x2 z3 z5 z7 x9 x10 x11 x12 x13 x14 100000000) (qIn x14 32 (qNm (o.1 13 x14.toNat) (fun n19 => qIn n19 64 (qNm (o.1 52 n19.toNat) (fun n21 => b_X12_fall_259 o x2 z3 z5 z7 x9 x10 x11 x12 x13 x14 n21))))))) (some (.inr (x13)))
noncomputable def e_X12_fall_222 (o : OO) (x2 : Int) (z3 : Int64) (z5 : Int64) (z7 : Int64) (x9 : Int) (x10 : Int) (x11 : Int) (x12 : Int) (x13 : Int) (x14 : Int) : Option ((OO × Int) ⊕ ((OO))) := qB (loopW (fun s => l_X12_fall_222 o x2 z3 z5 z7 x9 x10 x11 x12 s.1 s.2) (x13, x14)) (fun r => b_X12_fall_306 o x2 z3 z5 z7 x9 x10 x11 x12 r)
noncomputable def l_X12_fall_160 (x2 : Int) (z3 : Int64) (z5 : Int64) (z7 : Int64) (x9 : Int) (x10 : Int) (x11 : Int) (o : OO) (x12 : Int) : Option ((OO × Int) ⊕ ((OO))) := qLt x12 (o.1 0 27) (qIn x12 40 (qNm (o.1 21 x12.toNat) (fun n23 => qLt n23 0 (b_X12_fall_322 o x2 z3 z5 z7 x9 x10 x11 x12) (qIn x12 40 (qNm (o.1 21 x12.toNat) (fun n25 => qIn n25 32 (qNm (o.1 13 n25.toNat) (fun n27 => qB (s_X12_has z3 n27) (fun r28 => qEq r28 0 (qIn x12 40 (qNm (o.1 21 x12.toNat) (fun n31 => qIn n31 32 (qNm (o.1 13 n31.toNat) (fun n33 => qB (s_X12_setSteps o n33 z3) (fun o36 => e_X12_fall_222 o36 x2 z3 z5 z7 x9 x10 x11 x12 (-9) 0)))))) (b_X12_fall_322 o x2 z3 z5 z7 x9 x10 x11 x12)))))))))) (some (.inr (o)))
noncomputable def e_X12_fall_160 (o : OO) (x2 : Int) (z3 : Int64) (z5 : Int64) (z7 : Int64) (x9 : Int) (x10 : Int) (x11 : Int) (x12 : Int) : Option ((OO × Int64 × Int64 × Int × Int) ⊕ ((OO × Int64 × Int))) := qB (loopW (fun s => l_X12_fall_160 x2 z3 z5 z7 x9 x10 x11 s.1 s.2) (o, x12)) (fun r => b_X12_fall_328 r x2 z3 z5 z7 x9 x10 x11)
noncomputable def b_X12_fall_157 (o : OO) (x2 : Int) (z3 : Int64) (z5 : Int64) (z7 : Int64) (x9 : Int) (x10 : Int) (x11 : Int) : Option ((OO × Int64 × Int64 × Int × Int) ⊕ ((OO × Int64 × Int))) := e_X12_fall_160 o x2 z3 z5 z7 x9 x10 x11 0
noncomputable def l_X12_fall_134 (x2 : Int) (z3 : Int64) (z5 : Int64) (z7 : Int64) (x9 : Int) (x10 : Int) (x11 : Int) (o : OO) (x12 : Int) : Option ((OO × Int) ⊕ ((OO))) := qLt x12 (o.1 0 17) (qIn x12 32 (qNm (st1 o 53 x12.toNat 0) (fun o38 => some (.inl (o38, x12 + 1))))) (some (.inr (o)))
noncomputable def e_X12_fall_134 (o : OO) (x2 : Int) (z3 : Int64) (z5 : Int64) (z7 : Int64) (x9 : Int) (x10 : Int) (x11 : Int) (x12 : Int) : Option ((OO × Int64 × Int64 × Int × Int) ⊕ ((OO × Int64 × Int))) := qB (loopW (fun s => l_X12_fall_134 x2 z3 z5 z7 x9 x10 x11 s.1 s.2) (o, x12)) (fun r => b_X12_fall_157 r x2 z3 z5 z7 x9 x10 x11)
noncomputable def l_X12_fall_125 (x2 : Int) (z3 : Int64) (x9 : Int) (o : OO) (z5 : Int64) (z7 : Int64) (x10 : Int) (x11 : Int) : Option ((OO × Int64 × Int64 × Int × Int) ⊕ ((OO × Int64 × Int))) := qLt x11 x2 (e_X12_fall_134 o x2 z3 z5 z7 x9 x10 x11 0) (some (.inr ((o, z7, x10))))
noncomputable def e_X12_fall_125 (o : OO) (x2 : Int) (z3 : Int64) (z5 : Int64) (z7 : Int64) (x9 : Int) (x10 : Int) (x11 : Int) : Option (Int × OO) := qB (loopW (fun s => l_X12_fall_125 x2 z3 x9 s.1 s.2.1 s.2.2.1 s.2.2.2.1 s.2.2.2.2) (o, z5, z7, x10, x11)) (fun r => b_X12_fall_399 r.1 r.2.1 r.2.2)
noncomputable def b_X12_fall_112 (o : OO) (x2 : Int) (z3 : Int64) (z5 : Int64) (z7 : Int64) : Option (Int × OO) := qB (s_X12_nowInForce o 4) (fun r39 => e_X12_fall_125 o x2 z3 z5 z7 r39 0 0)
noncomputable def b_X12_fall_103 (o : OO) (x2 : Int) (z3 : Int64) (z7 : Int64) (x9 : Int) (y0 : Int64) (y1 : Int64) : Option ((Int64 × Int) ⊕ ((Int64))) := qNm (y0 ||| y1) (fun m41 => some (.inl (m41, x9 + 1)))
noncomputable def b_X12_fall_102 (o : OO) (x2 : Int) (z3 : Int64) (z7 : Int64) (x9 : Int) (y0 : Int64) : Option ((Int64 × Int) ⊕ ((Int64))) := b_X12_fall_103 o x2 z3 z7 x9 y0 (0 : Int64)
noncomputable def l_X12_fall_49 (o : OO) (x2 : Int) (z3 : Int64) (z7 : Int64) (z5 : Int64) (x9 : Int) : Option ((Int64 × Int) ⊕ ((Int64))) := qLt x9 (o.1 0 17) (qIn x9 32 (qNm (o.1 14 x9.toNat) (fun n43 => qEq n43 1 (qIn x9 32 (qNm (o.1 16 x9.toNat) (fun n45 => qEq n45 0 (qIn x9 32 (qNm (o.1 13 x9.toNat) (fun n47 => qB (s_X12_has z3 n47) (fun r48 => qEq r48 0 (b_X12_fall_103 o x2 z3 z7 x9 z5 (jshl (1 : Int64) (Int32.ofInt x9))) (b_X12_fall_102 o x2 z3 z7 x9 z5))))) (b_X12_fall_102 o x2 z3 z7 x9 z5)))) (b_X12_fall_102 o x2 z3 z7 x9 z5)))) (some (.inr (z5)))
noncomputable def e_X12_fall_49 (o : OO) (x2 : Int) (z3 : Int64) (z5 : Int64) (z7 : Int64) (x9 : Int) : Option (Int × OO) := qB (loopW (fun s => l_X12_fall_49 o x2 z3 z7 s.1 s.2) (z5, x9)) (fun r => b_X12_fall_112 o x2 z3 r z7)
noncomputable def s_X12_fall (o : OO) (x1 : Int) (x2 : Int) : Option (Int × OO) := qB (s_X12_isMark o x1) (fun r50 => qEq r50 0 (b_X12_fall_18 o) (qB (s_X12_in x2 0 20) (fun r52 => qEq r52 0 (b_X12_fall_18 o) (qB (s_X12_isLine o x1) (fun r54 => qEq r54 0 (qB2 (s_X12_meets o 3) (fun r60 o62 => some (r60, o62))) (qB (s_X12_cellsOf o x1) (fun p56 => qNm ((0 : Int64)) (fun m58 => qNm ((0 : Int64)) (fun m59 => e_X12_fall_49 o x2 p56 m58 m59 0)))))))))
set_option maxHeartbeats 4000000 in
set_option maxRecDepth 100000 in
theorem c_X12_fall (l : Launch) (g : GG) (ad : Nat → Nat) (o : OO) (x1 : Int) (x2 : Int) (v : Int × OO) (h : s_X12_fall o x1 x2 = some v) : CI l g yX12_fall cX12_fall 16 (some .int) 3 71 (wM g ad o) [.ref (ad 0), iv x1, iv x2] v.1 (wM g ad v.2) := by
  refine met_I (by decide) (Nat.le_of_ble_eq_true rfl) ?_
  intro X E hQ
  show Go X 0 (wM g ad o) [(0, .ref (ad 0)), (1, iv x1), (2, iv x2)] []
  have j18 : ∀ (o : OO), b_X12_fall_18 o = some v → Go X 18 (wM g ad o) [] [] := by
    intro o h
    unfold b_X12_fall_18 at h
    refine g_iconst E gdX12_fall_18 ?_
    exact g_iret E hQ (by rw [← Option.some.inj h]) (by rw [← Option.some.inj h]) gdX12_fall_19
  have j399 : ∀ (o : OO) (z7 : Int64) (x10 : Int), b_X12_fall_399 o z7 x10 = some v → Go X 399 (wM g ad o) [(0, .ref (ad 0)), (7, .long z7), (10, iv x10)] [] := by
    intro o z7 x10 h
    unfold b_X12_fall_399 at h
    refine g_aload_n E gdX12_fall_399 rfl 0 rfl ?_
    refine g_lload E gdX12_fall_400 1 rfl ?_
    obtain ⟨o1, e_o1, h⟩ := qNm_of h
    refine g_putl (T := TX12) (ws' := wM g ad o1) E fw_X12 tyX12 tyX12_ok nmX12 0 (wM_0 g ad o) rfl 3 (by decide) w_1469 rfl rfl (by decide +kernel) (Nat.le_of_ble_eq_true rfl) (by rw [e_o1]; exact wM_p0_3 g ad o _) gdX12_fall_402 ?_
    refine g_iload E gdX12_fall_405 2 rfl ?_
    exact g_iret E hQ (by rw [← Option.some.inj h]) (by rw [← Option.some.inj h]) gdX12_fall_407
  have j393 : ∀ (o : OO) (x2 : Int) (z3 : Int64) (z5 : Int64) (z7 : Int64) (x9 : Int) (x10 : Int) (x11 : Int) (v : (OO × Int64 × Int64 × Int × Int) ⊕ ((OO × Int64 × Int))), b_X12_fall_393 o x2 z3 z5 z7 x9 x10 x11 = some v → (∀ (o : OO) (z5 : Int64) (z7 : Int64) (x10 : Int) (x11 : Int), v = .inl (o, z5, z7, x10, x11) → Go X 125 (wM g ad o) [(0, .ref (ad 0)), (2, iv x2), (3, .long z3), (5, .long z5), (7, .long z7), (9, iv x9), (10, iv x10), (11, iv x11)] []) → (∀ (o : OO) (z7 : Int64) (x10 : Int), v = .inr ((o, z7, x10)) → Go X 399 (wM g ad o) [(0, .ref (ad 0)), (7, .long z7), (10, iv x10)] []) → Go X 393 (wM g ad o) [(0, .ref (ad 0)), (2, iv x2), (3, .long z3), (5, .long z5), (7, .long z7), (9, iv x9), (10, iv x10), (11, iv x11)] [] := by
    intro o x2 z3 z5 z7 x9 x10 x11 v h k0 k1
    unfold b_X12_fall_393 at h
    refine g_iinc E [(11, iv (x11 + 1)), (0, .ref (ad 0)), (2, iv x2), (3, .long z3), (5, .long z5), (7, .long z7), (9, iv x9), (10, iv x10)] gdX12_fall_393 7 rfl (by decide) rfl ?_
    refine g_goto E 125 gdX12_fall_396 (by decide) ?_
    refine g_sub E [1, 2, 3, 4, 5, 6, 7, 0] rfl ?_
    exact k0 o z5 z7 x10 (x11 + 1) (Option.some.inj h).symm
  have j387 : ∀ (o : OO) (x2 : Int) (z3 : Int64) (z5 : Int64) (z7 : Int64) (x9 : Int) (x10 : Int) (x11 : Int) (x12 : Int) (v : (Int64 × Int64 × Int × Int) ⊕ ((Int64 × Int64 × Int))), b_X12_fall_387 o x2 z3 z5 z7 x9 x10 x11 x12 = some v → (∀ (z5 : Int64) (z7 : Int64) (x10 : Int) (x12 : Int), v = .inl (z5, z7, x10, x12) → Go X 331 (wM g ad o) [(0, .ref (ad 0)), (2, iv x2), (3, .long z3), (5, .long z5), (7, .long z7), (9, iv x9), (10, iv x10), (11, iv x11), (12, iv x12)] []) → (∀ (z5 : Int64) (z7 : Int64) (x10 : Int), v = .inr ((z5, z7, x10)) → Go X 393 (wM g ad o) [(0, .ref (ad 0)), (2, iv x2), (3, .long z3), (5, .long z5), (7, .long z7), (9, iv x9), (10, iv x10), (11, iv x11)] []) → Go X 387 (wM g ad o) [(0, .ref (ad 0)), (2, iv x2), (3, .long z3), (5, .long z5), (7, .long z7), (9, iv x9), (10, iv x10), (11, iv x11), (12, iv x12)] [] := by
    intro o x2 z3 z5 z7 x9 x10 x11 x12 v h k0 k1
    unfold b_X12_fall_387 at h
    refine g_iinc E [(12, iv (x12 + 1)), (0, .ref (ad 0)), (2, iv x2), (3, .long z3), (5, .long z5), (7, .long z7), (9, iv x9), (10, iv x10), (11, iv x11)] gdX12_fall_387 8 rfl (by decide) rfl ?_
    refine g_goto E 331 gdX12_fall_390 (by decide) ?_
    refine g_sub E [1, 2, 3, 4, 5, 6, 7, 8, 0] rfl ?_
    exact k0 z5 z7 x10 (x12 + 1) (Option.some.inj h).symm
  have l331 : ∀ (o : OO) (x2 : Int) (z3 : Int64) (x9 : Int) (x11 : Int) (r : (Int64 × Int64 × Int)) (s0 : Int64 × Int64 × Int × Int), loopW (fun s => l_X12_fall_331 o x2 z3 x9 x11 s.1 s.2.1 s.2.2.1 s.2.2.2) s0 = some r → (∀ (z5 : Int64) (z7 : Int64) (x10 : Int), r = ((z5, z7, x10)) → Go X 393 (wM g ad o) [(0, .ref (ad 0)), (2, iv x2), (3, .long z3), (5, .long z5), (7, .long z7), (9, iv x9), (10, iv x10), (11, iv x11)] []) → Go X 331 (wM g ad o) [(0, .ref (ad 0)), (2, iv x2), (3, .long z3), (5, .long s0.1), (7, .long s0.2.1), (9, iv x9), (10, iv s0.2.2.1), (11, iv x11), (12, iv s0.2.2.2)] [] := by
    intro o x2 z3 x9 x11 r s0 h k1
    refine loop_rule (Head := fun s0 => Go X 331 (wM g ad o) [(0, .ref (ad 0)), (2, iv x2), (3, .long z3), (5, .long s0.1), (7, .long s0.2.1), (9, iv x9), (10, iv s0.2.2.1), (11, iv x11), (12, iv s0.2.2.2)] []) h ?_
    intro s v h kk kx
    obtain ⟨z5, z7, x10, x12⟩ := s
    have h : l_X12_fall_331 o x2 z3 x9 x11 z5 z7 x10 x12 = some v := h
    have k0 : ∀ (z5 : Int64) (z7 : Int64) (x10 : Int) (x12 : Int), v = .inl (z5, z7, x10, x12) → Go X 331 (wM g ad o) [(0, .ref (ad 0)), (2, iv x2), (3, .long z3), (5, .long z5), (7, .long z7), (9, iv x9), (10, iv x10), (11, iv x11), (12, iv x12)] [] := fun z5 z7 x10 x12 e => kk (z5, z7, x10, x12) e
    have k1 : ∀ (z5 : Int64) (z7 : Int64) (x10 : Int), v = .inr ((z5, z7, x10)) → Go X 393 (wM g ad o) [(0, .ref (ad 0)), (2, iv x2), (3, .long z3), (5, .long z5), (7, .long z7), (9, iv x9), (10, iv x10), (11, iv x11)] [] := fun z5 z7 x10 e => k1 z5 z7 x10 (kx _ e).symm
    unfold l_X12_fall_331 at h
    refine g_iload E gdX12_fall_331 8 rfl ?_
    refine g_aload_n E gdX12_fall_333 rfl 0 rfl ?_
    refine g_get (T := TX12) E fw_X12 0 (wM_0 g ad o) rfl 17 (by decide) w_1483 rfl rfl gdX12_fall_334 ?_
    refine g_icmp_ge E 393 gdX12_fall_337 (by decide) h (fun h => ?_) (fun h => ?_)
    ·
      refine g_sub E [0, 1, 2, 3, 4, 5, 6, 7] rfl ?_
      exact k1 z5 z7 x10 (Option.some.inj h).symm
    ·
      refine g_lload E gdX12_fall_340 3 rfl ?_
      refine g_iload E gdX12_fall_342 8 rfl ?_
      obtain ⟨r2, hc3, h⟩ := qB_of h
      refine g_Si (r := r2) (As := [.long z5, iv x12]) (rest := []) (w := wM g ad o) E (c_X12_has l g (wM g ad o) z5 x12 r2 hc3) okm_X12_has w_1919 w_1918 rfl rfl (Nat.le_of_ble_eq_true rfl) ⟨Nat.le_of_ble_eq_true rfl, Nat.le_of_ble_eq_true rfl⟩ gdX12_fall_344 ?_
      refine g_if_eq E 387 gdX12_fall_347 (by decide) h (fun h => ?_) (fun h => ?_)
      ·
        exact j387 o x2 z3 z5 z7 x9 x10 x11 x12 v h k0 k1
      ·
        refine g_aload_n E gdX12_fall_350 rfl 0 rfl ?_
        refine g_get (T := TX12) E fw_X12 0 (wM_0 g ad o) rfl 63 (by decide) w_1529 rfl rfl gdX12_fall_351 ?_
        refine g_iload E gdX12_fall_354 8 rfl ?_
        obtain ⟨hi4, h⟩ := qIn_of h
        refine g_iald E 53 (wM_53 g ad o) (by decide) hi4 gdX12_fall_356 ?_
        obtain ⟨n5, e_n5, h⟩ := qNm_of h
        refine g_nmi e_n5 ?_
        refine g_iload E gdX12_fall_357 5 rfl ?_
        refine g_icmp_ge E 387 gdX12_fall_359 (by decide) h (fun h => ?_) (fun h => ?_)
        ·
          exact j387 o x2 z3 z5 z7 x9 x10 x11 x12 v h k0 k1
        ·
          refine g_lload E gdX12_fall_362 3 rfl ?_
          refine g_lconst (v := 1) E gdX12_fall_364 (by decide) ?_
          refine g_iload E gdX12_fall_365 8 rfl ?_
          refine g_lshl E gdX12_fall_367 ?_
          refine g_ldc2 E gdX12_fall_368 w_2029 ?_
          refine g_lxor E gdX12_fall_371 ?_
          refine g_land E gdX12_fall_372 ?_
          obtain ⟨m6, e_m6, h⟩ := qNm_of h
          refine g_nml e_m6 ?_
          refine g_lstore E [(5, .long m6), (0, .ref (ad 0)), (2, iv x2), (3, .long z3), (7, .long z7), (9, iv x9), (10, iv x10), (11, iv x11), (12, iv x12)] gdX12_fall_373 (by decide) rfl ?_
          refine g_lload E gdX12_fall_375 4 rfl ?_
          refine g_lconst (v := 1) E gdX12_fall_377 (by decide) ?_
          refine g_iload E gdX12_fall_378 8 rfl ?_
          refine g_lshl E gdX12_fall_380 ?_
          refine g_lor E gdX12_fall_381 ?_
          obtain ⟨m7, e_m7, h⟩ := qNm_of h
          refine g_nml e_m7 ?_
          refine g_lstore E [(7, .long m7), (5, .long m6), (0, .ref (ad 0)), (2, iv x2), (3, .long z3), (9, iv x9), (10, iv x10), (11, iv x11), (12, iv x12)] gdX12_fall_382 (by decide) rfl ?_
          refine g_iinc E [(10, iv (x10 + 1)), (7, .long m7), (5, .long m6), (0, .ref (ad 0)), (2, iv x2), (3, .long z3), (9, iv x9), (11, iv x11), (12, iv x12)] gdX12_fall_384 6 rfl (by decide) rfl ?_
          refine g_sub E [3, 4, 5, 2, 1, 6, 0, 7, 8] rfl ?_
          exact j387 o x2 z3 m6 m7 x9 (x10 + 1) x11 x12 v h k0 k1
  have j331 : ∀ (o : OO) (x2 : Int) (z3 : Int64) (z5 : Int64) (z7 : Int64) (x9 : Int) (x10 : Int) (x11 : Int) (x12 : Int) (v : (OO × Int64 × Int64 × Int × Int) ⊕ ((OO × Int64 × Int))), e_X12_fall_331 o x2 z3 z5 z7 x9 x10 x11 x12 = some v → (∀ (o : OO) (z5 : Int64) (z7 : Int64) (x10 : Int) (x11 : Int), v = .inl (o, z5, z7, x10, x11) → Go X 125 (wM g ad o) [(0, .ref (ad 0)), (2, iv x2), (3, .long z3), (5, .long z5), (7, .long z7), (9, iv x9), (10, iv x10), (11, iv x11)] []) → (∀ (o : OO) (z7 : Int64) (x10 : Int), v = .inr ((o, z7, x10)) → Go X 399 (wM g ad o) [(0, .ref (ad 0)), (7, .long z7), (10, iv x10)] []) → Go X 331 (wM g ad o) [(0, .ref (ad 0)), (2, iv x2), (3, .long z3), (5, .long z5), (7, .long z7), (9, iv x9), (10, iv x10), (11, iv x11), (12, iv x12)] [] := by
    intro o x2 z3 z5 z7 x9 x10 x11 x12 v h k0 k1
    unfold e_X12_fall_331 at h
    obtain ⟨r, hr, h⟩ := qB_of h
    refine l331 o x2 z3 x9 x11 r _ hr ?_
    ·
      intro u0 u1 u2 e
      subst e
      have h : b_X12_fall_393 o x2 z3 u0 u1 x9 u2 x11 = some v := h
      exact j393 o x2 z3 u0 u1 x9 u2 x11 v h k0 k1
  have j328 : ∀ (o : OO) (x2 : Int) (z3 : Int64) (z5 : Int64) (z7 : Int64) (x9 : Int) (x10 : Int) (x11 : Int) (v : (OO × Int64 × Int64 × Int × Int) ⊕ ((OO × Int64 × Int))), b_X12_fall_328 o x2 z3 z5 z7 x9 x10 x11 = some v → (∀ (o : OO) (z5 : Int64) (z7 : Int64) (x10 : Int) (x11 : Int), v = .inl (o, z5, z7, x10, x11) → Go X 125 (wM g ad o) [(0, .ref (ad 0)), (2, iv x2), (3, .long z3), (5, .long z5), (7, .long z7), (9, iv x9), (10, iv x10), (11, iv x11)] []) → (∀ (o : OO) (z7 : Int64) (x10 : Int), v = .inr ((o, z7, x10)) → Go X 399 (wM g ad o) [(0, .ref (ad 0)), (7, .long z7), (10, iv x10)] []) → Go X 328 (wM g ad o) [(0, .ref (ad 0)), (2, iv x2), (3, .long z3), (5, .long z5), (7, .long z7), (9, iv x9), (10, iv x10), (11, iv x11)] [] := by
    intro o x2 z3 z5 z7 x9 x10 x11 v h k0 k1
    unfold b_X12_fall_328 at h
    refine g_iconst E gdX12_fall_328 ?_
    refine g_istore E [(12, iv 0), (0, .ref (ad 0)), (2, iv x2), (3, .long z3), (5, .long z5), (7, .long z7), (9, iv x9), (10, iv x10), (11, iv x11)] gdX12_fall_329 (by decide) rfl ?_
    refine g_sub E [1, 2, 3, 4, 5, 6, 7, 8, 0] rfl ?_
    exact j331 o x2 z3 z5 z7 x9 x10 x11 0 v h k0 k1
  have j322 : ∀ (o : OO) (x2 : Int) (z3 : Int64) (z5 : Int64) (z7 : Int64) (x9 : Int) (x10 : Int) (x11 : Int) (x12 : Int) (v : (OO × Int) ⊕ ((OO))), b_X12_fall_322 o x2 z3 z5 z7 x9 x10 x11 x12 = some v → (∀ (o : OO) (x12 : Int), v = .inl (o, x12) → Go X 160 (wM g ad o) [(0, .ref (ad 0)), (2, iv x2), (3, .long z3), (5, .long z5), (7, .long z7), (9, iv x9), (10, iv x10), (11, iv x11), (12, iv x12)] []) → (∀ (o : OO), v = .inr (o) → Go X 328 (wM g ad o) [(0, .ref (ad 0)), (2, iv x2), (3, .long z3), (5, .long z5), (7, .long z7), (9, iv x9), (10, iv x10), (11, iv x11)] []) → Go X 322 (wM g ad o) [(0, .ref (ad 0)), (2, iv x2), (3, .long z3), (5, .long z5), (7, .long z7), (9, iv x9), (10, iv x10), (11, iv x11), (12, iv x12)] [] := by
    intro o x2 z3 z5 z7 x9 x10 x11 x12 v h k0 k1
    unfold b_X12_fall_322 at h
    refine g_iinc E [(12, iv (x12 + 1)), (0, .ref (ad 0)), (2, iv x2), (3, .long z3), (5, .long z5), (7, .long z7), (9, iv x9), (10, iv x10), (11, iv x11)] gdX12_fall_322 8 rfl (by decide) rfl ?_
    refine g_goto E 160 gdX12_fall_325 (by decide) ?_
    refine g_sub E [1, 2, 3, 4, 5, 6, 7, 8, 0] rfl ?_
    exact k0 o (x12 + 1) (Option.some.inj h).symm
  have j306 : ∀ (o : OO) (x2 : Int) (z3 : Int64) (z5 : Int64) (z7 : Int64) (x9 : Int) (x10 : Int) (x11 : Int) (x12 : Int) (x13 : Int) (v : (OO × Int) ⊕ ((OO))), b_X12_fall_306 o x2 z3 z5 z7 x9 x10 x11 x12 x13 = some v → (∀ (o : OO) (x12 : Int), v = .inl (o, x12) → Go X 160 (wM g ad o) [(0, .ref (ad 0)), (2, iv x2), (3, .long z3), (5, .long z5), (7, .long z7), (9, iv x9), (10, iv x10), (11, iv x11), (12, iv x12)] []) → (∀ (o : OO), v = .inr (o) → Go X 328 (wM g ad o) [(0, .ref (ad 0)), (2, iv x2), (3, .long z3), (5, .long z5), (7, .long z7), (9, iv x9), (10, iv x10), (11, iv x11)] []) → Go X 306 (wM g ad o) [(0, .ref (ad 0)), (2, iv x2), (3, .long z3), (5, .long z5), (7, .long z7), (9, iv x9), (10, iv x10), (11, iv x11), (12, iv x12), (13, iv x13)] [] := by
    intro o x2 z3 z5 z7 x9 x10 x11 x12 x13 v h k0 k1
    unfold b_X12_fall_306 at h
    refine g_iload E gdX12_fall_306 9 rfl ?_
    refine g_if_lt E 322 gdX12_fall_308 (by decide) h (fun h => ?_) (fun h => ?_)
    ·
      refine g_sub E [0, 1, 2, 3, 4, 5, 6, 7, 8] rfl ?_
      exact j322 o x2 z3 z5 z7 x9 x10 x11 x12 v h k0 k1
    ·
      refine g_aload_n E gdX12_fall_311 rfl 0 rfl ?_
      refine g_get (T := TX12) E fw_X12 0 (wM_0 g ad o) rfl 63 (by decide) w_1529 rfl rfl gdX12_fall_312 ?_
      refine g_iload E gdX12_fall_315 9 rfl ?_
      refine g_dup2 E gdX12_fall_317 rfl rfl ?_
      obtain ⟨hi8, h⟩ := qIn_of h
      refine g_iald E 53 (wM_53 g ad o) (by decide) hi8 gdX12_fall_318 ?_
      obtain ⟨n9, e_n9, h⟩ := qNm_of h
      refine g_nmi e_n9 ?_
      refine g_iconst E gdX12_fall_319 ?_
      refine g_iadd E gdX12_fall_320 ?_
      obtain ⟨hi10, h⟩ := qIn_of h
      obtain ⟨o11, e_o11, h⟩ := qNm_of h
      refine g_iast (ws' := wM g ad o11) E 53 (wM_53 g ad o) (by decide) hi10 (by rw [e_o11]; exact wM_s53 g ad o _ _) gdX12_fall_321 ?_
      refine g_sub E [0, 1, 2, 3, 4, 5, 6, 7, 8] rfl ?_
      exact j322 o11 x2 z3 z5 z7 x9 x10 x11 x12 v h k0 k1
  have j298 : ∀ (o : OO) (x2 : Int) (z3 : Int64) (z5 : Int64) (z7 : Int64) (x9 : Int) (x10 : Int) (x11 : Int) (x12 : Int) (x14 : Int) (y0 : Int) (v : (Int × Int) ⊕ ((Int))), b_X12_fall_298 o x2 z3 z5 z7 x9 x10 x11 x12 x14 y0 = some v → (∀ (x13 : Int) (x14 : Int), v = .inl (x13, x14) → Go X 222 (wM g ad o) [(0, .ref (ad 0)), (2, iv x2), (3, .long z3), (5, .long z5), (7, .long z7), (9, iv x9), (10, iv x10), (11, iv x11), (12, iv x12), (13, iv x13), (14, iv x14)] []) → (∀ (x13 : Int), v = .inr (x13) → Go X 306 (wM g ad o) [(0, .ref (ad 0)), (2, iv x2), (3, .long z3), (5, .long z5), (7, .long z7), (9, iv x9), (10, iv x10), (11, iv x11), (12, iv x12), (13, iv x13)] []) → Go X 298 (wM g ad o) [(0, .ref (ad 0)), (2, iv x2), (3, .long z3), (5, .long z5), (7, .long z7), (9, iv x9), (10, iv x10), (11, iv x11), (12, iv x12), (14, iv x14)] [iv y0] := by
    intro o x2 z3 z5 z7 x9 x10 x11 x12 x14 y0 v h k0 k1
    unfold b_X12_fall_298 at h
    refine g_istore E [(13, iv y0), (0, .ref (ad 0)), (2, iv x2), (3, .long z3), (5, .long z5), (7, .long z7), (9, iv x9), (10, iv x10), (11, iv x11), (12, iv x12), (14, iv x14)] gdX12_fall_298 (by decide) rfl ?_
    refine g_iinc E [(14, iv (x14 + 1)), (13, iv y0), (0, .ref (ad 0)), (2, iv x2), (3, .long z3), (5, .long z5), (7, .long z7), (9, iv x9), (10, iv x10), (11, iv x11), (12, iv x12)] gdX12_fall_300 10 rfl (by decide) rfl ?_
    refine g_goto E 222 gdX12_fall_303 (by decide) ?_
    refine g_sub E [2, 3, 4, 5, 6, 7, 8, 9, 10, 1, 0] rfl ?_
    exact k0 y0 (x14 + 1) (Option.some.inj h).symm
  have j291 : ∀ (o : OO) (x2 : Int) (z3 : Int64) (z5 : Int64) (z7 : Int64) (x9 : Int) (x10 : Int) (x11 : Int) (x12 : Int) (x14 : Int) (v : (Int × Int) ⊕ ((Int))), b_X12_fall_291 o x2 z3 z5 z7 x9 x10 x11 x12 x14 = some v → (∀ (x13 : Int) (x14 : Int), v = .inl (x13, x14) → Go X 222 (wM g ad o) [(0, .ref (ad 0)), (2, iv x2), (3, .long z3), (5, .long z5), (7, .long z7), (9, iv x9), (10, iv x10), (11, iv x11), (12, iv x12), (13, iv x13), (14, iv x14)] []) → (∀ (x13 : Int), v = .inr (x13) → Go X 306 (wM g ad o) [(0, .ref (ad 0)), (2, iv x2), (3, .long z3), (5, .long z5), (7, .long z7), (9, iv x9), (10, iv x10), (11, iv x11), (12, iv x12), (13, iv x13)] []) → Go X 291 (wM g ad o) [(0, .ref (ad 0)), (2, iv x2), (3, .long z3), (5, .long z5), (7, .long z7), (9, iv x9), (10, iv x10), (11, iv x11), (12, iv x12), (14, iv x14)] [] := by
    intro o x2 z3 z5 z7 x9 x10 x11 x12 x14 v h k0 k1
    unfold b_X12_fall_291 at h
    refine g_iload E gdX12_fall_291 9 rfl ?_
    refine g_goto E 298 gdX12_fall_293 (by decide) ?_
    exact j298 o x2 z3 z5 z7 x9 x10 x11 x12 x14 x14 v h k0 k1
  have j296 : ∀ (o : OO) (x2 : Int) (z3 : Int64) (z5 : Int64) (z7 : Int64) (x9 : Int) (x10 : Int) (x11 : Int) (x12 : Int) (x13 : Int) (x14 : Int) (v : (Int × Int) ⊕ ((Int))), b_X12_fall_296 o x2 z3 z5 z7 x9 x10 x11 x12 x13 x14 = some v → (∀ (x13 : Int) (x14 : Int), v = .inl (x13, x14) → Go X 222 (wM g ad o) [(0, .ref (ad 0)), (2, iv x2), (3, .long z3), (5, .long z5), (7, .long z7), (9, iv x9), (10, iv x10), (11, iv x11), (12, iv x12), (13, iv x13), (14, iv x14)] []) → (∀ (x13 : Int), v = .inr (x13) → Go X 306 (wM g ad o) [(0, .ref (ad 0)), (2, iv x2), (3, .long z3), (5, .long z5), (7, .long z7), (9, iv x9), (10, iv x10), (11, iv x11), (12, iv x12), (13, iv x13)] []) → Go X 296 (wM g ad o) [(0, .ref (ad 0)), (2, iv x2), (3, .long z3), (5, .long z5), (7, .long z7), (9, iv x9), (10, iv x10), (11, iv x11), (12, iv x12), (13, iv x13), (14, iv x14)] [] := by
    intro o x2 z3 z5 z7 x9 x10 x11 x12 x13 x14 v h k0 k1
    unfold b_X12_fall_296 at h
    refine g_iload E gdX12_fall_296 9 rfl ?_
    refine g_sub E [0, 1, 2, 3, 4, 5, 6, 7, 8, 10] rfl ?_
    exact j298 o x2 z3 z5 z7 x9 x10 x11 x12 x14 x13 v h k0 k1
  have j259 : ∀ (o : OO) (x2 : Int) (z3 : Int64) (z5 : Int64) (z7 : Int64) (x9 : Int) (x10 : Int) (x11 : Int) (x12 : Int) (x13 : Int) (x14 : Int) (y0 : Int) (v : (Int × Int) ⊕ ((Int))), b_X12_fall_259 o x2 z3 z5 z7 x9 x10 x11 x12 x13 x14 y0 = some v → (∀ (x13 : Int) (x14 : Int), v = .inl (x13, x14) → Go X 222 (wM g ad o) [(0, .ref (ad 0)), (2, iv x2), (3, .long z3), (5, .long z5), (7, .long z7), (9, iv x9), (10, iv x10), (11, iv x11), (12, iv x12), (13, iv x13), (14, iv x14)] []) → (∀ (x13 : Int), v = .inr (x13) → Go X 306 (wM g ad o) [(0, .ref (ad 0)), (2, iv x2), (3, .long z3), (5, .long z5), (7, .long z7), (9, iv x9), (10, iv x10), (11, iv x11), (12, iv x12), (13, iv x13)] []) → Go X 259 (wM g ad o) [(0, .ref (ad 0)), (2, iv x2), (3, .long z3), (5, .long z5), (7, .long z7), (9, iv x9), (10, iv x10), (11, iv x11), (12, iv x12), (13, iv x13), (14, iv x14)] [iv y0] := by
    intro o x2 z3 z5 z7 x9 x10 x11 x12 x13 x14 y0 v h k0 k1
    unfold b_X12_fall_259 at h
    refine g_istore E [(15, iv y0), (0, .ref (ad 0)), (2, iv x2), (3, .long z3), (5, .long z5), (7, .long z7), (9, iv x9), (10, iv x10), (11, iv x11), (12, iv x12), (13, iv x13), (14, iv x14)] gdX12_fall_259 (by decide) rfl ?_
    refine g_iload E gdX12_fall_261 0 rfl ?_
    refine g_ldcw (k := 100000000) E gdX12_fall_263 w_1879 (by decide) ?_
    refine g_icmp_ge E 296 gdX12_fall_266 (by decide) h (fun h => ?_) (fun h => ?_)
    ·
      refine g_sub E [1, 2, 3, 4, 5, 6, 7, 8, 9, 10, 11] rfl ?_
      exact j296 o x2 z3 z5 z7 x9 x10 x11 x12 x13 x14 v h k0 k1
    ·
      refine g_iload E gdX12_fall_269 10 rfl ?_
      refine g_if_lt E 291 gdX12_fall_271 (by decide) h (fun h => ?_) (fun h => ?_)
      ·
        refine g_sub E [1, 2, 3, 4, 5, 6, 7, 8, 9, 11] rfl ?_
        exact j291 o x2 z3 z5 z7 x9 x10 x11 x12 x14 v h k0 k1
      ·
        refine g_iload E gdX12_fall_274 0 rfl ?_
        refine g_aload_n E gdX12_fall_276 rfl 1 rfl ?_
        refine g_get (T := TX12) E fw_X12 0 (wM_0 g ad o) rfl 62 (by decide) w_1528 rfl rfl gdX12_fall_277 ?_
        refine g_aload_n E gdX12_fall_280 rfl 1 rfl ?_
        refine g_get (T := TX12) E fw_X12 0 (wM_0 g ad o) rfl 18 (by decide) w_1484 rfl rfl gdX12_fall_281 ?_
        refine g_iload E gdX12_fall_284 10 rfl ?_
        obtain ⟨hi12, h⟩ := qIn_of h
        refine g_iald E 13 (wM_13 g ad o) (by decide) hi12 gdX12_fall_286 ?_
        obtain ⟨n13, e_n13, h⟩ := qNm_of h
        refine g_nmi e_n13 ?_
        obtain ⟨hi14, h⟩ := qIn_of h
        refine g_iald E 52 (wM_52 g ad o) (by decide) hi14 gdX12_fall_287 ?_
        obtain ⟨n15, e_n15, h⟩ := qNm_of h
        refine g_nmi e_n15 ?_
        refine g_icmp_ge E 296 gdX12_fall_288 (by decide) h (fun h => ?_) (fun h => ?_)
        ·
          refine g_sub E [1, 2, 3, 4, 5, 6, 7, 8, 9, 10, 11] rfl ?_
          exact j296 o x2 z3 z5 z7 x9 x10 x11 x12 x13 x14 v h k0 k1
        ·
          refine g_sub E [1, 2, 3, 4, 5, 6, 7, 8, 9, 11] rfl ?_
          exact j291 o x2 z3 z5 z7 x9 x10 x11 x12 x14 v h k0 k1
  have l222 : ∀ (o : OO) (x2 : Int) (z3 : Int64) (z5 : Int64) (z7 : Int64) (x9 : Int) (x10 : Int) (x11 : Int) (x12 : Int) (r : (Int)) (s0 : Int × Int), loopW (fun s => l_X12_fall_222 o x2 z3 z5 z7 x9 x10 x11 x12 s.1 s.2) s0 = some r → (∀ (x13 : Int), r = (x13) → Go X 306 (wM g ad o) [(0, .ref (ad 0)), (2, iv x2), (3, .long z3), (5, .long z5), (7, .long z7), (9, iv x9), (10, iv x10), (11, iv x11), (12, iv x12), (13, iv x13)] []) → Go X 222 (wM g ad o) [(0, .ref (ad 0)), (2, iv x2), (3, .long z3), (5, .long z5), (7, .long z7), (9, iv x9), (10, iv x10), (11, iv x11), (12, iv x12), (13, iv s0.1), (14, iv s0.2)] [] := by
    intro o x2 z3 z5 z7 x9 x10 x11 x12 r s0 h k1
    refine loop_rule (Head := fun s0 => Go X 222 (wM g ad o) [(0, .ref (ad 0)), (2, iv x2), (3, .long z3), (5, .long z5), (7, .long z7), (9, iv x9), (10, iv x10), (11, iv x11), (12, iv x12), (13, iv s0.1), (14, iv s0.2)] []) h ?_
    intro s v h kk kx
    obtain ⟨x13, x14⟩ := s
    have h : l_X12_fall_222 o x2 z3 z5 z7 x9 x10 x11 x12 x13 x14 = some v := h
    have k0 : ∀ (x13 : Int) (x14 : Int), v = .inl (x13, x14) → Go X 222 (wM g ad o) [(0, .ref (ad 0)), (2, iv x2), (3, .long z3), (5, .long z5), (7, .long z7), (9, iv x9), (10, iv x10), (11, iv x11), (12, iv x12), (13, iv x13), (14, iv x14)] [] := fun x13 x14 e => kk (x13, x14) e
    have k1 : ∀ (x13 : Int), v = .inr (x13) → Go X 306 (wM g ad o) [(0, .ref (ad 0)), (2, iv x2), (3, .long z3), (5, .long z5), (7, .long z7), (9, iv x9), (10, iv x10), (11, iv x11), (12, iv x12), (13, iv x13)] [] := fun x13 e => k1 x13 (kx _ e).symm
    unfold l_X12_fall_222 at h
    refine g_iload E gdX12_fall_222 10 rfl ?_
    refine g_aload_n E gdX12_fall_224 rfl 0 rfl ?_
    refine g_get (T := TX12) E fw_X12 0 (wM_0 g ad o) rfl 17 (by decide) w_1483 rfl rfl gdX12_fall_225 ?_
    refine g_icmp_ge E 306 gdX12_fall_228 (by decide) h (fun h => ?_) (fun h => ?_)
    ·
      refine g_sub E [0, 1, 2, 3, 4, 5, 6, 7, 8, 9] rfl ?_
      exact k1 x13 (Option.some.inj h).symm
    ·
      refine g_lload E gdX12_fall_231 3 rfl ?_
      refine g_iload E gdX12_fall_233 10 rfl ?_
      obtain ⟨r16, hc17, h⟩ := qB_of h
      refine g_Si (r := r16) (As := [.long z5, iv x14]) (rest := []) (w := wM g ad o) E (c_X12_has l g (wM g ad o) z5 x14 r16 hc17) okm_X12_has w_1919 w_1918 rfl rfl (Nat.le_of_ble_eq_true rfl) ⟨Nat.le_of_ble_eq_true rfl, Nat.le_of_ble_eq_true rfl⟩ gdX12_fall_235 ?_
      refine g_if_eq E 256 gdX12_fall_238 (by decide) h (fun h => ?_) (fun h => ?_)
      ·
        refine g_ldcw (k := 100000000) E gdX12_fall_256 w_1879 (by decide) ?_
        exact j259 o x2 z3 z5 z7 x9 x10 x11 x12 x13 x14 100000000 v h k0 k1
      ·
        refine g_aload_n E gdX12_fall_241 rfl 0 rfl ?_
        refine g_get (T := TX12) E fw_X12 0 (wM_0 g ad o) rfl 62 (by decide) w_1528 rfl rfl gdX12_fall_242 ?_
        refine g_aload_n E gdX12_fall_245 rfl 0 rfl ?_
        refine g_get (T := TX12) E fw_X12 0 (wM_0 g ad o) rfl 18 (by decide) w_1484 rfl rfl gdX12_fall_246 ?_
        refine g_iload E gdX12_fall_249 10 rfl ?_
        obtain ⟨hi18, h⟩ := qIn_of h
        refine g_iald E 13 (wM_13 g ad o) (by decide) hi18 gdX12_fall_251 ?_
        obtain ⟨n19, e_n19, h⟩ := qNm_of h
        refine g_nmi e_n19 ?_
        obtain ⟨hi20, h⟩ := qIn_of h
        refine g_iald E 52 (wM_52 g ad o) (by decide) hi20 gdX12_fall_252 ?_
        obtain ⟨n21, e_n21, h⟩ := qNm_of h
        refine g_nmi e_n21 ?_
        refine g_goto E 259 gdX12_fall_253 (by decide) ?_
        exact j259 o x2 z3 z5 z7 x9 x10 x11 x12 x13 x14 n21 v h k0 k1
  have j222 : ∀ (o : OO) (x2 : Int) (z3 : Int64) (z5 : Int64) (z7 : Int64) (x9 : Int) (x10 : Int) (x11 : Int) (x12 : Int) (x13 : Int) (x14 : Int) (v : (OO × Int) ⊕ ((OO))), e_X12_fall_222 o x2 z3 z5 z7 x9 x10 x11 x12 x13 x14 = some v → (∀ (o : OO) (x12 : Int), v = .inl (o, x12) → Go X 160 (wM g ad o) [(0, .ref (ad 0)), (2, iv x2), (3, .long z3), (5, .long z5), (7, .long z7), (9, iv x9), (10, iv x10), (11, iv x11), (12, iv x12)] []) → (∀ (o : OO), v = .inr (o) → Go X 328 (wM g ad o) [(0, .ref (ad 0)), (2, iv x2), (3, .long z3), (5, .long z5), (7, .long z7), (9, iv x9), (10, iv x10), (11, iv x11)] []) → Go X 222 (wM g ad o) [(0, .ref (ad 0)), (2, iv x2), (3, .long z3), (5, .long z5), (7, .long z7), (9, iv x9), (10, iv x10), (11, iv x11), (12, iv x12), (13, iv x13), (14, iv x14)] [] := by
    intro o x2 z3 z5 z7 x9 x10 x11 x12 x13 x14 v h k0 k1
    unfold e_X12_fall_222 at h
    obtain ⟨r, hr, h⟩ := qB_of h
    refine l222 o x2 z3 z5 z7 x9 x10 x11 x12 r _ hr ?_
    ·
      intro u0 e
      have e := e.symm
      subst e
      have h : b_X12_fall_306 o x2 z3 z5 z7 x9 x10 x11 x12 u0 = some v := h
      exact j306 o x2 z3 z5 z7 x9 x10 x11 x12 u0 v h k0 k1
  have l160 : ∀ (x2 : Int) (z3 : Int64) (z5 : Int64) (z7 : Int64) (x9 : Int) (x10 : Int) (x11 : Int) (r : (OO)) (s0 : OO × Int), loopW (fun s => l_X12_fall_160 x2 z3 z5 z7 x9 x10 x11 s.1 s.2) s0 = some r → (∀ (o : OO), r = (o) → Go X 328 (wM g ad o) [(0, .ref (ad 0)), (2, iv x2), (3, .long z3), (5, .long z5), (7, .long z7), (9, iv x9), (10, iv x10), (11, iv x11)] []) → Go X 160 (wM g ad s0.1) [(0, .ref (ad 0)), (2, iv x2), (3, .long z3), (5, .long z5), (7, .long z7), (9, iv x9), (10, iv x10), (11, iv x11), (12, iv s0.2)] [] := by
    intro x2 z3 z5 z7 x9 x10 x11 r s0 h k1
    refine loop_rule (Head := fun s0 => Go X 160 (wM g ad s0.1) [(0, .ref (ad 0)), (2, iv x2), (3, .long z3), (5, .long z5), (7, .long z7), (9, iv x9), (10, iv x10), (11, iv x11), (12, iv s0.2)] []) h ?_
    intro s v h kk kx
    obtain ⟨o, x12⟩ := s
    have h : l_X12_fall_160 x2 z3 z5 z7 x9 x10 x11 o x12 = some v := h
    have k0 : ∀ (o : OO) (x12 : Int), v = .inl (o, x12) → Go X 160 (wM g ad o) [(0, .ref (ad 0)), (2, iv x2), (3, .long z3), (5, .long z5), (7, .long z7), (9, iv x9), (10, iv x10), (11, iv x11), (12, iv x12)] [] := fun o x12 e => kk (o, x12) e
    have k1 : ∀ (o : OO), v = .inr (o) → Go X 328 (wM g ad o) [(0, .ref (ad 0)), (2, iv x2), (3, .long z3), (5, .long z5), (7, .long z7), (9, iv x9), (10, iv x10), (11, iv x11)] [] := fun o e => k1 o (kx _ e).symm
    unfold l_X12_fall_160 at h
    refine g_iload E gdX12_fall_160 8 rfl ?_
    refine g_aload_n E gdX12_fall_162 rfl 0 rfl ?_
    refine g_get (T := TX12) E fw_X12 0 (wM_0 g ad o) rfl 27 (by decide) w_1493 rfl rfl gdX12_fall_163 ?_
    refine g_icmp_ge E 328 gdX12_fall_166 (by decide) h (fun h => ?_) (fun h => ?_)
    ·
      refine g_sub E [0, 1, 2, 3, 4, 5, 6, 7] rfl ?_
      exact k1 o (Option.some.inj h).symm
    ·
      refine g_aload_n E gdX12_fall_169 rfl 0 rfl ?_
      refine g_get (T := TX12) E fw_X12 0 (wM_0 g ad o) rfl 28 (by decide) w_1494 rfl rfl gdX12_fall_170 ?_
      refine g_iload E gdX12_fall_173 8 rfl ?_
      obtain ⟨hi22, h⟩ := qIn_of h
      refine g_iald E 21 (wM_21 g ad o) (by decide) hi22 gdX12_fall_175 ?_
      obtain ⟨n23, e_n23, h⟩ := qNm_of h
      refine g_nmi e_n23 ?_
      refine g_if_lt E 322 gdX12_fall_176 (by decide) h (fun h => ?_) (fun h => ?_)
      ·
        exact j322 o x2 z3 z5 z7 x9 x10 x11 x12 v h k0 k1
      ·
        refine g_lload_n E gdX12_fall_179 rfl 2 rfl ?_
        refine g_aload_n E gdX12_fall_180 rfl 0 rfl ?_
        refine g_get (T := TX12) E fw_X12 0 (wM_0 g ad o) rfl 18 (by decide) w_1484 rfl rfl gdX12_fall_181 ?_
        refine g_aload_n E gdX12_fall_184 rfl 0 rfl ?_
        refine g_get (T := TX12) E fw_X12 0 (wM_0 g ad o) rfl 28 (by decide) w_1494 rfl rfl gdX12_fall_185 ?_
        refine g_iload E gdX12_fall_188 8 rfl ?_
        obtain ⟨hi24, h⟩ := qIn_of h
        refine g_iald E 21 (wM_21 g ad o) (by decide) hi24 gdX12_fall_190 ?_
        obtain ⟨n25, e_n25, h⟩ := qNm_of h
        refine g_nmi e_n25 ?_
        obtain ⟨hi26, h⟩ := qIn_of h
        refine g_iald E 13 (wM_13 g ad o) (by decide) hi26 gdX12_fall_191 ?_
        obtain ⟨n27, e_n27, h⟩ := qNm_of h
        refine g_nmi e_n27 ?_
        obtain ⟨r28, hc29, h⟩ := qB_of h
        refine g_Si (r := r28) (As := [.long z3, iv n27]) (rest := []) (w := wM g ad o) E (c_X12_has l g (wM g ad o) z3 n27 r28 hc29) okm_X12_has w_1919 w_1918 rfl rfl (Nat.le_of_ble_eq_true rfl) ⟨Nat.le_of_ble_eq_true rfl, Nat.le_of_ble_eq_true rfl⟩ gdX12_fall_192 ?_
        refine g_if_ne E 322 gdX12_fall_195 (by decide) h (fun h => ?_) (fun h => ?_)
        ·
          exact j322 o x2 z3 z5 z7 x9 x10 x11 x12 v h k0 k1
        ·
          refine g_aload_n E gdX12_fall_198 rfl 0 rfl ?_
          refine g_aload_n E gdX12_fall_199 rfl 0 rfl ?_
          refine g_get (T := TX12) E fw_X12 0 (wM_0 g ad o) rfl 18 (by decide) w_1484 rfl rfl gdX12_fall_200 ?_
          refine g_aload_n E gdX12_fall_203 rfl 0 rfl ?_
          refine g_get (T := TX12) E fw_X12 0 (wM_0 g ad o) rfl 28 (by decide) w_1494 rfl rfl gdX12_fall_204 ?_
          refine g_iload E gdX12_fall_207 8 rfl ?_
          obtain ⟨hi30, h⟩ := qIn_of h
          refine g_iald E 21 (wM_21 g ad o) (by decide) hi30 gdX12_fall_209 ?_
          obtain ⟨n31, e_n31, h⟩ := qNm_of h
          refine g_nmi e_n31 ?_
          obtain ⟨hi32, h⟩ := qIn_of h
          refine g_iald E 13 (wM_13 g ad o) (by decide) hi32 gdX12_fall_210 ?_
          obtain ⟨n33, e_n33, h⟩ := qNm_of h
          refine g_nmi e_n33 ?_
          refine g_lload_n E gdX12_fall_211 rfl 2 rfl ?_
          obtain ⟨o36, hc35, h⟩ := qB_of h
          refine g_Vv (As := [iv n33, .long z3]) (rest := []) (w := wM g ad o36) E (c_X12_setSteps l g ad o n33 z3 o36 hc35) okm_X12_setSteps okw_X12_setSteps w_2025 rfl (wM_0 g ad o) rfl rfl (Nat.le_of_ble_eq_true rfl) ⟨Nat.le_of_ble_eq_true rfl, Nat.le_of_ble_eq_true rfl⟩ gdX12_fall_212 ?_
          refine g_bipush E gdX12_fall_215 (by decide) ?_
          refine g_istore E [(13, iv (-9)), (0, .ref (ad 0)), (2, iv x2), (3, .long z3), (5, .long z5), (7, .long z7), (9, iv x9), (10, iv x10), (11, iv x11), (12, iv x12)] gdX12_fall_217 (by decide) rfl ?_
          refine g_iconst E gdX12_fall_219 ?_
          refine g_istore E [(14, iv 0), (13, iv (-9)), (0, .ref (ad 0)), (2, iv x2), (3, .long z3), (5, .long z5), (7, .long z7), (9, iv x9), (10, iv x10), (11, iv x11), (12, iv x12)] gdX12_fall_220 (by decide) rfl ?_
          refine g_sub E [2, 3, 4, 5, 6, 7, 8, 9, 10, 1, 0] rfl ?_
          exact j222 o36 x2 z3 z5 z7 x9 x10 x11 x12 (-9) 0 v h k0 k1
  have j160 : ∀ (o : OO) (x2 : Int) (z3 : Int64) (z5 : Int64) (z7 : Int64) (x9 : Int) (x10 : Int) (x11 : Int) (x12 : Int) (v : (OO × Int64 × Int64 × Int × Int) ⊕ ((OO × Int64 × Int))), e_X12_fall_160 o x2 z3 z5 z7 x9 x10 x11 x12 = some v → (∀ (o : OO) (z5 : Int64) (z7 : Int64) (x10 : Int) (x11 : Int), v = .inl (o, z5, z7, x10, x11) → Go X 125 (wM g ad o) [(0, .ref (ad 0)), (2, iv x2), (3, .long z3), (5, .long z5), (7, .long z7), (9, iv x9), (10, iv x10), (11, iv x11)] []) → (∀ (o : OO) (z7 : Int64) (x10 : Int), v = .inr ((o, z7, x10)) → Go X 399 (wM g ad o) [(0, .ref (ad 0)), (7, .long z7), (10, iv x10)] []) → Go X 160 (wM g ad o) [(0, .ref (ad 0)), (2, iv x2), (3, .long z3), (5, .long z5), (7, .long z7), (9, iv x9), (10, iv x10), (11, iv x11), (12, iv x12)] [] := by
    intro o x2 z3 z5 z7 x9 x10 x11 x12 v h k0 k1
    unfold e_X12_fall_160 at h
    obtain ⟨r, hr, h⟩ := qB_of h
    refine l160 x2 z3 z5 z7 x9 x10 x11 r _ hr ?_
    ·
      intro u0 e
      have e := e.symm
      subst e
      have h : b_X12_fall_328 u0 x2 z3 z5 z7 x9 x10 x11 = some v := h
      exact j328 u0 x2 z3 z5 z7 x9 x10 x11 v h k0 k1
  have j157 : ∀ (o : OO) (x2 : Int) (z3 : Int64) (z5 : Int64) (z7 : Int64) (x9 : Int) (x10 : Int) (x11 : Int) (v : (OO × Int64 × Int64 × Int × Int) ⊕ ((OO × Int64 × Int))), b_X12_fall_157 o x2 z3 z5 z7 x9 x10 x11 = some v → (∀ (o : OO) (z5 : Int64) (z7 : Int64) (x10 : Int) (x11 : Int), v = .inl (o, z5, z7, x10, x11) → Go X 125 (wM g ad o) [(0, .ref (ad 0)), (2, iv x2), (3, .long z3), (5, .long z5), (7, .long z7), (9, iv x9), (10, iv x10), (11, iv x11)] []) → (∀ (o : OO) (z7 : Int64) (x10 : Int), v = .inr ((o, z7, x10)) → Go X 399 (wM g ad o) [(0, .ref (ad 0)), (7, .long z7), (10, iv x10)] []) → Go X 157 (wM g ad o) [(0, .ref (ad 0)), (2, iv x2), (3, .long z3), (5, .long z5), (7, .long z7), (9, iv x9), (10, iv x10), (11, iv x11)] [] := by
    intro o x2 z3 z5 z7 x9 x10 x11 v h k0 k1
    unfold b_X12_fall_157 at h
    refine g_iconst E gdX12_fall_157 ?_
    refine g_istore E [(12, iv 0), (0, .ref (ad 0)), (2, iv x2), (3, .long z3), (5, .long z5), (7, .long z7), (9, iv x9), (10, iv x10), (11, iv x11)] gdX12_fall_158 (by decide) rfl ?_
    refine g_sub E [1, 2, 3, 4, 5, 6, 7, 8, 0] rfl ?_
    exact j160 o x2 z3 z5 z7 x9 x10 x11 0 v h k0 k1
  have l134 : ∀ (x2 : Int) (z3 : Int64) (z5 : Int64) (z7 : Int64) (x9 : Int) (x10 : Int) (x11 : Int) (r : (OO)) (s0 : OO × Int), loopW (fun s => l_X12_fall_134 x2 z3 z5 z7 x9 x10 x11 s.1 s.2) s0 = some r → (∀ (o : OO), r = (o) → Go X 157 (wM g ad o) [(0, .ref (ad 0)), (2, iv x2), (3, .long z3), (5, .long z5), (7, .long z7), (9, iv x9), (10, iv x10), (11, iv x11)] []) → Go X 134 (wM g ad s0.1) [(0, .ref (ad 0)), (2, iv x2), (3, .long z3), (5, .long z5), (7, .long z7), (9, iv x9), (10, iv x10), (11, iv x11), (12, iv s0.2)] [] := by
    intro x2 z3 z5 z7 x9 x10 x11 r s0 h k1
    refine loop_rule (Head := fun s0 => Go X 134 (wM g ad s0.1) [(0, .ref (ad 0)), (2, iv x2), (3, .long z3), (5, .long z5), (7, .long z7), (9, iv x9), (10, iv x10), (11, iv x11), (12, iv s0.2)] []) h ?_
    intro s v h kk kx
    obtain ⟨o, x12⟩ := s
    have h : l_X12_fall_134 x2 z3 z5 z7 x9 x10 x11 o x12 = some v := h
    have k0 : ∀ (o : OO) (x12 : Int), v = .inl (o, x12) → Go X 134 (wM g ad o) [(0, .ref (ad 0)), (2, iv x2), (3, .long z3), (5, .long z5), (7, .long z7), (9, iv x9), (10, iv x10), (11, iv x11), (12, iv x12)] [] := fun o x12 e => kk (o, x12) e
    have k1 : ∀ (o : OO), v = .inr (o) → Go X 157 (wM g ad o) [(0, .ref (ad 0)), (2, iv x2), (3, .long z3), (5, .long z5), (7, .long z7), (9, iv x9), (10, iv x10), (11, iv x11)] [] := fun o e => k1 o (kx _ e).symm
    unfold l_X12_fall_134 at h
    refine g_iload E gdX12_fall_134 8 rfl ?_
    refine g_aload_n E gdX12_fall_136 rfl 0 rfl ?_
    refine g_get (T := TX12) E fw_X12 0 (wM_0 g ad o) rfl 17 (by decide) w_1483 rfl rfl gdX12_fall_137 ?_
    refine g_icmp_ge E 157 gdX12_fall_140 (by decide) h (fun h => ?_) (fun h => ?_)
    ·
      refine g_sub E [0, 1, 2, 3, 4, 5, 6, 7] rfl ?_
      exact k1 o (Option.some.inj h).symm
    ·
      refine g_aload_n E gdX12_fall_143 rfl 0 rfl ?_
      refine g_get (T := TX12) E fw_X12 0 (wM_0 g ad o) rfl 63 (by decide) w_1529 rfl rfl gdX12_fall_144 ?_
      refine g_iload E gdX12_fall_147 8 rfl ?_
      refine g_iconst E gdX12_fall_149 ?_
      obtain ⟨hi37, h⟩ := qIn_of h
      obtain ⟨o38, e_o38, h⟩ := qNm_of h
      refine g_iast (ws' := wM g ad o38) E 53 (wM_53 g ad o) (by decide) hi37 (by rw [e_o38]; exact wM_s53 g ad o _ _) gdX12_fall_150 ?_
      refine g_iinc E [(12, iv (x12 + 1)), (0, .ref (ad 0)), (2, iv x2), (3, .long z3), (5, .long z5), (7, .long z7), (9, iv x9), (10, iv x10), (11, iv x11)] gdX12_fall_151 8 rfl (by decide) rfl ?_
      refine g_goto E 134 gdX12_fall_154 (by decide) ?_
      refine g_sub E [1, 2, 3, 4, 5, 6, 7, 8, 0] rfl ?_
      exact k0 o38 (x12 + 1) (Option.some.inj h).symm
  have j134 : ∀ (o : OO) (x2 : Int) (z3 : Int64) (z5 : Int64) (z7 : Int64) (x9 : Int) (x10 : Int) (x11 : Int) (x12 : Int) (v : (OO × Int64 × Int64 × Int × Int) ⊕ ((OO × Int64 × Int))), e_X12_fall_134 o x2 z3 z5 z7 x9 x10 x11 x12 = some v → (∀ (o : OO) (z5 : Int64) (z7 : Int64) (x10 : Int) (x11 : Int), v = .inl (o, z5, z7, x10, x11) → Go X 125 (wM g ad o) [(0, .ref (ad 0)), (2, iv x2), (3, .long z3), (5, .long z5), (7, .long z7), (9, iv x9), (10, iv x10), (11, iv x11)] []) → (∀ (o : OO) (z7 : Int64) (x10 : Int), v = .inr ((o, z7, x10)) → Go X 399 (wM g ad o) [(0, .ref (ad 0)), (7, .long z7), (10, iv x10)] []) → Go X 134 (wM g ad o) [(0, .ref (ad 0)), (2, iv x2), (3, .long z3), (5, .long z5), (7, .long z7), (9, iv x9), (10, iv x10), (11, iv x11), (12, iv x12)] [] := by
    intro o x2 z3 z5 z7 x9 x10 x11 x12 v h k0 k1
    unfold e_X12_fall_134 at h
    obtain ⟨r, hr, h⟩ := qB_of h
    refine l134 x2 z3 z5 z7 x9 x10 x11 r _ hr ?_
    ·
      intro u0 e
      have e := e.symm
      subst e
      have h : b_X12_fall_157 u0 x2 z3 z5 z7 x9 x10 x11 = some v := h
      exact j157 u0 x2 z3 z5 z7 x9 x10 x11 v h k0 k1
  have l125 : ∀ (x2 : Int) (z3 : Int64) (x9 : Int) (r : (OO × Int64 × Int)) (s0 : OO × Int64 × Int64 × Int × Int), loopW (fun s => l_X12_fall_125 x2 z3 x9 s.1 s.2.1 s.2.2.1 s.2.2.2.1 s.2.2.2.2) s0 = some r → (∀ (o : OO) (z7 : Int64) (x10 : Int), r = ((o, z7, x10)) → Go X 399 (wM g ad o) [(0, .ref (ad 0)), (7, .long z7), (10, iv x10)] []) → Go X 125 (wM g ad s0.1) [(0, .ref (ad 0)), (2, iv x2), (3, .long z3), (5, .long s0.2.1), (7, .long s0.2.2.1), (9, iv x9), (10, iv s0.2.2.2.1), (11, iv s0.2.2.2.2)] [] := by
    intro x2 z3 x9 r s0 h k1
    refine loop_rule (Head := fun s0 => Go X 125 (wM g ad s0.1) [(0, .ref (ad 0)), (2, iv x2), (3, .long z3), (5, .long s0.2.1), (7, .long s0.2.2.1), (9, iv x9), (10, iv s0.2.2.2.1), (11, iv s0.2.2.2.2)] []) h ?_
    intro s v h kk kx
    obtain ⟨o, z5, z7, x10, x11⟩ := s
    have h : l_X12_fall_125 x2 z3 x9 o z5 z7 x10 x11 = some v := h
    have k0 : ∀ (o : OO) (z5 : Int64) (z7 : Int64) (x10 : Int) (x11 : Int), v = .inl (o, z5, z7, x10, x11) → Go X 125 (wM g ad o) [(0, .ref (ad 0)), (2, iv x2), (3, .long z3), (5, .long z5), (7, .long z7), (9, iv x9), (10, iv x10), (11, iv x11)] [] := fun o z5 z7 x10 x11 e => kk (o, z5, z7, x10, x11) e
    have k1 : ∀ (o : OO) (z7 : Int64) (x10 : Int), v = .inr ((o, z7, x10)) → Go X 399 (wM g ad o) [(0, .ref (ad 0)), (7, .long z7), (10, iv x10)] [] := fun o z7 x10 e => k1 o z7 x10 (kx _ e).symm
    unfold l_X12_fall_125 at h
    refine g_iload E gdX12_fall_125 7 rfl ?_
    refine g_iload_n E gdX12_fall_127 rfl 1 rfl ?_
    refine g_icmp_ge E 399 gdX12_fall_128 (by decide) h (fun h => ?_) (fun h => ?_)
    ·
      refine g_sub E [0, 4, 6] rfl ?_
      exact k1 o z7 x10 (Option.some.inj h).symm
    ·
      refine g_iconst E gdX12_fall_131 ?_
      refine g_istore E [(12, iv 0), (0, .ref (ad 0)), (2, iv x2), (3, .long z3), (5, .long z5), (7, .long z7), (9, iv x9), (10, iv x10), (11, iv x11)] gdX12_fall_132 (by decide) rfl ?_
      refine g_sub E [1, 2, 3, 4, 5, 6, 7, 8, 0] rfl ?_
      exact j134 o x2 z3 z5 z7 x9 x10 x11 0 v h k0 k1
  have j125 : ∀ (o : OO) (x2 : Int) (z3 : Int64) (z5 : Int64) (z7 : Int64) (x9 : Int) (x10 : Int) (x11 : Int), e_X12_fall_125 o x2 z3 z5 z7 x9 x10 x11 = some v → Go X 125 (wM g ad o) [(0, .ref (ad 0)), (2, iv x2), (3, .long z3), (5, .long z5), (7, .long z7), (9, iv x9), (10, iv x10), (11, iv x11)] [] := by
    intro o x2 z3 z5 z7 x9 x10 x11 h
    unfold e_X12_fall_125 at h
    obtain ⟨r, hr, h⟩ := qB_of h
    refine l125 x2 z3 x9 r _ hr ?_
    ·
      intro u0 u1 u2 e
      subst e
      have h : b_X12_fall_399 u0 u1 u2 = some v := h
      exact j399 u0 u1 u2 h
  have j112 : ∀ (o : OO) (x2 : Int) (z3 : Int64) (z5 : Int64) (z7 : Int64), b_X12_fall_112 o x2 z3 z5 z7 = some v → Go X 112 (wM g ad o) [(0, .ref (ad 0)), (2, iv x2), (3, .long z3), (5, .long z5), (7, .long z7)] [] := by
    intro o x2 z3 z5 z7 h
    unfold b_X12_fall_112 at h
    refine g_aload_n E gdX12_fall_112 rfl 0 rfl ?_
    refine g_iconst E gdX12_fall_113 ?_
    obtain ⟨r39, hc40, h⟩ := qB_of h
    refine g_Vi (r := r39) (As := [iv 4]) (rest := []) (w := wM g ad o) E (c_X12_nowInForce l g ad o 4 r39 hc40) okm_X12_nowInForce okw_X12_nowInForce w_1871 rfl (wM_0 g ad o) rfl rfl (Nat.le_of_ble_eq_true rfl) ⟨Nat.le_of_ble_eq_true rfl, Nat.le_of_ble_eq_true rfl⟩ gdX12_fall_114 ?_
    refine g_istore E [(9, iv r39), (0, .ref (ad 0)), (2, iv x2), (3, .long z3), (5, .long z5), (7, .long z7)] gdX12_fall_117 (by decide) rfl ?_
    refine g_iconst E gdX12_fall_119 ?_
    refine g_istore E [(10, iv 0), (9, iv r39), (0, .ref (ad 0)), (2, iv x2), (3, .long z3), (5, .long z5), (7, .long z7)] gdX12_fall_120 (by decide) rfl ?_
    refine g_iconst E gdX12_fall_122 ?_
    refine g_istore E [(11, iv 0), (10, iv 0), (9, iv r39), (0, .ref (ad 0)), (2, iv x2), (3, .long z3), (5, .long z5), (7, .long z7)] gdX12_fall_123 (by decide) rfl ?_
    refine g_sub E [3, 4, 5, 6, 7, 2, 1, 0] rfl ?_
    exact j125 o x2 z3 z5 z7 r39 0 0 h
  have j103 : ∀ (o : OO) (x2 : Int) (z3 : Int64) (z7 : Int64) (x9 : Int) (y0 : Int64) (y1 : Int64) (v : (Int64 × Int) ⊕ ((Int64))), b_X12_fall_103 o x2 z3 z7 x9 y0 y1 = some v → (∀ (z5 : Int64) (x9 : Int), v = .inl (z5, x9) → Go X 49 (wM g ad o) [(0, .ref (ad 0)), (2, iv x2), (3, .long z3), (5, .long z5), (7, .long z7), (9, iv x9)] []) → (∀ (z5 : Int64), v = .inr (z5) → Go X 112 (wM g ad o) [(0, .ref (ad 0)), (2, iv x2), (3, .long z3), (5, .long z5), (7, .long z7)] []) → Go X 103 (wM g ad o) [(0, .ref (ad 0)), (2, iv x2), (3, .long z3), (7, .long z7), (9, iv x9)] [.long y1, .long y0] := by
    intro o x2 z3 z7 x9 y0 y1 v h k0 k1
    unfold b_X12_fall_103 at h
    refine g_lor E gdX12_fall_103 ?_
    obtain ⟨m41, e_m41, h⟩ := qNm_of h
    refine g_nml e_m41 ?_
    refine g_lstore E [(5, .long m41), (0, .ref (ad 0)), (2, iv x2), (3, .long z3), (7, .long z7), (9, iv x9)] gdX12_fall_104 (by decide) rfl ?_
    refine g_iinc E [(9, iv (x9 + 1)), (5, .long m41), (0, .ref (ad 0)), (2, iv x2), (3, .long z3), (7, .long z7)] gdX12_fall_106 5 rfl (by decide) rfl ?_
    refine g_goto E 49 gdX12_fall_109 (by decide) ?_
    refine g_sub E [2, 3, 4, 1, 5, 0] rfl ?_
    exact k0 m41 (x9 + 1) (Option.some.inj h).symm
  have j102 : ∀ (o : OO) (x2 : Int) (z3 : Int64) (z7 : Int64) (x9 : Int) (y0 : Int64) (v : (Int64 × Int) ⊕ ((Int64))), b_X12_fall_102 o x2 z3 z7 x9 y0 = some v → (∀ (z5 : Int64) (x9 : Int), v = .inl (z5, x9) → Go X 49 (wM g ad o) [(0, .ref (ad 0)), (2, iv x2), (3, .long z3), (5, .long z5), (7, .long z7), (9, iv x9)] []) → (∀ (z5 : Int64), v = .inr (z5) → Go X 112 (wM g ad o) [(0, .ref (ad 0)), (2, iv x2), (3, .long z3), (5, .long z5), (7, .long z7)] []) → Go X 102 (wM g ad o) [(0, .ref (ad 0)), (2, iv x2), (3, .long z3), (7, .long z7), (9, iv x9)] [.long y0] := by
    intro o x2 z3 z7 x9 y0 v h k0 k1
    unfold b_X12_fall_102 at h
    refine g_lconst (v := 0) E gdX12_fall_102 (by decide) ?_
    exact j103 o x2 z3 z7 x9 y0 (0 : Int64) v h k0 k1
  have l49 : ∀ (o : OO) (x2 : Int) (z3 : Int64) (z7 : Int64) (r : (Int64)) (s0 : Int64 × Int), loopW (fun s => l_X12_fall_49 o x2 z3 z7 s.1 s.2) s0 = some r → (∀ (z5 : Int64), r = (z5) → Go X 112 (wM g ad o) [(0, .ref (ad 0)), (2, iv x2), (3, .long z3), (5, .long z5), (7, .long z7)] []) → Go X 49 (wM g ad o) [(0, .ref (ad 0)), (2, iv x2), (3, .long z3), (5, .long s0.1), (7, .long z7), (9, iv s0.2)] [] := by
    intro o x2 z3 z7 r s0 h k1
    refine loop_rule (Head := fun s0 => Go X 49 (wM g ad o) [(0, .ref (ad 0)), (2, iv x2), (3, .long z3), (5, .long s0.1), (7, .long z7), (9, iv s0.2)] []) h ?_
    intro s v h kk kx
    obtain ⟨z5, x9⟩ := s
    have h : l_X12_fall_49 o x2 z3 z7 z5 x9 = some v := h
    have k0 : ∀ (z5 : Int64) (x9 : Int), v = .inl (z5, x9) → Go X 49 (wM g ad o) [(0, .ref (ad 0)), (2, iv x2), (3, .long z3), (5, .long z5), (7, .long z7), (9, iv x9)] [] := fun z5 x9 e => kk (z5, x9) e
    have k1 : ∀ (z5 : Int64), v = .inr (z5) → Go X 112 (wM g ad o) [(0, .ref (ad 0)), (2, iv x2), (3, .long z3), (5, .long z5), (7, .long z7)] [] := fun z5 e => k1 z5 (kx _ e).symm
    unfold l_X12_fall_49 at h
    refine g_iload E gdX12_fall_49 5 rfl ?_
    refine g_aload_n E gdX12_fall_51 rfl 0 rfl ?_
    refine g_get (T := TX12) E fw_X12 0 (wM_0 g ad o) rfl 17 (by decide) w_1483 rfl rfl gdX12_fall_52 ?_
    refine g_icmp_ge E 112 gdX12_fall_55 (by decide) h (fun h => ?_) (fun h => ?_)
    ·
      refine g_sub E [0, 1, 2, 3, 4] rfl ?_
      exact k1 z5 (Option.some.inj h).symm
    ·
      refine g_lload E gdX12_fall_58 3 rfl ?_
      refine g_aload_n E gdX12_fall_60 rfl 0 rfl ?_
      refine g_get (T := TX12) E fw_X12 0 (wM_0 g ad o) rfl 19 (by decide) w_1485 rfl rfl gdX12_fall_61 ?_
      refine g_iload E gdX12_fall_64 5 rfl ?_
      obtain ⟨hi42, h⟩ := qIn_of h
      refine g_iald E 14 (wM_14 g ad o) (by decide) hi42 gdX12_fall_66 ?_
      obtain ⟨n43, e_n43, h⟩ := qNm_of h
      refine g_nmi e_n43 ?_
      refine g_iconst E gdX12_fall_67 ?_
      refine g_icmp_ne E 102 gdX12_fall_68 (by decide) h (fun h => ?_) (fun h => ?_)
      ·
        refine g_sub E [0, 1, 2, 4, 5] rfl ?_
        exact j102 o x2 z3 z7 x9 z5 v h k0 k1
      ·
        refine g_aload_n E gdX12_fall_71 rfl 0 rfl ?_
        refine g_get (T := TX12) E fw_X12 0 (wM_0 g ad o) rfl 21 (by decide) w_1487 rfl rfl gdX12_fall_72 ?_
        refine g_iload E gdX12_fall_75 5 rfl ?_
        obtain ⟨hi44, h⟩ := qIn_of h
        refine g_zald E 16 (wM_16 g ad o) (by decide) hi44 gdX12_fall_77 ?_
        obtain ⟨n45, e_n45, h⟩ := qNm_of h
        refine g_nmi e_n45 ?_
        refine g_if_ne E 102 gdX12_fall_78 (by decide) h (fun h => ?_) (fun h => ?_)
        ·
          refine g_sub E [0, 1, 2, 4, 5] rfl ?_
          exact j102 o x2 z3 z7 x9 z5 v h k0 k1
        ·
          refine g_lload_n E gdX12_fall_81 rfl 2 rfl ?_
          refine g_aload_n E gdX12_fall_82 rfl 0 rfl ?_
          refine g_get (T := TX12) E fw_X12 0 (wM_0 g ad o) rfl 18 (by decide) w_1484 rfl rfl gdX12_fall_83 ?_
          refine g_iload E gdX12_fall_86 5 rfl ?_
          obtain ⟨hi46, h⟩ := qIn_of h
          refine g_iald E 13 (wM_13 g ad o) (by decide) hi46 gdX12_fall_88 ?_
          obtain ⟨n47, e_n47, h⟩ := qNm_of h
          refine g_nmi e_n47 ?_
          obtain ⟨r48, hc49, h⟩ := qB_of h
          refine g_Si (r := r48) (As := [.long z3, iv n47]) (rest := [.long z5]) (w := wM g ad o) E (c_X12_has l g (wM g ad o) z3 n47 r48 hc49) okm_X12_has w_1919 w_1918 rfl rfl (Nat.le_of_ble_eq_true rfl) ⟨Nat.le_of_ble_eq_true rfl, Nat.le_of_ble_eq_true rfl⟩ gdX12_fall_89 ?_
          refine g_if_ne E 102 gdX12_fall_92 (by decide) h (fun h => ?_) (fun h => ?_)
          ·
            refine g_sub E [0, 1, 2, 4, 5] rfl ?_
            exact j102 o x2 z3 z7 x9 z5 v h k0 k1
          ·
            refine g_lconst (v := 1) E gdX12_fall_95 (by decide) ?_
            refine g_iload E gdX12_fall_96 5 rfl ?_
            refine g_lshl E gdX12_fall_98 ?_
            refine g_goto E 103 gdX12_fall_99 (by decide) ?_
            refine g_sub E [0, 1, 2, 4, 5] rfl ?_
            exact j103 o x2 z3 z7 x9 z5 (jshl (1 : Int64) (Int32.ofInt x9)) v h k0 k1
  have j49 : ∀ (o : OO) (x2 : Int) (z3 : Int64) (z5 : Int64) (z7 : Int64) (x9 : Int), e_X12_fall_49 o x2 z3 z5 z7 x9 = some v → Go X 49 (wM g ad o) [(0, .ref (ad 0)), (2, iv x2), (3, .long z3), (5, .long z5), (7, .long z7), (9, iv x9)] [] := by
    intro o x2 z3 z5 z7 x9 h
    unfold e_X12_fall_49 at h
    obtain ⟨r, hr, h⟩ := qB_of h
    refine l49 o x2 z3 z7 r _ hr ?_
    ·
      intro u0 e
      have e := e.symm
      subst e
      have h : b_X12_fall_112 o x2 z3 u0 z7 = some v := h
      exact j112 o x2 z3 u0 z7 h
  unfold s_X12_fall at h
  refine g_aload_n E gdX12_fall_0 rfl 0 rfl ?_
  refine g_iload_n E gdX12_fall_1 rfl 1 rfl ?_
  obtain ⟨r50, hc51, h⟩ := qB_of h
  refine g_Vi (r := r50) (As := [iv x1]) (rest := []) (w := wM g ad o) E (c_X12_isMark l g ad o x1 r50 hc51) okm_X12_isMark okw_X12_isMark w_1903 rfl (wM_0 g ad o) rfl rfl (Nat.le_of_ble_eq_true rfl) ⟨Nat.le_of_ble_eq_true rfl, Nat.le_of_ble_eq_true rfl⟩ gdX12_fall_2 ?_
  refine g_if_eq E 18 gdX12_fall_5 (by decide) h (fun h => ?_) (fun h => ?_)
  ·
    refine g_sub E [] rfl ?_
    exact j18 o h
  ·
    refine g_iload_n E gdX12_fall_8 rfl 2 rfl ?_
    refine g_iconst E gdX12_fall_9 ?_
    refine g_bipush E gdX12_fall_10 (by decide) ?_
    obtain ⟨r52, hc53, h⟩ := qB_of h
    refine g_Si (r := r52) (As := [iv x2, iv 0, iv 20]) (rest := []) (w := wM g ad o) E (c_X12_in l g (wM g ad o) x2 0 20 r52 hc53) okm_X12_in w_1706 w_1705 rfl rfl (Nat.le_of_ble_eq_true rfl) ⟨Nat.le_of_ble_eq_true rfl, Nat.le_of_ble_eq_true rfl⟩ gdX12_fall_12 ?_
    refine g_if_ne E 20 gdX12_fall_15 (by decide) h (fun h => ?_) (fun h => ?_)
    ·
      refine g_aload_n E gdX12_fall_20 rfl 0 rfl ?_
      refine g_iload_n E gdX12_fall_21 rfl 1 rfl ?_
      obtain ⟨r54, hc55, h⟩ := qB_of h
      refine g_Vi (r := r54) (As := [iv x1]) (rest := []) (w := wM g ad o) E (c_X12_isLine l g ad o x1 r54 hc55) okm_X12_isLine okw_X12_isLine w_1907 rfl (wM_0 g ad o) rfl rfl (Nat.le_of_ble_eq_true rfl) ⟨Nat.le_of_ble_eq_true rfl, Nat.le_of_ble_eq_true rfl⟩ gdX12_fall_22 ?_
      refine g_if_ne E 34 gdX12_fall_25 (by decide) h (fun h => ?_) (fun h => ?_)
      ·
        refine g_aload_n E gdX12_fall_34 rfl 0 rfl ?_
        refine g_iload_n E gdX12_fall_35 rfl 1 rfl ?_
        obtain ⟨p56, hc57, h⟩ := qB_of h
        refine g_Vl (r := p56) (As := [iv x1]) (rest := []) (w := wM g ad o) E (c_X12_cellsOf l g ad o x1 p56 hc57) okm_X12_cellsOf okw_X12_cellsOf w_1914 rfl (wM_0 g ad o) rfl rfl (Nat.le_of_ble_eq_true rfl) ⟨Nat.le_of_ble_eq_true rfl, Nat.le_of_ble_eq_true rfl⟩ gdX12_fall_36 ?_
        refine g_lstore_n E [(3, .long p56), (0, .ref (ad 0)), (1, iv x1), (2, iv x2)] gdX12_fall_39 rfl (by decide) rfl ?_
        refine g_lconst (v := 0) E gdX12_fall_40 (by decide) ?_
        obtain ⟨m58, e_m58, h⟩ := qNm_of h
        refine g_nml e_m58 ?_
        refine g_lstore E [(5, .long m58), (3, .long p56), (0, .ref (ad 0)), (1, iv x1), (2, iv x2)] gdX12_fall_41 (by decide) rfl ?_
        refine g_lconst (v := 0) E gdX12_fall_43 (by decide) ?_
        obtain ⟨m59, e_m59, h⟩ := qNm_of h
        refine g_nml e_m59 ?_
        refine g_lstore E [(7, .long m59), (5, .long m58), (3, .long p56), (0, .ref (ad 0)), (1, iv x1), (2, iv x2)] gdX12_fall_44 (by decide) rfl ?_
        refine g_iconst E gdX12_fall_46 ?_
        refine g_istore E [(9, iv 0), (7, .long m59), (5, .long m58), (3, .long p56), (0, .ref (ad 0)), (1, iv x1), (2, iv x2)] gdX12_fall_47 (by decide) rfl ?_
        refine g_sub E [4, 6, 3, 2, 1, 0] rfl ?_
        exact j49 o x2 p56 m58 m59 0 h
      ·
        refine g_aload_n E gdX12_fall_28 rfl 0 rfl ?_
        refine g_iconst E gdX12_fall_29 ?_
        obtain ⟨r60, o62, hc61, h⟩ := qB2_of h
        refine g_Vi (r := r60) (As := [iv 3]) (rest := []) (w := wM g ad o62) E (c_X12_meets l g ad o 3 (r60, o62) hc61) okm_X12_meets okw_X12_meets w_1708 rfl (wM_0 g ad o) rfl rfl (Nat.le_of_ble_eq_true rfl) ⟨Nat.le_of_ble_eq_true rfl, Nat.le_of_ble_eq_true rfl⟩ gdX12_fall_30 ?_
        exact g_iret E hQ (by rw [← Option.some.inj h]) (by rw [← Option.some.inj h]) gdX12_fall_33
    ·
      refine g_sub E [] rfl ?_
      exact j18 o h
